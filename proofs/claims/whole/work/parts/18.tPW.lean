/-! tables and walks, by program: 18.tPW -/
def T_PW_bar : List pmE := [
  (0, [], .iload 1, 0, 0, 0),
  (1, [], .iconst 0, 0, 0, 0),
  (2, [], .iconst 999, 2, 0, 0),
  (5, [], .invokeinterface 135 13, 1, 73, 385),
  (8, [], .ifCond .ne 22, 0, 0, 0),
  (11, [], .iload 2, 0, 0, 0),
  (12, [], .iconst 0, 0, 0, 0),
  (13, [], .iconst 999, 2, 0, 0),
  (16, [], .invokeinterface 135 13, 1, 73, 385),
  (19, [], .ifCond .eq 24, 0, 0, 0),
  (22, [], .iconst (-1), 0, 0, 0),
  (23, [], .ireturn, 0, 0, 0),
  (24, [], .aload 0, 0, 0, 0),
  (25, [], .getfield 513, 0, 20, 348),
  (28, [], .iload 1, 0, 0, 0),
  (29, [], .iload 2, 0, 0, 0),
  (30, [], .invokeinterface 24 269, 0, 77, 388),
  (33, [], .ireturn, 0, 0, 0)]
theorem tk_PW_bar : pm_okT M_PW_bar T_PW_bar = true := by decide +kernel
theorem ok_PW_bar : pm_okm M_PW_bar := pm_okm_of _ 384 76 382 383 (by decide +kernel)
set_option maxRecDepth 100000 in
set_option maxHeartbeats 4000000 in
theorem m_PW_bar {d : Nat} {H : pmT} {Q : pmQ} (a1 : Int32) (a2 : Int32)
    (h : (a1 < (0 : Int32) → Q (some (.int (-1 : Int32))) H) ∧ (¬ a1 < (0 : Int32) → (a1 ≤ (999 : Int32) → (a2 < (0 : Int32) → Q (some (.int (-1 : Int32))) H) ∧ (¬ a2 < (0 : Int32) → (a2 ≤ (999 : Int32) → pm_R d M_Ha_add [.ref 2, .int a1, .int a2] H (pm_i (fun x10 H9 => Q (some (.int x10)) H9))) ∧ (¬ a2 ≤ (999 : Int32) → Q (some (.int (-1 : Int32))) H))) ∧ (¬ a1 ≤ (999 : Int32) → Q (some (.int (-1 : Int32))) H))) : pm_R (d + 1) M_PW_bar [.ref 0, .int a1, .int a2] H Q :=
  pm_walk (n := 16) ok_PW_bar tk_PW_bar rfl (Nat.le_of_ble_eq_true rfl) (show pm_R d M_PW_outside [.int a1, .int (0 : Int32), .int (999 : Int32)] H (pm_i (fun x2 H1 => (¬ x2 = 0 → Q (some (.int (-1 : Int32))) H1) ∧ (x2 = 0 → pm_R d M_PW_outside [.int a2, .int (0 : Int32), .int (999 : Int32)] H1 (pm_i (fun x4 H3 => (x4 = 0 → pm_R d M_Ha_add [.ref 2, .int a1, .int a2] H3 (pm_i (fun x6 H5 => Q (some (.int x6)) H5))) ∧ (¬ x4 = 0 → Q (some (.int (-1 : Int32))) H3)))))) from u_PW_outside a1 (0 : Int32) (999 : Int32) (⟨fun q1 => ⟨Or.inr rfl, ⟨fun _ => (h.1 q1), fun z => absurd z (by decide)⟩⟩, fun q1 => ⟨fun q2 => ⟨Or.inl rfl, ⟨fun z => absurd (by decide) z, fun _ => u_PW_outside a2 (0 : Int32) (999 : Int32) (⟨fun q3 => ⟨Or.inr rfl, ⟨fun z => absurd z (by decide), fun _ => (((h.2 q1).1 q2).1 q3)⟩⟩, fun q3 => ⟨fun q4 => ⟨Or.inl rfl, ⟨fun _ => ((((h.2 q1).1 q2).2 q3).1 q4), fun z => absurd (by decide) z⟩⟩, fun q4 => ⟨Or.inr rfl, ⟨fun z => absurd z (by decide), fun _ => ((((h.2 q1).1 q2).2 q3).2 q4)⟩⟩⟩⟩)⟩⟩, fun q2 => ⟨Or.inr rfl, ⟨fun _ => ((h.2 q1).2 q2), fun z => absurd z (by decide)⟩⟩⟩⟩))
def T_PW_bars : List pmE := [
  (0, [], .iload 1, 0, 0, 0),
  (1, [], .invokeinterface 137 5, 1, 81, 396),
  (4, [], .ifCond .ne 17, 0, 0, 0),
  (7, [], .iload 3, 0, 0, 0),
  (8, [], .iconst 1, 0, 0, 0),
  (9, [], .iconst 12, 1, 0, 0),
  (11, [], .invokeinterface 135 13, 1, 73, 385),
  (14, [], .ifCond .eq 19, 0, 0, 0),
  (17, [], .iconst (-1), 0, 0, 0),
  (18, [], .ireturn, 0, 0, 0),
  (19, [], .aload 0, 0, 0, 0),
  (20, [], .getfield 518, 0, 51, 353),
  (23, [], .iload 1, 0, 0, 0),
  (24, [], .aaload, 0, 0, 0),
  (25, [], .astore 4, 1, 0, 0),
  (27, [], .aload 4, 1, 0, 0),
  (29, [], .invokeinterface 82 517, 0, 85, 399),
  (32, [], .ifCond .eq 37, 0, 0, 0),
  (35, [], .iconst 0, 0, 0, 0),
  (36, [], .ireturn, 0, 0, 0),
  (37, [], .aload 4, 1, 0, 0),
  (39, [], .iconst 1, 0, 0, 0),
  (40, [], .invokeinterface 84 521, 0, 89, 403),
  (43, [], .ifCond .ne 49, 0, 0, 0),
  (46, [], .iconst (-12), 1, 0, 0),
  (48, [], .ireturn, 0, 0, 0),
  (49, [], .iconst 0, 0, 0, 0),
  (50, [], .istore 5, 1, 0, 0),
  (52, [], .iload 2, 0, 0, 0),
  (53, [], .istore 6, 1, 0, 0),
  (55, [0, 3, 4, 5, 6], .iload 5, 1, 0, 0),
  (57, [], .iload 3, 0, 0, 0),
  (58, [], .if_icmp .ge 115, 0, 0, 0),
  (61, [], .iload 6, 1, 0, 0),
  (63, [], .ifCond .lt 115, 0, 0, 0),
  (66, [], .iload 6, 1, 0, 0),
  (68, [], .aload 4, 1, 0, 0),
  (70, [], .getfield 450, 0, 92, 334),
  (73, [], .iconst 1, 0, 0, 0),
  (74, [], .isub, 0, 0, 0),
  (75, [], .if_icmp .ge 115, 0, 0, 0),
  (78, [], .aload 0, 0, 0, 0),
  (79, [], .aload 4, 1, 0, 0),
  (81, [], .iload 6, 1, 0, 0),
  (83, [], .invokeinterface 88 522, 0, 96, 411),
  (86, [], .l2i, 0, 0, 0),
  (87, [], .aload 4, 1, 0, 0),
  (89, [], .iload 6, 1, 0, 0),
  (91, [], .iconst 1, 0, 0, 0),
  (92, [], .iadd, 0, 0, 0),
  (93, [], .invokeinterface 88 522, 0, 96, 411),
  (96, [], .l2i, 0, 0, 0),
  (97, [], .invokeinterface 92 589, 0, 100, 416),
  (100, [], .ifCond .ge 106, 0, 0, 0),
  (103, [], .goto 115, 0, 0, 0),
  (106, [], .iinc 5 1, 0, 0, 0),
  (109, [], .iinc 6 2, 0, 0, 0),
  (112, [], .goto 55, 0, 0, 0),
  (115, [], .iload 5, 1, 0, 0),
  (117, [], .ireturn, 0, 0, 0)]
theorem tk_PW_bars : pm_okT M_PW_bars T_PW_bars = true := by decide +kernel
theorem ok_PW_bars : pm_okm M_PW_bars := pm_okm_of _ 395 76 393 394 (by decide +kernel)
set_option maxRecDepth 100000 in
set_option maxHeartbeats 4000000 in
theorem m_PW_bars {d : Nat} {H : pmT} {Q : pmQ} (a1 : Int32) (a2 : Int32) (a3 : Int32)
    (h : (a1 < (0 : Int32) → Q (some (.int (-1 : Int32))) H) ∧ (¬ a1 < (0 : Int32) → (a1 ≤ (5 : Int32) → (a3 < (1 : Int32) → Q (some (.int (-1 : Int32))) H) ∧ (¬ a3 < (1 : Int32) → (a3 ≤ (12 : Int32) → vp_in a1 6 ∧ ((0 ≤ (H.1 (43 + 2 * a1.toNatClampNeg) 0) → ((H.1 (43 + 2 * a1.toNatClampNeg) 1) = (-1 : Int32) → Q (some (.int (-12 : Int32))) H) ∧ (¬ (H.1 (43 + 2 * a1.toNatClampNeg) 1) = (-1 : Int32) → (¬ (H.1 (43 + 2 * a1.toNatClampNeg) 1) = (1 : Int32) → Q (some (.int (-12 : Int32))) H) ∧ ((H.1 (43 + 2 * a1.toNatClampNeg) 1) = (1 : Int32) → pm_RW none (d + 2) M_PW_bars Q 55 [(0, .ref 0), (3, .int a3), (4, .ref (43 + 2 * a1.toNatClampNeg)), (5, .int (0 : Int32)), (6, .int a2)] [] H))) ∧ (¬ 0 ≤ (H.1 (43 + 2 * a1.toNatClampNeg) 0) → (¬ (H.1 (43 + 2 * a1.toNatClampNeg) 1) = (-1 : Int32) → (¬ (H.1 (43 + 2 * a1.toNatClampNeg) 1) = (1 : Int32) → Q (some (.int (-12 : Int32))) H) ∧ ((H.1 (43 + 2 * a1.toNatClampNeg) 1) = (1 : Int32) → pm_RW none (d + 2) M_PW_bars Q 55 [(0, .ref 0), (3, .int a3), (4, .ref (43 + 2 * a1.toNatClampNeg)), (5, .int (0 : Int32)), (6, .int a2)] [] H)) ∧ ((H.1 (43 + 2 * a1.toNatClampNeg) 1) = (-1 : Int32) → Q (some (.int (0 : Int32))) H)))) ∧ (¬ a3 ≤ (12 : Int32) → Q (some (.int (-1 : Int32))) H))) ∧ (¬ a1 ≤ (5 : Int32) → Q (some (.int (-1 : Int32))) H))) : pm_R (d + 2) M_PW_bars [.ref 0, .int a1, .int a2, .int a3] H Q :=
  pm_walk (n := 25) ok_PW_bars tk_PW_bars rfl (Nat.le_of_ble_eq_true rfl) (show pm_R (d + 1) M_PW_noShelf [.int a1] H (pm_i (fun x2 H1 => (¬ x2 = 0 → Q (some (.int (-1 : Int32))) H1) ∧ (x2 = 0 → pm_R (d + 1) M_PW_outside [.int a3, .int (1 : Int32), .int (12 : Int32)] H1 (pm_i (fun x4 H3 => (x4 = 0 → vp_in a1 6 ∧ (pm_chkO (43 + 2 * a1.toNatClampNeg) 7 (pm_R (d + 1) M_Sh_isEmpty [.ref (43 + 2 * a1.toNatClampNeg)] H3 (pm_i (fun x6 H5 => (x6 = 0 → pm_chkO (43 + 2 * a1.toNatClampNeg) 7 (pm_R (d + 1) M_Sh_isRowOf [.ref (43 + 2 * a1.toNatClampNeg), .int (1 : Int32)] H5 (pm_i (fun x8 H7 => (¬ x8 = 0 → pm_RW none (d + 2) M_PW_bars Q 55 [(0, .ref 0), (3, .int a3), (4, .ref (43 + 2 * a1.toNatClampNeg)), (5, .int (0 : Int32)), (6, .int a2)] [] H7) ∧ (x8 = 0 → Q (some (.int (-12 : Int32))) H7))))) ∧ (¬ x6 = 0 → Q (some (.int (0 : Int32))) H5)))))) ∧ (¬ x4 = 0 → Q (some (.int (-1 : Int32))) H3)))))) from u_PW_noShelf a1 (u_PW_outside a1 (0 : Int32) (5 : Int32) (⟨fun q1 => ⟨Or.inr rfl, ⟨Or.inr rfl, ⟨fun _ => (h.1 q1), fun z => absurd z (by decide)⟩⟩⟩, fun q1 => ⟨fun q2 => ⟨Or.inl rfl, ⟨Or.inl rfl, ⟨fun z => absurd (by decide) z, fun _ => u_PW_outside a3 (1 : Int32) (12 : Int32) (⟨fun q3 => ⟨Or.inr rfl, ⟨fun z => absurd z (by decide), fun _ => (((h.2 q1).1 q2).1 q3)⟩⟩, fun q3 => ⟨fun q4 => ⟨Or.inl rfl, ⟨fun _ => ⟨((((h.2 q1).1 q2).2 q3).1 q4).1, pm_mkO (pm_shO ((((h.2 q1).1 q2).2 q3).1 q4).1) (u_Sh_isEmpty (43 + 2 * a1.toNatClampNeg) (pm_mkO (pm_shO ((((h.2 q1).1 q2).2 q3).1 q4).1) (⟨fun q5 => ⟨Or.inl rfl, ⟨fun _ => pm_mkO (pm_shO ((((h.2 q1).1 q2).2 q3).1 q4).1) (u_Sh_isRowOf (43 + 2 * a1.toNatClampNeg) (1 : Int32) (pm_mkO (pm_shO ((((h.2 q1).1 q2).2 q3).1 q4).1) (u_Sh_isRow (43 + 2 * a1.toNatClampNeg) (pm_mkO (pm_shO ((((h.2 q1).1 q2).2 q3).1 q4).1) (⟨fun q6 => ⟨Or.inl rfl, ⟨fun _ => ⟨Or.inl rfl, ⟨fun z => absurd (by decide) z, fun _ => ((((((h.2 q1).1 q2).2 q3).1 q4).2.1 q5).1 q6)⟩⟩, fun z => absurd (by decide) z⟩⟩, fun q6 => ⟨Or.inr rfl, ⟨fun z => absurd z (by decide), fun _ => pm_mkO (pm_shO ((((h.2 q1).1 q2).2 q3).1 q4).1) (⟨fun q7 => ⟨Or.inl rfl, ⟨fun z => absurd (by decide) z, fun _ => (((((((h.2 q1).1 q2).2 q3).1 q4).2.1 q5).2 q6).1 q7)⟩⟩, fun q7 => ⟨Or.inr rfl, ⟨fun _ => (((((((h.2 q1).1 q2).2 q3).1 q4).2.1 q5).2 q6).2 q7), fun z => absurd z (by decide)⟩⟩⟩)⟩⟩⟩))))), fun z => absurd (by decide) z⟩⟩, fun q5 => pm_mkO (pm_shO ((((h.2 q1).1 q2).2 q3).1 q4).1) (⟨fun q8 => ⟨Or.inl rfl, ⟨fun _ => pm_mkO (pm_shO ((((h.2 q1).1 q2).2 q3).1 q4).1) (u_Sh_isRowOf (43 + 2 * a1.toNatClampNeg) (1 : Int32) (pm_mkO (pm_shO ((((h.2 q1).1 q2).2 q3).1 q4).1) (u_Sh_isRow (43 + 2 * a1.toNatClampNeg) (pm_mkO (pm_shO ((((h.2 q1).1 q2).2 q3).1 q4).1) (⟨fun z => absurd z q8, fun _ => ⟨Or.inr rfl, ⟨fun z => absurd z (by decide), fun _ => pm_mkO (pm_shO ((((h.2 q1).1 q2).2 q3).1 q4).1) (⟨fun q9 => ⟨Or.inl rfl, ⟨fun z => absurd (by decide) z, fun _ => (((((((h.2 q1).1 q2).2 q3).1 q4).2.2 q5).1 q8).1 q9)⟩⟩, fun q9 => ⟨Or.inr rfl, ⟨fun _ => (((((((h.2 q1).1 q2).2 q3).1 q4).2.2 q5).1 q8).2 q9), fun z => absurd z (by decide)⟩⟩⟩)⟩⟩⟩))))), fun z => absurd (by decide) z⟩⟩, fun q8 => ⟨Or.inr rfl, ⟨fun z => absurd z (by decide), fun _ => ((((((h.2 q1).1 q2).2 q3).1 q4).2.2 q5).2 q8)⟩⟩⟩)⟩)))⟩, fun z => absurd (by decide) z⟩⟩, fun q4 => ⟨Or.inr rfl, ⟨fun z => absurd z (by decide), fun _ => ((((h.2 q1).1 q2).2 q3).2 q4)⟩⟩⟩⟩)⟩⟩⟩, fun q2 => ⟨Or.inr rfl, ⟨Or.inr rfl, ⟨fun _ => ((h.2 q1).2 q2), fun z => absurd z (by decide)⟩⟩⟩⟩⟩)))
set_option maxRecDepth 100000 in
set_option maxHeartbeats 4000000 in
theorem b_PW_bars_55 {d : Nat} {H : pmT} {Q : pmQ} (v3 : Int32) (s24 : Nat) (v5 : Int32) (v6 : Int32) (hs24 : pm_SH[s24]? = some (.inl 7))
    (h : (v3 ≤ v5 → Q (some (.int v5)) H) ∧ (¬ v3 ≤ v5 → (v6 < 0 → Q (some (.int v5)) H) ∧ (¬ v6 < 0 → (((H.1 s24 2) - (1 : Int32)) ≤ v6 → Q (some (.int v5)) H) ∧ (¬ ((H.1 s24 2) - (1 : Int32)) ≤ v6 → pm_R (d + 1) M_Sh_at [.ref s24, .int v6] H (pm_l (fun x2 H1 => pm_R (d + 1) M_Sh_at [.ref s24, .int (v6 + (1 : Int32))] H1 (pm_l (fun x4 H3 => pm_R (d + 1) M_PW_bar [.ref 0, .int x2.toInt32, .int x4.toInt32] H3 (pm_i (fun x6 H5 => (0 ≤ x6 → pm_RW none (d + 2) M_PW_bars Q 55 [(0, .ref 0), (3, .int v3), (4, .ref s24), (5, .int (v5 + (1 : Int32))), (6, .int (v6 + (2 : Int32)))] [] H5) ∧ (¬ 0 ≤ x6 → Q (some (.int v5)) H5))))))))))) : pm_RW none (d + 2) M_PW_bars Q 55 [(0, .ref 0), (3, .int v3), (4, .ref s24), (5, .int v5), (6, .int v6)] [] H :=
  pm_body tk_PW_bars 27 55 (show (v3 ≤ v5 → Q (some (.int v5)) H) ∧ (¬ v3 ≤ v5 → (v6 < 0 → Q (some (.int v5)) H) ∧ (¬ v6 < 0 → pm_chkO s24 7 ((((H.1 s24 2) - (1 : Int32)) ≤ v6 → Q (some (.int v5)) H) ∧ (¬ ((H.1 s24 2) - (1 : Int32)) ≤ v6 → pm_chkO s24 7 (pm_R (d + 1) M_Sh_at [.ref s24, .int v6] H (pm_l (fun x2 H1 => pm_chkO s24 7 (pm_R (d + 1) M_Sh_at [.ref s24, .int (v6 + (1 : Int32))] H1 (pm_l (fun x4 H3 => pm_R (d + 1) M_PW_bar [.ref 0, .int x2.toInt32, .int x4.toInt32] H3 (pm_i (fun x6 H5 => (0 ≤ x6 → pm_RW none (d + 2) M_PW_bars Q 55 [(0, .ref 0), (3, .int v3), (4, .ref s24), (5, .int (v5 + (1 : Int32))), (6, .int (v6 + (2 : Int32)))] [] H5) ∧ (¬ 0 ≤ x6 → Q (some (.int v5)) H5))))))))))))) from ⟨fun q1 => (h.1 q1), fun q1 => ⟨fun q2 => ((h.2 q1).1 q2), fun q2 => pm_mkO hs24 (⟨fun q3 => (((h.2 q1).2 q2).1 q3), fun q3 => pm_mkO hs24 (pm_ml' (((h.2 q1).2 q2).2 q3) (fun x2 H1 z4 => pm_mkO hs24 (pm_ml' z4 (fun x4 H3 z5 => pm_mi z5 (fun x6 H5 z6 => ⟨fun q7 => (z6.1 q7), fun q7 => (z6.2 q7)⟩)))))⟩)⟩⟩)
def T_PW_mend : List pmE := [
  (0, [], .aload 0, 0, 0, 0),
  (1, [], .iload 1, 0, 0, 0),
  (2, [], .iload 2, 0, 0, 0),
  (3, [], .invokeinterface 138 589, 0, 103, 421),
  (6, [], .ifCond .ne 22, 0, 0, 0),
  (9, [], .iload 3, 0, 0, 0),
  (10, [], .iconst 0, 0, 0, 0),
  (11, [], .getstatic 0, 0, 107, 425),
  (14, [], .iload 2, 0, 0, 0),
  (15, [], .iaload, 0, 0, 0),
  (16, [], .invokeinterface 135 13, 1, 73, 385),
  (19, [], .ifCond .eq 24, 0, 0, 0),
  (22, [], .iconst (-1), 0, 0, 0),
  (23, [], .ireturn, 0, 0, 0),
  (24, [], .aload 0, 0, 0, 0),
  (25, [], .iload 1, 0, 0, 0),
  (26, [], .iload 2, 0, 0, 0),
  (27, [], .invokeinterface 139 589, 0, 110, 431),
  (30, [], .istore 4, 1, 0, 0),
  (32, [], .iload 4, 1, 0, 0),
  (34, [], .iload 3, 0, 0, 0),
  (35, [], .if_icmp .eq 57, 0, 0, 0),
  (38, [], .aload 0, 0, 0, 0),
  (39, [], .iload 1, 0, 0, 0),
  (40, [], .iload 2, 0, 0, 0),
  (41, [], .iload 3, 0, 0, 0),
  (42, [], .invokeinterface 140 592, 0, 113, 435),
  (45, [], .aload 0, 0, 0, 0),
  (46, [], .getfield 516, 0, 38, 351),
  (49, [], .iload 1, 0, 0, 0),
  (50, [], .iload 2, 0, 0, 0),
  (51, [], .iload 4, 1, 0, 0),
  (53, [], .iload 3, 0, 0, 0),
  (54, [], .invokeinterface 10 148, 0, 117, 439),
  (57, [], .iload 4, 1, 0, 0),
  (59, [], .ireturn, 0, 0, 0)]
theorem tk_PW_mend : pm_okT M_PW_mend T_PW_mend = true := by decide +kernel
theorem ok_PW_mend : pm_okm M_PW_mend := pm_okm_of _ 420 76 418 419 (by decide +kernel)
set_option maxRecDepth 100000 in
set_option maxHeartbeats 4000000 in
theorem m_PW_mend {d : Nat} {H : pmT} {Q : pmQ} (a1 : Int32) (a2 : Int32) (a3 : Int32)
    (h : (a2 < (0 : Int32) → Q (some (.int (-1 : Int32))) H) ∧ (¬ a2 < (0 : Int32) → (a2 ≤ ((8 : Int32) - (1 : Int32)) → ((3 : Int32) ≤ a2 → (a1 = 0 → vp_in a2 8 ∧ ((a3 < (0 : Int32) → Q (some (.int (-1 : Int32))) H) ∧ (¬ a3 < (0 : Int32) → (a3 ≤ (pm_G a2.toNatClampNeg) → (a2 = (0 : Int32) → vp_in a1 12 ∧ (((H.1 3 a1.toNatClampNeg) = a3 → Q (some (.int (H.1 3 a1.toNatClampNeg))) H) ∧ (¬ (H.1 3 a1.toNatClampNeg) = a3 → pm_R (d + 2) M_Ch_add [.ref 26, .int a1, .int a2, .int (H.1 3 a1.toNatClampNeg), .int a3] ((pm_up H.1 3 a1.toNatClampNeg a3), H.2) (pm_v (fun H320 => Q (some (.int (H.1 3 a1.toNatClampNeg))) H320))))) ∧ (¬ a2 = (0 : Int32) → (a2 = (1 : Int32) → vp_in a1 12 ∧ (((H.1 4 a1.toNatClampNeg) = a3 → Q (some (.int (H.1 4 a1.toNatClampNeg))) H) ∧ (¬ (H.1 4 a1.toNatClampNeg) = a3 → pm_R (d + 2) M_Ch_add [.ref 26, .int a1, .int a2, .int (H.1 4 a1.toNatClampNeg), .int a3] ((pm_up H.1 4 a1.toNatClampNeg a3), H.2) (pm_v (fun H315 => Q (some (.int (H.1 4 a1.toNatClampNeg))) H315))))) ∧ (¬ a2 = (1 : Int32) → (a2 = (2 : Int32) → vp_in a1 12 ∧ (((H.1 5 a1.toNatClampNeg) = a3 → Q (some (.int (H.1 5 a1.toNatClampNeg))) H) ∧ (¬ (H.1 5 a1.toNatClampNeg) = a3 → pm_R (d + 2) M_Ch_add [.ref 26, .int a1, .int a2, .int (H.1 5 a1.toNatClampNeg), .int a3] ((pm_up H.1 5 a1.toNatClampNeg a3), H.2) (pm_v (fun H310 => Q (some (.int (H.1 5 a1.toNatClampNeg))) H310))))) ∧ (¬ a2 = (2 : Int32) → vp_in (a2 - (3 : Int32)) 5 ∧ (((H.1 20 ((a2 - (3 : Int32)).toNatClampNeg)) = a3 → Q (some (.int (H.1 20 ((a2 - (3 : Int32)).toNatClampNeg)))) H) ∧ (¬ (H.1 20 ((a2 - (3 : Int32)).toNatClampNeg)) = a3 → pm_R (d + 2) M_Ch_add [.ref 26, .int a1, .int a2, .int (H.1 20 ((a2 - (3 : Int32)).toNatClampNeg)), .int a3] ((pm_up H.1 20 ((a2 - (3 : Int32)).toNatClampNeg) a3), H.2) (pm_v (fun H305 => Q (some (.int (H.1 20 ((a2 - (3 : Int32)).toNatClampNeg)))) H305)))))))) ∧ (¬ a3 ≤ (pm_G a2.toNatClampNeg) → Q (some (.int (-1 : Int32))) H)))) ∧ (¬ a1 = 0 → Q (some (.int (-1 : Int32))) H)) ∧ (¬ (3 : Int32) ≤ a2 → (a1 < (0 : Int32) → Q (some (.int (-1 : Int32))) H) ∧ (¬ a1 < (0 : Int32) → (a1 ≤ ((H.1 2 0) - (1 : Int32)) → vp_in a2 8 ∧ ((a3 < (0 : Int32) → Q (some (.int (-1 : Int32))) H) ∧ (¬ a3 < (0 : Int32) → (a3 ≤ (pm_G a2.toNatClampNeg) → (a2 = (0 : Int32) → vp_in a1 12 ∧ (((H.1 3 a1.toNatClampNeg) = a3 → Q (some (.int (H.1 3 a1.toNatClampNeg))) H) ∧ (¬ (H.1 3 a1.toNatClampNeg) = a3 → pm_R (d + 2) M_Ch_add [.ref 26, .int a1, .int a2, .int (H.1 3 a1.toNatClampNeg), .int a3] ((pm_up H.1 3 a1.toNatClampNeg a3), H.2) (pm_v (fun H464 => Q (some (.int (H.1 3 a1.toNatClampNeg))) H464))))) ∧ (¬ a2 = (0 : Int32) → (a2 = (1 : Int32) → vp_in a1 12 ∧ (((H.1 4 a1.toNatClampNeg) = a3 → Q (some (.int (H.1 4 a1.toNatClampNeg))) H) ∧ (¬ (H.1 4 a1.toNatClampNeg) = a3 → pm_R (d + 2) M_Ch_add [.ref 26, .int a1, .int a2, .int (H.1 4 a1.toNatClampNeg), .int a3] ((pm_up H.1 4 a1.toNatClampNeg a3), H.2) (pm_v (fun H459 => Q (some (.int (H.1 4 a1.toNatClampNeg))) H459))))) ∧ (¬ a2 = (1 : Int32) → (a2 = (2 : Int32) → vp_in a1 12 ∧ (((H.1 5 a1.toNatClampNeg) = a3 → Q (some (.int (H.1 5 a1.toNatClampNeg))) H) ∧ (¬ (H.1 5 a1.toNatClampNeg) = a3 → pm_R (d + 2) M_Ch_add [.ref 26, .int a1, .int a2, .int (H.1 5 a1.toNatClampNeg), .int a3] ((pm_up H.1 5 a1.toNatClampNeg a3), H.2) (pm_v (fun H454 => Q (some (.int (H.1 5 a1.toNatClampNeg))) H454))))) ∧ (¬ a2 = (2 : Int32) → vp_in (a2 - (3 : Int32)) 5 ∧ (((H.1 20 ((a2 - (3 : Int32)).toNatClampNeg)) = a3 → Q (some (.int (H.1 20 ((a2 - (3 : Int32)).toNatClampNeg)))) H) ∧ (¬ (H.1 20 ((a2 - (3 : Int32)).toNatClampNeg)) = a3 → pm_R (d + 2) M_Ch_add [.ref 26, .int a1, .int a2, .int (H.1 20 ((a2 - (3 : Int32)).toNatClampNeg)), .int a3] ((pm_up H.1 20 ((a2 - (3 : Int32)).toNatClampNeg) a3), H.2) (pm_v (fun H449 => Q (some (.int (H.1 20 ((a2 - (3 : Int32)).toNatClampNeg)))) H449)))))))) ∧ (¬ a3 ≤ (pm_G a2.toNatClampNeg) → Q (some (.int (-1 : Int32))) H)))) ∧ (¬ a1 ≤ ((H.1 2 0) - (1 : Int32)) → Q (some (.int (-1 : Int32))) H)))) ∧ (¬ a2 ≤ ((8 : Int32) - (1 : Int32)) → Q (some (.int (-1 : Int32))) H))) : pm_R (d + 3) M_PW_mend [.ref 0, .int a1, .int a2, .int a3] H Q :=
  pm_walk (n := 34) ok_PW_mend tk_PW_mend rfl (Nat.le_of_ble_eq_true rfl) (show pm_R (d + 2) M_PW_nothingToMend [.ref 0, .int a1, .int a2] H (pm_i (fun x2 H1 => (¬ x2 = 0 → Q (some (.int (-1 : Int32))) H1) ∧ (x2 = 0 → vp_in a2 8 ∧ (pm_R (d + 2) M_PW_outside [.int a3, .int (0 : Int32), .int (pm_G a2.toNatClampNeg)] H1 (pm_i (fun x4 H3 => (x4 = 0 → pm_R (d + 2) M_PW_read [.ref 0, .int a1, .int a2] H3 (pm_i (fun x6 H5 => (x6 = a3 → Q (some (.int x6)) H5) ∧ (¬ x6 = a3 → pm_R (d + 2) M_PW_write [.ref 0, .int a1, .int a2, .int a3] H5 (pm_v (fun H7 => pm_R (d + 2) M_Ch_add [.ref 26, .int a1, .int a2, .int x6, .int a3] H7 (pm_v (fun H8 => Q (some (.int x6)) H8)))))))) ∧ (¬ x4 = 0 → Q (some (.int (-1 : Int32))) H3))))))) from u_PW_nothingToMend a1 a2 (u_PW_outside a2 (0 : Int32) ((8 : Int32) - (1 : Int32)) (⟨fun q1 => ⟨Or.inr rfl, ⟨fun z => absurd z (by decide), fun _ => ⟨Or.inr rfl, ⟨fun _ => (h.1 q1), fun z => absurd z (by decide)⟩⟩⟩⟩, fun q1 => ⟨fun q2 => ⟨Or.inl rfl, ⟨fun _ => ⟨fun q3 => ⟨fun q4 => ⟨Or.inl rfl, ⟨fun z => absurd (by decide) z, fun _ => ⟨((((h.2 q1).1 q2).1 q3).1 q4).1, u_PW_outside a3 (0 : Int32) (pm_G a2.toNatClampNeg) (⟨fun q5 => ⟨Or.inr rfl, ⟨fun z => absurd z (by decide), fun _ => (((((h.2 q1).1 q2).1 q3).1 q4).2.1 q5)⟩⟩, fun q5 => ⟨fun q6 => ⟨Or.inl rfl, ⟨fun _ => u_PW_read a1 a2 (⟨fun q7 => ⟨(((((((h.2 q1).1 q2).1 q3).1 q4).2.2 q5).1 q6).1 q7).1, ⟨fun q8 => ((((((((h.2 q1).1 q2).1 q3).1 q4).2.2 q5).1 q6).1 q7).2.1 q8), fun q8 => u_PW_write a1 a2 a3 (⟨fun _ => ⟨(((((((h.2 q1).1 q2).1 q3).1 q4).2.2 q5).1 q6).1 q7).1, ((((((((h.2 q1).1 q2).1 q3).1 q4).2.2 q5).1 q6).1 q7).2.2 q8)⟩, fun z => absurd q7 z⟩)⟩⟩, fun q7 => ⟨fun q10 => ⟨((((((((h.2 q1).1 q2).1 q3).1 q4).2.2 q5).1 q6).2 q7).1 q10).1, ⟨fun q11 => (((((((((h.2 q1).1 q2).1 q3).1 q4).2.2 q5).1 q6).2 q7).1 q10).2.1 q11), fun q11 => u_PW_write a1 a2 a3 (⟨fun z => absurd z q7, fun _ => ⟨fun _ => ⟨((((((((h.2 q1).1 q2).1 q3).1 q4).2.2 q5).1 q6).2 q7).1 q10).1, (((((((((h.2 q1).1 q2).1 q3).1 q4).2.2 q5).1 q6).2 q7).1 q10).2.2 q11)⟩, fun z => absurd q10 z⟩⟩)⟩⟩, fun q10 => ⟨fun q13 => ⟨(((((((((h.2 q1).1 q2).1 q3).1 q4).2.2 q5).1 q6).2 q7).2 q10).1 q13).1, ⟨fun q14 => ((((((((((h.2 q1).1 q2).1 q3).1 q4).2.2 q5).1 q6).2 q7).2 q10).1 q13).2.1 q14), fun q14 => u_PW_write a1 a2 a3 (⟨fun z => absurd z q7, fun _ => ⟨fun z => absurd z q10, fun _ => ⟨fun _ => ⟨(((((((((h.2 q1).1 q2).1 q3).1 q4).2.2 q5).1 q6).2 q7).2 q10).1 q13).1, ((((((((((h.2 q1).1 q2).1 q3).1 q4).2.2 q5).1 q6).2 q7).2 q10).1 q13).2.2 q14)⟩, fun z => absurd q13 z⟩⟩⟩)⟩⟩, fun q13 => ⟨(((((((((h.2 q1).1 q2).1 q3).1 q4).2.2 q5).1 q6).2 q7).2 q10).2 q13).1, ⟨fun q16 => ((((((((((h.2 q1).1 q2).1 q3).1 q4).2.2 q5).1 q6).2 q7).2 q10).2 q13).2.1 q16), fun q16 => u_PW_write a1 a2 a3 (⟨fun z => absurd z q7, fun _ => ⟨fun z => absurd z q10, fun _ => ⟨fun z => absurd z q13, fun _ => ⟨(((((((((h.2 q1).1 q2).1 q3).1 q4).2.2 q5).1 q6).2 q7).2 q10).2 q13).1, ((((((((((h.2 q1).1 q2).1 q3).1 q4).2.2 q5).1 q6).2 q7).2 q10).2 q13).2.2 q16)⟩⟩⟩⟩)⟩⟩⟩⟩⟩), fun z => absurd (by decide) z⟩⟩, fun q6 => ⟨Or.inr rfl, ⟨fun z => absurd z (by decide), fun _ => ((((((h.2 q1).1 q2).1 q3).1 q4).2.2 q5).2 q6)⟩⟩⟩⟩)⟩⟩⟩, fun q4 => ⟨Or.inr rfl, ⟨fun _ => ((((h.2 q1).1 q2).1 q3).2 q4), fun z => absurd z (by decide)⟩⟩⟩, fun q3 => u_PW_noBar a1 (u_PW_outside a1 (0 : Int32) ((H.1 2 0) - (1 : Int32)) (⟨fun q18 => ⟨Or.inr rfl, ⟨Or.inr rfl, ⟨Or.inr rfl, ⟨fun _ => ((((h.2 q1).1 q2).2 q3).1 q18), fun z => absurd z (by decide)⟩⟩⟩⟩, fun q18 => ⟨fun q19 => ⟨Or.inl rfl, ⟨Or.inl rfl, ⟨Or.inl rfl, ⟨fun z => absurd (by decide) z, fun _ => ⟨(((((h.2 q1).1 q2).2 q3).2 q18).1 q19).1, u_PW_outside a3 (0 : Int32) (pm_G a2.toNatClampNeg) (⟨fun q20 => ⟨Or.inr rfl, ⟨fun z => absurd z (by decide), fun _ => ((((((h.2 q1).1 q2).2 q3).2 q18).1 q19).2.1 q20)⟩⟩, fun q20 => ⟨fun q21 => ⟨Or.inl rfl, ⟨fun _ => u_PW_read a1 a2 (⟨fun q22 => ⟨((((((((h.2 q1).1 q2).2 q3).2 q18).1 q19).2.2 q20).1 q21).1 q22).1, ⟨fun q23 => (((((((((h.2 q1).1 q2).2 q3).2 q18).1 q19).2.2 q20).1 q21).1 q22).2.1 q23), fun q23 => u_PW_write a1 a2 a3 (⟨fun _ => ⟨((((((((h.2 q1).1 q2).2 q3).2 q18).1 q19).2.2 q20).1 q21).1 q22).1, (((((((((h.2 q1).1 q2).2 q3).2 q18).1 q19).2.2 q20).1 q21).1 q22).2.2 q23)⟩, fun z => absurd q22 z⟩)⟩⟩, fun q22 => ⟨fun q25 => ⟨(((((((((h.2 q1).1 q2).2 q3).2 q18).1 q19).2.2 q20).1 q21).2 q22).1 q25).1, ⟨fun q26 => ((((((((((h.2 q1).1 q2).2 q3).2 q18).1 q19).2.2 q20).1 q21).2 q22).1 q25).2.1 q26), fun q26 => u_PW_write a1 a2 a3 (⟨fun z => absurd z q22, fun _ => ⟨fun _ => ⟨(((((((((h.2 q1).1 q2).2 q3).2 q18).1 q19).2.2 q20).1 q21).2 q22).1 q25).1, ((((((((((h.2 q1).1 q2).2 q3).2 q18).1 q19).2.2 q20).1 q21).2 q22).1 q25).2.2 q26)⟩, fun z => absurd q25 z⟩⟩)⟩⟩, fun q25 => ⟨fun q28 => ⟨((((((((((h.2 q1).1 q2).2 q3).2 q18).1 q19).2.2 q20).1 q21).2 q22).2 q25).1 q28).1, ⟨fun q29 => (((((((((((h.2 q1).1 q2).2 q3).2 q18).1 q19).2.2 q20).1 q21).2 q22).2 q25).1 q28).2.1 q29), fun q29 => u_PW_write a1 a2 a3 (⟨fun z => absurd z q22, fun _ => ⟨fun z => absurd z q25, fun _ => ⟨fun _ => ⟨((((((((((h.2 q1).1 q2).2 q3).2 q18).1 q19).2.2 q20).1 q21).2 q22).2 q25).1 q28).1, (((((((((((h.2 q1).1 q2).2 q3).2 q18).1 q19).2.2 q20).1 q21).2 q22).2 q25).1 q28).2.2 q29)⟩, fun z => absurd q28 z⟩⟩⟩)⟩⟩, fun q28 => ⟨((((((((((h.2 q1).1 q2).2 q3).2 q18).1 q19).2.2 q20).1 q21).2 q22).2 q25).2 q28).1, ⟨fun q31 => (((((((((((h.2 q1).1 q2).2 q3).2 q18).1 q19).2.2 q20).1 q21).2 q22).2 q25).2 q28).2.1 q31), fun q31 => u_PW_write a1 a2 a3 (⟨fun z => absurd z q22, fun _ => ⟨fun z => absurd z q25, fun _ => ⟨fun z => absurd z q28, fun _ => ⟨((((((((((h.2 q1).1 q2).2 q3).2 q18).1 q19).2.2 q20).1 q21).2 q22).2 q25).2 q28).1, (((((((((((h.2 q1).1 q2).2 q3).2 q18).1 q19).2.2 q20).1 q21).2 q22).2 q25).2 q28).2.2 q31)⟩⟩⟩⟩)⟩⟩⟩⟩⟩), fun z => absurd (by decide) z⟩⟩, fun q21 => ⟨Or.inr rfl, ⟨fun z => absurd z (by decide), fun _ => (((((((h.2 q1).1 q2).2 q3).2 q18).1 q19).2.2 q20).2 q21)⟩⟩⟩⟩)⟩⟩⟩⟩⟩, fun q19 => ⟨Or.inr rfl, ⟨Or.inr rfl, ⟨Or.inr rfl, ⟨fun _ => (((((h.2 q1).1 q2).2 q3).2 q18).2 q19), fun z => absurd z (by decide)⟩⟩⟩⟩⟩⟩))⟩, fun z => absurd (by decide) z⟩⟩, fun q2 => ⟨Or.inr rfl, ⟨fun z => absurd z (by decide), fun _ => ⟨Or.inr rfl, ⟨fun _ => ((h.2 q1).2 q2), fun z => absurd z (by decide)⟩⟩⟩⟩⟩⟩)))
def T_PW_of : List pmE := [
  (0, [], .iload 2, 0, 0, 0),
  (1, [], .iconst 10, 1, 0, 0),
  (3, [], .if_icmp .eq 12, 0, 0, 0),
  (6, [], .iload 2, 0, 0, 0),
  (7, [], .iconst 11, 1, 0, 0),
  (9, [], .if_icmp .ne 50, 0, 0, 0),
  (12, [], .aload 0, 0, 0, 0),
  (13, [], .iload 1, 0, 0, 0),
  (14, [], .invokeinterface 136 585, 0, 120, 427),
  (17, [], .ifCond .eq 22, 0, 0, 0),
  (20, [], .iconst (-1), 0, 0, 0),
  (21, [], .ireturn, 0, 0, 0),
  (22, [], .iload 2, 0, 0, 0),
  (23, [], .iconst 10, 1, 0, 0),
  (25, [], .if_icmp .ne 40, 0, 0, 0),
  (28, [], .aload 0, 0, 0, 0),
  (29, [], .getfield 513, 0, 20, 348),
  (32, [], .getfield 196, 0, 123, 128),
  (35, [], .iload 1, 0, 0, 0),
  (36, [], .iaload, 0, 0, 0),
  (37, [], .goto 49, 0, 0, 0),
  (40, [], .aload 0, 0, 0, 0),
  (41, [], .getfield 513, 0, 20, 348),
  (44, [], .getfield 197, 0, 126, 130),
  (47, [], .iload 1, 0, 0, 0),
  (48, [], .iaload, 0, 0, 0),
  (49, [], .ireturn, 0, 0, 0),
  (50, [], .aload 0, 0, 0, 0),
  (51, [], .iload 1, 0, 0, 0),
  (52, [], .iload 2, 0, 0, 0),
  (53, [], .invokeinterface 138 589, 0, 103, 421),
  (56, [], .ifCond .eq 63, 0, 0, 0),
  (59, [], .iconst (-1), 0, 0, 0),
  (60, [], .goto 69, 0, 0, 0),
  (63, [], .aload 0, 0, 0, 0),
  (64, [], .iload 1, 0, 0, 0),
  (65, [], .iload 2, 0, 0, 0),
  (66, [], .invokeinterface 139 589, 0, 110, 431),
  (69, [], .ireturn, 0, 0, 0)]
theorem tk_PW_of : pm_okT M_PW_of T_PW_of = true := by decide +kernel
theorem ok_PW_of : pm_okm M_PW_of := pm_okm_of _ 453 76 451 452 (by decide +kernel)
set_option maxRecDepth 100000 in
set_option maxHeartbeats 4000000 in
theorem m_PW_of {d : Nat} {H : pmT} {Q : pmQ} (a1 : Int32) (a2 : Int32)
    (h : (a2 = (10 : Int32) → (a1 < (0 : Int32) → Q (some (.int (-1 : Int32))) H) ∧ (¬ a1 < (0 : Int32) → (a1 ≤ ((H.1 2 0) - (1 : Int32)) → vp_in a1 12 ∧ (Q (some (.int (H.1 6 a1.toNatClampNeg))) H)) ∧ (¬ a1 ≤ ((H.1 2 0) - (1 : Int32)) → Q (some (.int (-1 : Int32))) H))) ∧ (¬ a2 = (10 : Int32) → (¬ a2 = (11 : Int32) → (a2 < (0 : Int32) → Q (some (.int (-1 : Int32))) H) ∧ (¬ a2 < (0 : Int32) → (a2 ≤ ((8 : Int32) - (1 : Int32)) → ((3 : Int32) ≤ a2 → (a1 = 0 → (a2 = (0 : Int32) → vp_in a1 12 ∧ (Q (some (.int (H.1 3 a1.toNatClampNeg))) H)) ∧ (¬ a2 = (0 : Int32) → (a2 = (1 : Int32) → vp_in a1 12 ∧ (Q (some (.int (H.1 4 a1.toNatClampNeg))) H)) ∧ (¬ a2 = (1 : Int32) → (a2 = (2 : Int32) → vp_in a1 12 ∧ (Q (some (.int (H.1 5 a1.toNatClampNeg))) H)) ∧ (¬ a2 = (2 : Int32) → vp_in (a2 - (3 : Int32)) 5 ∧ (Q (some (.int (H.1 20 ((a2 - (3 : Int32)).toNatClampNeg)))) H))))) ∧ (¬ a1 = 0 → Q (some (.int (-1 : Int32))) H)) ∧ (¬ (3 : Int32) ≤ a2 → (a1 < (0 : Int32) → Q (some (.int (-1 : Int32))) H) ∧ (¬ a1 < (0 : Int32) → (a1 ≤ ((H.1 2 0) - (1 : Int32)) → (a2 = (0 : Int32) → vp_in a1 12 ∧ (Q (some (.int (H.1 3 a1.toNatClampNeg))) H)) ∧ (¬ a2 = (0 : Int32) → (a2 = (1 : Int32) → vp_in a1 12 ∧ (Q (some (.int (H.1 4 a1.toNatClampNeg))) H)) ∧ (¬ a2 = (1 : Int32) → (a2 = (2 : Int32) → vp_in a1 12 ∧ (Q (some (.int (H.1 5 a1.toNatClampNeg))) H)) ∧ (¬ a2 = (2 : Int32) → vp_in (a2 - (3 : Int32)) 5 ∧ (Q (some (.int (H.1 20 ((a2 - (3 : Int32)).toNatClampNeg)))) H))))) ∧ (¬ a1 ≤ ((H.1 2 0) - (1 : Int32)) → Q (some (.int (-1 : Int32))) H)))) ∧ (¬ a2 ≤ ((8 : Int32) - (1 : Int32)) → Q (some (.int (-1 : Int32))) H))) ∧ (a2 = (11 : Int32) → (a1 < (0 : Int32) → Q (some (.int (-1 : Int32))) H) ∧ (¬ a1 < (0 : Int32) → (a1 ≤ ((H.1 2 0) - (1 : Int32)) → vp_in a1 12 ∧ (Q (some (.int (H.1 7 a1.toNatClampNeg))) H)) ∧ (¬ a1 ≤ ((H.1 2 0) - (1 : Int32)) → Q (some (.int (-1 : Int32))) H))))) : pm_R (d + 3) M_PW_of [.ref 0, .int a1, .int a2] H Q :=
  pm_walk (n := 20) ok_PW_of tk_PW_of rfl (Nat.le_of_ble_eq_true rfl) (show (a2 = (10 : Int32) → pm_R (d + 2) M_PW_noBar [.ref 0, .int a1] H (pm_i (fun x2 H1 => (x2 = 0 → (¬ a2 = (10 : Int32) → vp_in a1 12 ∧ (Q (some (.int (H1.1 7 a1.toNatClampNeg))) H1)) ∧ (a2 = (10 : Int32) → vp_in a1 12 ∧ (Q (some (.int (H1.1 6 a1.toNatClampNeg))) H1))) ∧ (¬ x2 = 0 → Q (some (.int (-1 : Int32))) H1)))) ∧ (¬ a2 = (10 : Int32) → (¬ a2 = (11 : Int32) → pm_R (d + 2) M_PW_nothingToMend [.ref 0, .int a1, .int a2] H (pm_i (fun x4 H3 => (x4 = 0 → pm_R (d + 2) M_PW_read [.ref 0, .int a1, .int a2] H3 (pm_i (fun x6 H5 => Q (some (.int x6)) H5))) ∧ (¬ x4 = 0 → Q (some (.int (-1 : Int32))) H3)))) ∧ (a2 = (11 : Int32) → pm_R (d + 2) M_PW_noBar [.ref 0, .int a1] H (pm_i (fun x8 H7 => (x8 = 0 → (¬ a2 = (10 : Int32) → vp_in a1 12 ∧ (Q (some (.int (H7.1 7 a1.toNatClampNeg))) H7)) ∧ (a2 = (10 : Int32) → vp_in a1 12 ∧ (Q (some (.int (H7.1 6 a1.toNatClampNeg))) H7))) ∧ (¬ x8 = 0 → Q (some (.int (-1 : Int32))) H7))))) from ⟨fun q1 => u_PW_noBar a1 (u_PW_outside a1 (0 : Int32) ((H.1 2 0) - (1 : Int32)) (⟨fun q2 => ⟨Or.inr rfl, ⟨Or.inr rfl, ⟨fun z => absurd z (by decide), fun _ => ((h.1 q1).1 q2)⟩⟩⟩, fun q2 => ⟨fun q3 => ⟨Or.inl rfl, ⟨Or.inl rfl, ⟨fun _ => ⟨fun z => absurd q1 z, fun _ => ⟨(((h.1 q1).2 q2).1 q3).1, (((h.1 q1).2 q2).1 q3).2⟩⟩, fun z => absurd (by decide) z⟩⟩⟩, fun q3 => ⟨Or.inr rfl, ⟨Or.inr rfl, ⟨fun z => absurd z (by decide), fun _ => (((h.1 q1).2 q2).2 q3)⟩⟩⟩⟩⟩)), fun q1 => ⟨fun q4 => u_PW_nothingToMend a1 a2 (u_PW_outside a2 (0 : Int32) ((8 : Int32) - (1 : Int32)) (⟨fun q5 => ⟨Or.inr rfl, ⟨fun z => absurd z (by decide), fun _ => ⟨Or.inr rfl, ⟨fun z => absurd z (by decide), fun _ => (((h.2 q1).1 q4).1 q5)⟩⟩⟩⟩, fun q5 => ⟨fun q6 => ⟨Or.inl rfl, ⟨fun _ => ⟨fun q7 => ⟨fun q8 => ⟨Or.inl rfl, ⟨fun _ => u_PW_read a1 a2 (⟨fun q9 => ⟨(((((((h.2 q1).1 q4).2 q5).1 q6).1 q7).1 q8).1 q9).1, (((((((h.2 q1).1 q4).2 q5).1 q6).1 q7).1 q8).1 q9).2⟩, fun q9 => ⟨fun q10 => ⟨((((((((h.2 q1).1 q4).2 q5).1 q6).1 q7).1 q8).2 q9).1 q10).1, ((((((((h.2 q1).1 q4).2 q5).1 q6).1 q7).1 q8).2 q9).1 q10).2⟩, fun q10 => ⟨fun q11 => ⟨(((((((((h.2 q1).1 q4).2 q5).1 q6).1 q7).1 q8).2 q9).2 q10).1 q11).1, (((((((((h.2 q1).1 q4).2 q5).1 q6).1 q7).1 q8).2 q9).2 q10).1 q11).2⟩, fun q11 => ⟨(((((((((h.2 q1).1 q4).2 q5).1 q6).1 q7).1 q8).2 q9).2 q10).2 q11).1, (((((((((h.2 q1).1 q4).2 q5).1 q6).1 q7).1 q8).2 q9).2 q10).2 q11).2⟩⟩⟩⟩), fun z => absurd (by decide) z⟩⟩, fun q8 => ⟨Or.inr rfl, ⟨fun z => absurd z (by decide), fun _ => ((((((h.2 q1).1 q4).2 q5).1 q6).1 q7).2 q8)⟩⟩⟩, fun q7 => u_PW_noBar a1 (u_PW_outside a1 (0 : Int32) ((H.1 2 0) - (1 : Int32)) (⟨fun q12 => ⟨Or.inr rfl, ⟨Or.inr rfl, ⟨Or.inr rfl, ⟨fun z => absurd z (by decide), fun _ => ((((((h.2 q1).1 q4).2 q5).1 q6).2 q7).1 q12)⟩⟩⟩⟩, fun q12 => ⟨fun q13 => ⟨Or.inl rfl, ⟨Or.inl rfl, ⟨Or.inl rfl, ⟨fun _ => u_PW_read a1 a2 (⟨fun q14 => ⟨((((((((h.2 q1).1 q4).2 q5).1 q6).2 q7).2 q12).1 q13).1 q14).1, ((((((((h.2 q1).1 q4).2 q5).1 q6).2 q7).2 q12).1 q13).1 q14).2⟩, fun q14 => ⟨fun q15 => ⟨(((((((((h.2 q1).1 q4).2 q5).1 q6).2 q7).2 q12).1 q13).2 q14).1 q15).1, (((((((((h.2 q1).1 q4).2 q5).1 q6).2 q7).2 q12).1 q13).2 q14).1 q15).2⟩, fun q15 => ⟨fun q16 => ⟨((((((((((h.2 q1).1 q4).2 q5).1 q6).2 q7).2 q12).1 q13).2 q14).2 q15).1 q16).1, ((((((((((h.2 q1).1 q4).2 q5).1 q6).2 q7).2 q12).1 q13).2 q14).2 q15).1 q16).2⟩, fun q16 => ⟨((((((((((h.2 q1).1 q4).2 q5).1 q6).2 q7).2 q12).1 q13).2 q14).2 q15).2 q16).1, ((((((((((h.2 q1).1 q4).2 q5).1 q6).2 q7).2 q12).1 q13).2 q14).2 q15).2 q16).2⟩⟩⟩⟩), fun z => absurd (by decide) z⟩⟩⟩⟩, fun q13 => ⟨Or.inr rfl, ⟨Or.inr rfl, ⟨Or.inr rfl, ⟨fun z => absurd z (by decide), fun _ => (((((((h.2 q1).1 q4).2 q5).1 q6).2 q7).2 q12).2 q13)⟩⟩⟩⟩⟩⟩))⟩, fun z => absurd (by decide) z⟩⟩, fun q6 => ⟨Or.inr rfl, ⟨fun z => absurd z (by decide), fun _ => ⟨Or.inr rfl, ⟨fun z => absurd z (by decide), fun _ => ((((h.2 q1).1 q4).2 q5).2 q6)⟩⟩⟩⟩⟩⟩)), fun q4 => u_PW_noBar a1 (u_PW_outside a1 (0 : Int32) ((H.1 2 0) - (1 : Int32)) (⟨fun q17 => ⟨Or.inr rfl, ⟨Or.inr rfl, ⟨fun z => absurd z (by decide), fun _ => (((h.2 q1).2 q4).1 q17)⟩⟩⟩, fun q17 => ⟨fun q18 => ⟨Or.inl rfl, ⟨Or.inl rfl, ⟨fun _ => ⟨fun _ => ⟨((((h.2 q1).2 q4).2 q17).1 q18).1, ((((h.2 q1).2 q4).2 q17).1 q18).2⟩, fun z => absurd z q1⟩, fun z => absurd (by decide) z⟩⟩⟩, fun q18 => ⟨Or.inr rfl, ⟨Or.inr rfl, ⟨fun z => absurd z (by decide), fun _ => ((((h.2 q1).2 q4).2 q17).2 q18)⟩⟩⟩⟩⟩))⟩⟩)
def T_PW_feed : List pmE := [
  (0, [], .iload 1, 0, 0, 0),
  (1, [], .iconst 0, 0, 0, 0),
  (2, [], .iconst 255, 2, 0, 0),
  (5, [], .invokeinterface 135 13, 1, 73, 385),
  (8, [], .ifCond .eq 15, 0, 0, 0),
  (11, [], .iconst (-1), 0, 0, 0),
  (12, [], .goto 26, 0, 0, 0),
  (15, [], .aload 0, 0, 0, 0),
  (16, [], .getfield 512, 0, 10, 347),
  (19, [], .getfield 386, 0, 129, 190),
  (22, [], .iload 1, 0, 0, 0),
  (23, [], .invokeinterface 36 329, 0, 133, 458),
  (26, [], .ireturn, 0, 0, 0)]
theorem tk_PW_feed : pm_okT M_PW_feed T_PW_feed = true := by decide +kernel
theorem ok_PW_feed : pm_okm M_PW_feed := pm_okm_of _ 457 76 455 456 (by decide +kernel)
set_option maxRecDepth 100000 in
set_option maxHeartbeats 4000000 in
theorem m_PW_feed {d : Nat} {H : pmT} {Q : pmQ} (a1 : Int32)
    (h : (a1 < (0 : Int32) → Q (some (.int (-1 : Int32))) H) ∧ (¬ a1 < (0 : Int32) → (a1 ≤ (255 : Int32) → ((H.1 14 1) < (120 : Int32) → vp_in (H.1 14 1) 120 ∧ (Q (some (.int ((H.1 14 1) + (1 : Int32)))) ((pm_up (pm_up H.1 15 ((H.1 14 1).toNatClampNeg) a1) 14 1 ((H.1 14 1) + (1 : Int32))), H.2))) ∧ (¬ (H.1 14 1) < (120 : Int32) → Q (some (.int (-3 : Int32))) H)) ∧ (¬ a1 ≤ (255 : Int32) → Q (some (.int (-1 : Int32))) H))) : pm_R (d + 1) M_PW_feed [.ref 0, .int a1] H Q :=
  pm_walk (n := 11) ok_PW_feed tk_PW_feed rfl (Nat.le_of_ble_eq_true rfl) (show pm_R d M_PW_outside [.int a1, .int (0 : Int32), .int (255 : Int32)] H (pm_i (fun x2 H1 => (x2 = 0 → pm_R d M_La_write [.ref 14, .int a1] H1 (pm_i (fun x4 H3 => Q (some (.int x4)) H3))) ∧ (¬ x2 = 0 → Q (some (.int (-1 : Int32))) H1))) from u_PW_outside a1 (0 : Int32) (255 : Int32) (⟨fun q1 => ⟨Or.inr rfl, ⟨fun z => absurd z (by decide), fun _ => (h.1 q1)⟩⟩, fun q1 => ⟨fun q2 => ⟨Or.inl rfl, ⟨fun _ => u_La_write a1 (⟨fun q3 => ⟨(((h.2 q1).1 q2).1 q3).1, (((h.2 q1).1 q2).1 q3).2⟩, fun q3 => (((h.2 q1).1 q2).2 q3)⟩), fun z => absurd (by decide) z⟩⟩, fun q2 => ⟨Or.inr rfl, ⟨fun z => absurd z (by decide), fun _ => ((h.2 q1).2 q2)⟩⟩⟩⟩))
def T_PW_law : List pmE := [
  (0, [], .aload 0, 0, 0, 0),
  (1, [], .getfield 512, 0, 10, 347),
  (4, [], .getfield 386, 0, 129, 190),
  (7, [], .invokeinterface 37 325, 0, 138, 466),
  (10, [], .ireturn, 0, 0, 0)]
theorem tk_PW_law : pm_okT M_PW_law T_PW_law = true := by decide +kernel
theorem ok_PW_law : pm_okm M_PW_law := pm_okm_of _ 465 76 463 464 (by decide +kernel)
set_option maxRecDepth 100000 in
set_option maxHeartbeats 4000000 in
theorem m_PW_law {d : Nat} {H : pmT} {Q : pmQ} 
    (h : pm_R d M_La_enact [.ref 14] H (pm_i (fun x2 H1 => Q (some (.int x2)) H1))) : pm_R (d + 1) M_PW_law [.ref 0] H Q :=
  pm_walk (n := 5) ok_PW_law tk_PW_law rfl (Nat.le_of_ble_eq_true rfl) (show pm_R d M_La_enact [.ref 14] H (pm_i (fun x2 H1 => Q (some (.int x2)) H1)) from h)
def T_PW_playing : List pmE := [
  (0, [], .aload 0, 0, 0, 0),
  (1, [], .iload 1, 0, 0, 0),
  (2, [], .invokeinterface 136 585, 0, 120, 427),
  (5, [], .ifCond .ne 26, 0, 0, 0),
  (8, [], .iload 2, 0, 0, 0),
  (9, [], .iconst 0, 0, 0, 0),
  (10, [], .iconst 1, 0, 0, 0),
  (11, [], .invokeinterface 135 13, 1, 73, 385),
  (14, [], .ifCond .ne 26, 0, 0, 0),
  (17, [], .iload 3, 0, 0, 0),
  (18, [], .iconst 0, 0, 0, 0),
  (19, [], .iconst 1, 0, 0, 0),
  (20, [], .invokeinterface 135 13, 1, 73, 385),
  (23, [], .ifCond .eq 28, 0, 0, 0),
  (26, [], .iconst (-1), 0, 0, 0),
  (27, [], .ireturn, 0, 0, 0),
  (28, [], .aload 0, 0, 0, 0),
  (29, [], .getfield 512, 0, 10, 347),
  (32, [], .aload 0, 0, 0, 0),
  (33, [], .getfield 513, 0, 20, 348),
  (36, [], .iload 1, 0, 0, 0),
  (37, [], .iload 2, 0, 0, 0),
  (38, [], .invokeinterface 73 465, 0, 142, 515),
  (41, [], .istore 4, 1, 0, 0),
  (43, [], .iload 3, 0, 0, 0),
  (44, [], .ifCond .ne 52, 0, 0, 0),
  (47, [], .iload 4, 1, 0, 0),
  (49, [], .goto 67, 0, 0, 0),
  (52, [], .aload 0, 0, 0, 0),
  (53, [], .getfield 512, 0, 10, 347),
  (56, [], .aload 0, 0, 0, 0),
  (57, [], .getfield 513, 0, 20, 348),
  (60, [], .iload 1, 0, 0, 0),
  (61, [], .iload 2, 0, 0, 0),
  (62, [], .iload 4, 1, 0, 0),
  (64, [], .invokeinterface 74 469, 0, 146, 519),
  (67, [], .ireturn, 0, 0, 0)]
theorem tk_PW_playing : pm_okT M_PW_playing T_PW_playing = true := by decide +kernel
theorem ok_PW_playing : pm_okm M_PW_playing := pm_okm_of _ 514 76 512 513 (by decide +kernel)
set_option maxRecDepth 100000 in
set_option maxHeartbeats 4000000 in
theorem m_PW_playing {d : Nat} {H : pmT} {Q : pmQ} (a1 : Int32) (a2 : Int32) (a3 : Int32)
    (h : (a1 < (0 : Int32) → Q (some (.int (-1 : Int32))) H) ∧ (¬ a1 < (0 : Int32) → (a1 ≤ ((H.1 2 0) - (1 : Int32)) → (a2 < (0 : Int32) → Q (some (.int (-1 : Int32))) H) ∧ (¬ a2 < (0 : Int32) → (a2 ≤ (1 : Int32) → (a3 < (0 : Int32) → Q (some (.int (-1 : Int32))) H) ∧ (¬ a3 < (0 : Int32) → (a3 ≤ (1 : Int32) → pm_R (d + 1) M_Pr_comes [.ref 1, .ref 2, .int a1, .int a2] H (pm_i (fun x54 H53 => (¬ a3 = 0 → pm_R (d + 1) M_Pr_gives [.ref 1, .ref 2, .int a1, .int a2, .int x54] H53 (pm_i (fun x56 H55 => Q (some (.int x56)) H55))) ∧ (a3 = 0 → Q (some (.int x54)) H53)))) ∧ (¬ a3 ≤ (1 : Int32) → Q (some (.int (-1 : Int32))) H))) ∧ (¬ a2 ≤ (1 : Int32) → Q (some (.int (-1 : Int32))) H))) ∧ (¬ a1 ≤ ((H.1 2 0) - (1 : Int32)) → Q (some (.int (-1 : Int32))) H))) : pm_R (d + 2) M_PW_playing [.ref 0, .int a1, .int a2, .int a3] H Q :=
  pm_walk (n := 33) ok_PW_playing tk_PW_playing rfl (Nat.le_of_ble_eq_true rfl) (show pm_R (d + 1) M_PW_noBar [.ref 0, .int a1] H (pm_i (fun x2 H1 => (¬ x2 = 0 → Q (some (.int (-1 : Int32))) H1) ∧ (x2 = 0 → pm_R (d + 1) M_PW_outside [.int a2, .int (0 : Int32), .int (1 : Int32)] H1 (pm_i (fun x4 H3 => (¬ x4 = 0 → Q (some (.int (-1 : Int32))) H3) ∧ (x4 = 0 → pm_R (d + 1) M_PW_outside [.int a3, .int (0 : Int32), .int (1 : Int32)] H3 (pm_i (fun x6 H5 => (x6 = 0 → pm_R (d + 1) M_Pr_comes [.ref 1, .ref 2, .int a1, .int a2] H5 (pm_i (fun x8 H7 => (¬ a3 = 0 → pm_R (d + 1) M_Pr_gives [.ref 1, .ref 2, .int a1, .int a2, .int x8] H7 (pm_i (fun x10 H9 => Q (some (.int x10)) H9))) ∧ (a3 = 0 → Q (some (.int x8)) H7)))) ∧ (¬ x6 = 0 → Q (some (.int (-1 : Int32))) H5))))))))) from u_PW_noBar a1 (u_PW_outside a1 (0 : Int32) ((H.1 2 0) - (1 : Int32)) (⟨fun q1 => ⟨Or.inr rfl, ⟨Or.inr rfl, ⟨fun _ => (h.1 q1), fun z => absurd z (by decide)⟩⟩⟩, fun q1 => ⟨fun q2 => ⟨Or.inl rfl, ⟨Or.inl rfl, ⟨fun z => absurd (by decide) z, fun _ => u_PW_outside a2 (0 : Int32) (1 : Int32) (⟨fun q3 => ⟨Or.inr rfl, ⟨fun _ => (((h.2 q1).1 q2).1 q3), fun z => absurd z (by decide)⟩⟩, fun q3 => ⟨fun q4 => ⟨Or.inl rfl, ⟨fun z => absurd (by decide) z, fun _ => u_PW_outside a3 (0 : Int32) (1 : Int32) (⟨fun q5 => ⟨Or.inr rfl, ⟨fun z => absurd z (by decide), fun _ => (((((h.2 q1).1 q2).2 q3).1 q4).1 q5)⟩⟩, fun q5 => ⟨fun q6 => ⟨Or.inl rfl, ⟨fun _ => pm_mi ((((((h.2 q1).1 q2).2 q3).1 q4).2 q5).1 q6) (fun x54 H53 z7 => ⟨fun q8 => (z7.1 q8), fun q8 => (z7.2 q8)⟩), fun z => absurd (by decide) z⟩⟩, fun q6 => ⟨Or.inr rfl, ⟨fun z => absurd z (by decide), fun _ => ((((((h.2 q1).1 q2).2 q3).1 q4).2 q5).2 q6)⟩⟩⟩⟩)⟩⟩, fun q4 => ⟨Or.inr rfl, ⟨fun _ => ((((h.2 q1).1 q2).2 q3).2 q4), fun z => absurd z (by decide)⟩⟩⟩⟩)⟩⟩⟩, fun q2 => ⟨Or.inr rfl, ⟨Or.inr rfl, ⟨fun _ => ((h.2 q1).2 q2), fun z => absurd z (by decide)⟩⟩⟩⟩⟩)))
def T_PW_plan : List pmE := [
  (0, [], .iload 1, 0, 0, 0),
  (1, [], .invokeinterface 137 5, 1, 81, 396),
  (4, [], .ifCond .ne 24, 0, 0, 0),
  (7, [], .aload 0, 0, 0, 0),
  (8, [], .iload 2, 0, 0, 0),
  (9, [], .invokeinterface 136 585, 0, 120, 427),
  (12, [], .ifCond .ne 24, 0, 0, 0),
  (15, [], .iload 3, 0, 0, 0),
  (16, [], .iconst 0, 0, 0, 0),
  (17, [], .iconst 1, 0, 0, 0),
  (18, [], .invokeinterface 135 13, 1, 73, 385),
  (21, [], .ifCond .eq 26, 0, 0, 0),
  (24, [], .iconst (-1), 0, 0, 0),
  (25, [], .ireturn, 0, 0, 0),
  (26, [], .aload 0, 0, 0, 0),
  (27, [], .iload 1, 0, 0, 0),
  (28, [], .invokeinterface 141 585, 0, 150, 548),
  (31, [], .istore 4, 1, 0, 0),
  (33, [], .iload 4, 1, 0, 0),
  (35, [], .ifCond .eq 41, 0, 0, 0),
  (38, [], .iload 4, 1, 0, 0),
  (40, [], .ireturn, 0, 0, 0),
  (41, [], .aload 0, 0, 0, 0),
  (42, [], .getfield 514, 0, 24, 349),
  (45, [], .aload 0, 0, 0, 0),
  (46, [], .getfield 512, 0, 10, 347),
  (49, [], .aload 0, 0, 0, 0),
  (50, [], .getfield 518, 0, 51, 353),
  (53, [], .iload 1, 0, 0, 0),
  (54, [], .aaload, 0, 0, 0),
  (55, [], .iconst 60, 1, 0, 0),
  (57, [], .invokeinterface 54 400, 0, 153, 552),
  (60, [], .iload 3, 0, 0, 0),
  (61, [], .ifCond .ne 79, 0, 0, 0),
  (64, [], .aload 0, 0, 0, 0),
  (65, [], .getfield 512, 0, 10, 347),
  (68, [], .getfield 385, 0, 157, 188),
  (71, [], .getfield 193, 0, 160, 116),
  (74, [], .iload 2, 0, 0, 0),
  (75, [], .iaload, 0, 0, 0),
  (76, [], .goto 91, 0, 0, 0),
  (79, [], .aload 0, 0, 0, 0),
  (80, [], .getfield 512, 0, 10, 347),
  (83, [], .getfield 385, 0, 157, 188),
  (86, [], .getfield 194, 0, 163, 121),
  (89, [], .iload 2, 0, 0, 0),
  (90, [], .iaload, 0, 0, 0),
  (91, [], .ireturn, 0, 0, 0)]
theorem tk_PW_plan : pm_okT M_PW_plan T_PW_plan = true := by decide +kernel
theorem ok_PW_plan : pm_okm M_PW_plan := pm_okm_of _ 547 76 545 546 (by decide +kernel)
set_option maxRecDepth 100000 in
set_option maxHeartbeats 4000000 in
theorem m_PW_plan {d : Nat} {H : pmT} {Q : pmQ} (a1 : Int32) (a2 : Int32) (a3 : Int32)
    (h : (a1 < (0 : Int32) → Q (some (.int (-1 : Int32))) H) ∧ (¬ a1 < (0 : Int32) → (a1 ≤ (5 : Int32) → (a2 < (0 : Int32) → Q (some (.int (-1 : Int32))) H) ∧ (¬ a2 < (0 : Int32) → (a2 ≤ ((H.1 2 0) - (1 : Int32)) → (a3 < (0 : Int32) → Q (some (.int (-1 : Int32))) H) ∧ (¬ a3 < (0 : Int32) → (a3 ≤ (1 : Int32) → vp_in a1 6 ∧ ((0 ≤ (H.1 (43 + 2 * a1.toNatClampNeg) 0) → ((H.1 (43 + 2 * a1.toNatClampNeg) 1) = (-1 : Int32) → Q (some (.int (-12 : Int32))) H) ∧ (¬ (H.1 (43 + 2 * a1.toNatClampNeg) 1) = (-1 : Int32) → (¬ (H.1 (43 + 2 * a1.toNatClampNeg) 1) = (0 : Int32) → Q (some (.int (-12 : Int32))) H) ∧ ((H.1 (43 + 2 * a1.toNatClampNeg) 1) = (0 : Int32) → pm_R (d + 2) M_Pl_walk [.ref 21, .ref 1, .ref (43 + 2 * a1.toNatClampNeg), .int (60 : Int32)] H (pm_v (fun H519 => (¬ a3 = 0 → vp_in a2 12 ∧ (Q (some (.int (H519.1 10 a2.toNatClampNeg))) H519)) ∧ (a3 = 0 → vp_in a2 12 ∧ (Q (some (.int (H519.1 9 a2.toNatClampNeg))) H519))))))) ∧ (¬ 0 ≤ (H.1 (43 + 2 * a1.toNatClampNeg) 0) → (¬ (H.1 (43 + 2 * a1.toNatClampNeg) 1) = (-1 : Int32) → (¬ (H.1 (43 + 2 * a1.toNatClampNeg) 1) = (0 : Int32) → Q (some (.int (-12 : Int32))) H) ∧ ((H.1 (43 + 2 * a1.toNatClampNeg) 1) = (0 : Int32) → pm_R (d + 2) M_Pl_walk [.ref 21, .ref 1, .ref (43 + 2 * a1.toNatClampNeg), .int (60 : Int32)] H (pm_v (fun H532 => (¬ a3 = 0 → vp_in a2 12 ∧ (Q (some (.int (H532.1 10 a2.toNatClampNeg))) H532)) ∧ (a3 = 0 → vp_in a2 12 ∧ (Q (some (.int (H532.1 9 a2.toNatClampNeg))) H532)))))) ∧ ((H.1 (43 + 2 * a1.toNatClampNeg) 1) = (-1 : Int32) → Q (some (.int (-11 : Int32))) H)))) ∧ (¬ a3 ≤ (1 : Int32) → Q (some (.int (-1 : Int32))) H))) ∧ (¬ a2 ≤ ((H.1 2 0) - (1 : Int32)) → Q (some (.int (-1 : Int32))) H))) ∧ (¬ a1 ≤ (5 : Int32) → Q (some (.int (-1 : Int32))) H))) : pm_R (d + 3) M_PW_plan [.ref 0, .int a1, .int a2, .int a3] H Q :=
  pm_walk (n := 38) ok_PW_plan tk_PW_plan rfl (Nat.le_of_ble_eq_true rfl) (show pm_R (d + 2) M_PW_noShelf [.int a1] H (pm_i (fun x2 H1 => (¬ x2 = 0 → Q (some (.int (-1 : Int32))) H1) ∧ (x2 = 0 → pm_R (d + 2) M_PW_noBar [.ref 0, .int a2] H1 (pm_i (fun x4 H3 => (¬ x4 = 0 → Q (some (.int (-1 : Int32))) H3) ∧ (x4 = 0 → pm_R (d + 2) M_PW_outside [.int a3, .int (0 : Int32), .int (1 : Int32)] H3 (pm_i (fun x6 H5 => (x6 = 0 → pm_R (d + 2) M_PW_refusalOfBytes [.ref 0, .int a1] H5 (pm_i (fun x8 H7 => (x8 = 0 → vp_in a1 6 ∧ (pm_R (d + 2) M_Pl_walk [.ref 21, .ref 1, .ref (43 + 2 * a1.toNatClampNeg), .int (60 : Int32)] H7 (pm_v (fun H9 => (¬ a3 = 0 → vp_in a2 12 ∧ (Q (some (.int (H9.1 10 a2.toNatClampNeg))) H9)) ∧ (a3 = 0 → vp_in a2 12 ∧ (Q (some (.int (H9.1 9 a2.toNatClampNeg))) H9)))))) ∧ (¬ x8 = 0 → Q (some (.int x8)) H7)))) ∧ (¬ x6 = 0 → Q (some (.int (-1 : Int32))) H5))))))))) from u_PW_noShelf a1 (u_PW_outside a1 (0 : Int32) (5 : Int32) (⟨fun q1 => ⟨Or.inr rfl, ⟨Or.inr rfl, ⟨fun _ => (h.1 q1), fun z => absurd z (by decide)⟩⟩⟩, fun q1 => ⟨fun q2 => ⟨Or.inl rfl, ⟨Or.inl rfl, ⟨fun z => absurd (by decide) z, fun _ => u_PW_noBar a2 (u_PW_outside a2 (0 : Int32) ((H.1 2 0) - (1 : Int32)) (⟨fun q3 => ⟨Or.inr rfl, ⟨Or.inr rfl, ⟨fun _ => (((h.2 q1).1 q2).1 q3), fun z => absurd z (by decide)⟩⟩⟩, fun q3 => ⟨fun q4 => ⟨Or.inl rfl, ⟨Or.inl rfl, ⟨fun z => absurd (by decide) z, fun _ => u_PW_outside a3 (0 : Int32) (1 : Int32) (⟨fun q5 => ⟨Or.inr rfl, ⟨fun z => absurd z (by decide), fun _ => (((((h.2 q1).1 q2).2 q3).1 q4).1 q5)⟩⟩, fun q5 => ⟨fun q6 => ⟨Or.inl rfl, ⟨fun _ => u_PW_refusalOfBytes a1 (⟨((((((h.2 q1).1 q2).2 q3).1 q4).2 q5).1 q6).1, pm_mkO (pm_shO ((((((h.2 q1).1 q2).2 q3).1 q4).2 q5).1 q6).1) (u_Sh_isEmpty (43 + 2 * a1.toNatClampNeg) (pm_mkO (pm_shO ((((((h.2 q1).1 q2).2 q3).1 q4).2 q5).1 q6).1) (⟨fun q7 => ⟨Or.inl rfl, ⟨fun _ => pm_mkO (pm_shO ((((((h.2 q1).1 q2).2 q3).1 q4).2 q5).1 q6).1) (u_Sh_isRowOf (43 + 2 * a1.toNatClampNeg) (0 : Int32) (pm_mkO (pm_shO ((((((h.2 q1).1 q2).2 q3).1 q4).2 q5).1 q6).1) (u_Sh_isRow (43 + 2 * a1.toNatClampNeg) (pm_mkO (pm_shO ((((((h.2 q1).1 q2).2 q3).1 q4).2 q5).1 q6).1) (⟨fun q8 => ⟨Or.inl rfl, ⟨fun _ => ⟨Or.inl rfl, ⟨fun _ => ⟨fun z => absurd z (by decide), fun _ => ((((((((h.2 q1).1 q2).2 q3).1 q4).2 q5).1 q6).2.1 q7).1 q8)⟩, fun z => absurd (by decide) z⟩⟩, fun z => absurd (by decide) z⟩⟩, fun q8 => ⟨Or.inr rfl, ⟨fun z => absurd z (by decide), fun _ => pm_mkO (pm_shO ((((((h.2 q1).1 q2).2 q3).1 q4).2 q5).1 q6).1) (⟨fun q9 => ⟨Or.inl rfl, ⟨fun _ => ⟨fun z => absurd z (by decide), fun _ => (((((((((h.2 q1).1 q2).2 q3).1 q4).2 q5).1 q6).2.1 q7).2 q8).1 q9)⟩, fun z => absurd (by decide) z⟩⟩, fun q9 => ⟨Or.inr rfl, ⟨fun z => absurd z (by decide), fun _ => ⟨fun _ => ⟨((((((h.2 q1).1 q2).2 q3).1 q4).2 q5).1 q6).1, pm_mv' (((((((((h.2 q1).1 q2).2 q3).1 q4).2 q5).1 q6).2.1 q7).2 q8).2 q9) (fun H519 z10 => ⟨fun q11 => ⟨(z10.1 q11).1, (z10.1 q11).2⟩, fun q11 => ⟨(z10.2 q11).1, (z10.2 q11).2⟩⟩)⟩, fun z => absurd (by decide) z⟩⟩⟩⟩)⟩⟩⟩))))), fun z => absurd (by decide) z⟩⟩, fun q7 => pm_mkO (pm_shO ((((((h.2 q1).1 q2).2 q3).1 q4).2 q5).1 q6).1) (⟨fun q12 => ⟨Or.inl rfl, ⟨fun _ => pm_mkO (pm_shO ((((((h.2 q1).1 q2).2 q3).1 q4).2 q5).1 q6).1) (u_Sh_isRowOf (43 + 2 * a1.toNatClampNeg) (0 : Int32) (pm_mkO (pm_shO ((((((h.2 q1).1 q2).2 q3).1 q4).2 q5).1 q6).1) (u_Sh_isRow (43 + 2 * a1.toNatClampNeg) (pm_mkO (pm_shO ((((((h.2 q1).1 q2).2 q3).1 q4).2 q5).1 q6).1) (⟨fun z => absurd z q12, fun _ => ⟨Or.inr rfl, ⟨fun z => absurd z (by decide), fun _ => pm_mkO (pm_shO ((((((h.2 q1).1 q2).2 q3).1 q4).2 q5).1 q6).1) (⟨fun q13 => ⟨Or.inl rfl, ⟨fun _ => ⟨fun z => absurd z (by decide), fun _ => (((((((((h.2 q1).1 q2).2 q3).1 q4).2 q5).1 q6).2.2 q7).1 q12).1 q13)⟩, fun z => absurd (by decide) z⟩⟩, fun q13 => ⟨Or.inr rfl, ⟨fun z => absurd z (by decide), fun _ => ⟨fun _ => ⟨((((((h.2 q1).1 q2).2 q3).1 q4).2 q5).1 q6).1, pm_mv' (((((((((h.2 q1).1 q2).2 q3).1 q4).2 q5).1 q6).2.2 q7).1 q12).2 q13) (fun H532 z14 => ⟨fun q15 => ⟨(z14.1 q15).1, (z14.1 q15).2⟩, fun q15 => ⟨(z14.2 q15).1, (z14.2 q15).2⟩⟩)⟩, fun z => absurd (by decide) z⟩⟩⟩⟩)⟩⟩⟩))))), fun z => absurd (by decide) z⟩⟩, fun q12 => ⟨Or.inr rfl, ⟨fun z => absurd z (by decide), fun _ => ⟨fun z => absurd z (by decide), fun _ => ((((((((h.2 q1).1 q2).2 q3).1 q4).2 q5).1 q6).2.2 q7).2 q12)⟩⟩⟩⟩)⟩)))⟩), fun z => absurd (by decide) z⟩⟩, fun q6 => ⟨Or.inr rfl, ⟨fun z => absurd z (by decide), fun _ => ((((((h.2 q1).1 q2).2 q3).1 q4).2 q5).2 q6)⟩⟩⟩⟩)⟩⟩⟩, fun q4 => ⟨Or.inr rfl, ⟨Or.inr rfl, ⟨fun _ => ((((h.2 q1).1 q2).2 q3).2 q4), fun z => absurd z (by decide)⟩⟩⟩⟩⟩))⟩⟩⟩, fun q2 => ⟨Or.inr rfl, ⟨Or.inr rfl, ⟨fun _ => ((h.2 q1).2 q2), fun z => absurd z (by decide)⟩⟩⟩⟩⟩)))
def T_PW_came : List pmE := [
  (0, [], .iload 1, 0, 0, 0),
  (1, [], .invokeinterface 137 5, 1, 81, 396),
  (4, [], .ifCond .ne 11, 0, 0, 0),
  (7, [], .iload 2, 0, 0, 0),
  (8, [], .ifCond .ge 13, 0, 0, 0),
  (11, [], .iconst (-1), 0, 0, 0),
  (12, [], .ireturn, 0, 0, 0),
  (13, [], .aload 0, 0, 0, 0),
  (14, [], .iload 1, 0, 0, 0),
  (15, [], .invokeinterface 141 585, 0, 150, 548),
  (18, [], .istore 3, 0, 0, 0),
  (19, [], .iload 3, 0, 0, 0),
  (20, [], .ifCond .eq 25, 0, 0, 0),
  (23, [], .iload 3, 0, 0, 0),
  (24, [], .ireturn, 0, 0, 0),
  (25, [], .iload 2, 0, 0, 0),
  (26, [], .aload 0, 0, 0, 0),
  (27, [], .getfield 518, 0, 51, 353),
  (30, [], .iload 1, 0, 0, 0),
  (31, [], .aaload, 0, 0, 0),
  (32, [], .getfield 450, 0, 92, 334),
  (35, [], .if_icmp .lt 41, 0, 0, 0),
  (38, [], .iconst (-2), 1, 0, 0),
  (40, [], .ireturn, 0, 0, 0),
  (41, [], .aload 0, 0, 0, 0),
  (42, [], .getfield 514, 0, 24, 349),
  (45, [], .aload 0, 0, 0, 0),
  (46, [], .getfield 512, 0, 10, 347),
  (49, [], .aload 0, 0, 0, 0),
  (50, [], .getfield 518, 0, 51, 353),
  (53, [], .iload 1, 0, 0, 0),
  (54, [], .aaload, 0, 0, 0),
  (55, [], .iload 2, 0, 0, 0),
  (56, [], .iconst 1, 0, 0, 0),
  (57, [], .iadd, 0, 0, 0),
  (58, [], .invokeinterface 54 400, 0, 153, 552),
  (61, [], .aload 0, 0, 0, 0),
  (62, [], .getfield 514, 0, 24, 349),
  (65, [], .getfield 320, 0, 166, 215),
  (68, [], .iload 2, 0, 0, 0),
  (69, [], .if_icmp .le 82, 0, 0, 0),
  (72, [], .aload 0, 0, 0, 0),
  (73, [], .getfield 514, 0, 24, 349),
  (76, [], .getfield 322, 0, 169, 219),
  (79, [], .goto 84, 0, 0, 0),
  (82, [], .iconst (-2), 1, 0, 0),
  (84, [], .ireturn, 0, 0, 0)]
theorem tk_PW_came : pm_okT M_PW_came T_PW_came = true := by decide +kernel
theorem ok_PW_came : pm_okm M_PW_came := pm_okm_of _ 608 76 606 607 (by decide +kernel)
set_option maxRecDepth 100000 in
set_option maxHeartbeats 4000000 in
theorem m_PW_came {d : Nat} {H : pmT} {Q : pmQ} (a1 : Int32) (a2 : Int32)
    (h : (a1 < (0 : Int32) → Q (some (.int (-1 : Int32))) H) ∧ (¬ a1 < (0 : Int32) → (a1 ≤ (5 : Int32) → (0 ≤ a2 → vp_in a1 6 ∧ ((0 ≤ (H.1 (43 + 2 * a1.toNatClampNeg) 0) → ((H.1 (43 + 2 * a1.toNatClampNeg) 1) = (-1 : Int32) → Q (some (.int (-12 : Int32))) H) ∧ (¬ (H.1 (43 + 2 * a1.toNatClampNeg) 1) = (-1 : Int32) → (¬ (H.1 (43 + 2 * a1.toNatClampNeg) 1) = (0 : Int32) → Q (some (.int (-12 : Int32))) H) ∧ ((H.1 (43 + 2 * a1.toNatClampNeg) 1) = (0 : Int32) → (a2 < (H.1 (43 + 2 * a1.toNatClampNeg) 2) → pm_R (d + 2) M_Pl_walk [.ref 21, .ref 1, .ref (43 + 2 * a1.toNatClampNeg), .int (a2 + (1 : Int32))] H (pm_v (fun H51 => ((H51.1 21 0) ≤ a2 → Q (some (.int (-2 : Int32))) H51) ∧ (¬ (H51.1 21 0) ≤ a2 → Q (some (.int (H51.1 21 2))) H51)))) ∧ (¬ a2 < (H.1 (43 + 2 * a1.toNatClampNeg) 2) → Q (some (.int (-2 : Int32))) H)))) ∧ (¬ 0 ≤ (H.1 (43 + 2 * a1.toNatClampNeg) 0) → (¬ (H.1 (43 + 2 * a1.toNatClampNeg) 1) = (-1 : Int32) → (¬ (H.1 (43 + 2 * a1.toNatClampNeg) 1) = (0 : Int32) → Q (some (.int (-12 : Int32))) H) ∧ ((H.1 (43 + 2 * a1.toNatClampNeg) 1) = (0 : Int32) → (a2 < (H.1 (43 + 2 * a1.toNatClampNeg) 2) → pm_R (d + 2) M_Pl_walk [.ref 21, .ref 1, .ref (43 + 2 * a1.toNatClampNeg), .int (a2 + (1 : Int32))] H (pm_v (fun H64 => ((H64.1 21 0) ≤ a2 → Q (some (.int (-2 : Int32))) H64) ∧ (¬ (H64.1 21 0) ≤ a2 → Q (some (.int (H64.1 21 2))) H64)))) ∧ (¬ a2 < (H.1 (43 + 2 * a1.toNatClampNeg) 2) → Q (some (.int (-2 : Int32))) H))) ∧ ((H.1 (43 + 2 * a1.toNatClampNeg) 1) = (-1 : Int32) → Q (some (.int (-11 : Int32))) H)))) ∧ (¬ 0 ≤ a2 → Q (some (.int (-1 : Int32))) H)) ∧ (¬ a1 ≤ (5 : Int32) → Q (some (.int (-1 : Int32))) H))) : pm_R (d + 3) M_PW_came [.ref 0, .int a1, .int a2] H Q :=
  pm_walk (n := 40) ok_PW_came tk_PW_came rfl (Nat.le_of_ble_eq_true rfl) (show pm_R (d + 2) M_PW_noShelf [.int a1] H (pm_i (fun x2 H1 => (¬ x2 = 0 → Q (some (.int (-1 : Int32))) H1) ∧ (x2 = 0 → (0 ≤ a2 → pm_R (d + 2) M_PW_refusalOfBytes [.ref 0, .int a1] H1 (pm_i (fun x4 H3 => (x4 = 0 → vp_in a1 6 ∧ (pm_chkO (43 + 2 * a1.toNatClampNeg) 7 ((a2 < (H3.1 (43 + 2 * a1.toNatClampNeg) 2) → vp_in a1 6 ∧ (pm_R (d + 2) M_Pl_walk [.ref 21, .ref 1, .ref (43 + 2 * a1.toNatClampNeg), .int (a2 + (1 : Int32))] H3 (pm_v (fun H5 => ((H5.1 21 0) ≤ a2 → Q (some (.int (-2 : Int32))) H5) ∧ (¬ (H5.1 21 0) ≤ a2 → Q (some (.int (H5.1 21 2))) H5))))) ∧ (¬ a2 < (H3.1 (43 + 2 * a1.toNatClampNeg) 2) → Q (some (.int (-2 : Int32))) H3)))) ∧ (¬ x4 = 0 → Q (some (.int x4)) H3)))) ∧ (¬ 0 ≤ a2 → Q (some (.int (-1 : Int32))) H1)))) from u_PW_noShelf a1 (u_PW_outside a1 (0 : Int32) (5 : Int32) (⟨fun q1 => ⟨Or.inr rfl, ⟨Or.inr rfl, ⟨fun _ => (h.1 q1), fun z => absurd z (by decide)⟩⟩⟩, fun q1 => ⟨fun q2 => ⟨Or.inl rfl, ⟨Or.inl rfl, ⟨fun z => absurd (by decide) z, fun _ => ⟨fun q3 => u_PW_refusalOfBytes a1 (⟨(((h.2 q1).1 q2).1 q3).1, pm_mkO (pm_shO (((h.2 q1).1 q2).1 q3).1) (u_Sh_isEmpty (43 + 2 * a1.toNatClampNeg) (pm_mkO (pm_shO (((h.2 q1).1 q2).1 q3).1) (⟨fun q4 => ⟨Or.inl rfl, ⟨fun _ => pm_mkO (pm_shO (((h.2 q1).1 q2).1 q3).1) (u_Sh_isRowOf (43 + 2 * a1.toNatClampNeg) (0 : Int32) (pm_mkO (pm_shO (((h.2 q1).1 q2).1 q3).1) (u_Sh_isRow (43 + 2 * a1.toNatClampNeg) (pm_mkO (pm_shO (((h.2 q1).1 q2).1 q3).1) (⟨fun q5 => ⟨Or.inl rfl, ⟨fun _ => ⟨Or.inl rfl, ⟨fun _ => ⟨fun z => absurd z (by decide), fun _ => (((((h.2 q1).1 q2).1 q3).2.1 q4).1 q5)⟩, fun z => absurd (by decide) z⟩⟩, fun z => absurd (by decide) z⟩⟩, fun q5 => ⟨Or.inr rfl, ⟨fun z => absurd z (by decide), fun _ => pm_mkO (pm_shO (((h.2 q1).1 q2).1 q3).1) (⟨fun q6 => ⟨Or.inl rfl, ⟨fun _ => ⟨fun z => absurd z (by decide), fun _ => ((((((h.2 q1).1 q2).1 q3).2.1 q4).2 q5).1 q6)⟩, fun z => absurd (by decide) z⟩⟩, fun q6 => ⟨Or.inr rfl, ⟨fun z => absurd z (by decide), fun _ => ⟨fun _ => ⟨(((h.2 q1).1 q2).1 q3).1, pm_mkO (pm_shO (((h.2 q1).1 q2).1 q3).1) (⟨fun q7 => ⟨(((h.2 q1).1 q2).1 q3).1, pm_mv' (((((((h.2 q1).1 q2).1 q3).2.1 q4).2 q5).2 q6).1 q7) (fun H51 z8 => ⟨fun q9 => (z8.1 q9), fun q9 => (z8.2 q9)⟩)⟩, fun q7 => (((((((h.2 q1).1 q2).1 q3).2.1 q4).2 q5).2 q6).2 q7)⟩)⟩, fun z => absurd (by decide) z⟩⟩⟩⟩)⟩⟩⟩))))), fun z => absurd (by decide) z⟩⟩, fun q4 => pm_mkO (pm_shO (((h.2 q1).1 q2).1 q3).1) (⟨fun q10 => ⟨Or.inl rfl, ⟨fun _ => pm_mkO (pm_shO (((h.2 q1).1 q2).1 q3).1) (u_Sh_isRowOf (43 + 2 * a1.toNatClampNeg) (0 : Int32) (pm_mkO (pm_shO (((h.2 q1).1 q2).1 q3).1) (u_Sh_isRow (43 + 2 * a1.toNatClampNeg) (pm_mkO (pm_shO (((h.2 q1).1 q2).1 q3).1) (⟨fun z => absurd z q10, fun _ => ⟨Or.inr rfl, ⟨fun z => absurd z (by decide), fun _ => pm_mkO (pm_shO (((h.2 q1).1 q2).1 q3).1) (⟨fun q11 => ⟨Or.inl rfl, ⟨fun _ => ⟨fun z => absurd z (by decide), fun _ => ((((((h.2 q1).1 q2).1 q3).2.2 q4).1 q10).1 q11)⟩, fun z => absurd (by decide) z⟩⟩, fun q11 => ⟨Or.inr rfl, ⟨fun z => absurd z (by decide), fun _ => ⟨fun _ => ⟨(((h.2 q1).1 q2).1 q3).1, pm_mkO (pm_shO (((h.2 q1).1 q2).1 q3).1) (⟨fun q12 => ⟨(((h.2 q1).1 q2).1 q3).1, pm_mv' (((((((h.2 q1).1 q2).1 q3).2.2 q4).1 q10).2 q11).1 q12) (fun H64 z13 => ⟨fun q14 => (z13.1 q14), fun q14 => (z13.2 q14)⟩)⟩, fun q12 => (((((((h.2 q1).1 q2).1 q3).2.2 q4).1 q10).2 q11).2 q12)⟩)⟩, fun z => absurd (by decide) z⟩⟩⟩⟩)⟩⟩⟩))))), fun z => absurd (by decide) z⟩⟩, fun q10 => ⟨Or.inr rfl, ⟨fun z => absurd z (by decide), fun _ => ⟨fun z => absurd z (by decide), fun _ => (((((h.2 q1).1 q2).1 q3).2.2 q4).2 q10)⟩⟩⟩⟩)⟩)))⟩), fun q3 => (((h.2 q1).1 q2).2 q3)⟩⟩⟩⟩, fun q2 => ⟨Or.inr rfl, ⟨Or.inr rfl, ⟨fun _ => ((h.2 q1).2 q2), fun z => absurd z (by decide)⟩⟩⟩⟩⟩)))
def T_PW_lesson : List pmE := [
  (0, [], .iload 1, 0, 0, 0),
  (1, [], .invokeinterface 137 5, 1, 81, 396),
  (4, [], .ifCond .ne 16, 0, 0, 0),
  (7, [], .iload 2, 0, 0, 0),
  (8, [], .iconst 0, 0, 0, 0),
  (9, [], .iconst 4, 0, 0, 0),
  (10, [], .invokeinterface 135 13, 1, 73, 385),
  (13, [], .ifCond .eq 18, 0, 0, 0),
  (16, [], .iconst (-1), 0, 0, 0),
  (17, [], .ireturn, 0, 0, 0),
  (18, [], .aload 0, 0, 0, 0),
  (19, [], .iload 1, 0, 0, 0),
  (20, [], .invokeinterface 141 585, 0, 150, 548),
  (23, [], .istore 3, 0, 0, 0),
  (24, [], .iload 3, 0, 0, 0),
  (25, [], .ifCond .eq 30, 0, 0, 0),
  (28, [], .iload 3, 0, 0, 0),
  (29, [], .ireturn, 0, 0, 0),
  (30, [], .aload 0, 0, 0, 0),
  (31, [], .getfield 514, 0, 24, 349),
  (34, [], .aload 0, 0, 0, 0),
  (35, [], .getfield 512, 0, 10, 347),
  (38, [], .aload 0, 0, 0, 0),
  (39, [], .getfield 518, 0, 51, 353),
  (42, [], .iload 1, 0, 0, 0),
  (43, [], .aaload, 0, 0, 0),
  (44, [], .iconst 60, 1, 0, 0),
  (46, [], .invokeinterface 54 400, 0, 153, 552),
  (49, [], .iload 2, 0, 0, 0),
  (50, [], .lookupswitch 121 #[(0, 80), (1, 91), (2, 102), (3, 113)], 1, 30, 0),
  (80, [], .aload 0, 0, 0, 0),
  (81, [], .getfield 512, 0, 10, 347),
  (84, [], .getfield 385, 0, 157, 188),
  (87, [], .invokeinterface 32 261, 0, 172, 613),
  (90, [], .ireturn, 0, 0, 0),
  (91, [], .aload 0, 0, 0, 0),
  (92, [], .getfield 512, 0, 10, 347),
  (95, [], .getfield 385, 0, 157, 188),
  (98, [], .invokeinterface 31 261, 0, 175, 631),
  (101, [], .ireturn, 0, 0, 0),
  (102, [], .aload 0, 0, 0, 0),
  (103, [], .getfield 512, 0, 10, 347),
  (106, [], .getfield 385, 0, 157, 188),
  (109, [], .invokeinterface 33 261, 0, 178, 632),
  (112, [], .ireturn, 0, 0, 0),
  (113, [], .aload 0, 0, 0, 0),
  (114, [], .getfield 514, 0, 24, 349),
  (117, [], .getfield 321, 0, 181, 217),
  (120, [], .ireturn, 0, 0, 0),
  (121, [], .aload 0, 0, 0, 0),
  (122, [], .getfield 514, 0, 24, 349),
  (125, [], .getfield 320, 0, 166, 215),
  (128, [], .ireturn, 0, 0, 0)]
theorem tk_PW_lesson : pm_okT M_PW_lesson T_PW_lesson = true := by decide +kernel
theorem ok_PW_lesson : pm_okm M_PW_lesson := pm_okm_of _ 612 76 610 611 (by decide +kernel)
set_option maxRecDepth 100000 in
set_option maxHeartbeats 4000000 in
theorem m_PW_lesson {d : Nat} {H : pmT} {Q : pmQ} (a1 : Int32) (a2 : Int32)
    (h : (a1 < (0 : Int32) → Q (some (.int (-1 : Int32))) H) ∧ (¬ a1 < (0 : Int32) → (a1 ≤ (5 : Int32) → (a2 < (0 : Int32) → Q (some (.int (-1 : Int32))) H) ∧ (¬ a2 < (0 : Int32) → (a2 ≤ (4 : Int32) → vp_in a1 6 ∧ ((0 ≤ (H.1 (43 + 2 * a1.toNatClampNeg) 0) → ((H.1 (43 + 2 * a1.toNatClampNeg) 1) = (-1 : Int32) → Q (some (.int (-12 : Int32))) H) ∧ (¬ (H.1 (43 + 2 * a1.toNatClampNeg) 1) = (-1 : Int32) → (¬ (H.1 (43 + 2 * a1.toNatClampNeg) 1) = (0 : Int32) → Q (some (.int (-12 : Int32))) H) ∧ ((H.1 (43 + 2 * a1.toNatClampNeg) 1) = (0 : Int32) → pm_R (d + 2) M_Pl_walk [.ref 21, .ref 1, .ref (43 + 2 * a1.toNatClampNeg), .int (60 : Int32)] H (pm_v (fun H1170 => (a2 = (0 : Int32) → pm_R (d + 2) M_Ha_lessonCount [.ref 8] H1170 (pm_i (fun x1176 H1175 => Q (some (.int x1176)) H1175))) ∧ (¬ a2 = (0 : Int32) → (a2 = (1 : Int32) → pm_R (d + 2) M_Ha_lessonBits [.ref 8] H1170 (pm_i (fun x1174 H1173 => Q (some (.int x1174)) H1173))) ∧ (¬ a2 = (1 : Int32) → (a2 = (2 : Int32) → pm_R (d + 2) M_Ha_firstSlip [.ref 8] H1170 (pm_i (fun x1172 H1171 => Q (some (.int x1172)) H1171))) ∧ (¬ a2 = (2 : Int32) → (a2 = (3 : Int32) → Q (some (.int (H1170.1 21 1))) H1170) ∧ (¬ a2 = (3 : Int32) → Q (some (.int (H1170.1 21 0))) H1170))))))))) ∧ (¬ 0 ≤ (H.1 (43 + 2 * a1.toNatClampNeg) 0) → (¬ (H.1 (43 + 2 * a1.toNatClampNeg) 1) = (-1 : Int32) → (¬ (H.1 (43 + 2 * a1.toNatClampNeg) 1) = (0 : Int32) → Q (some (.int (-12 : Int32))) H) ∧ ((H.1 (43 + 2 * a1.toNatClampNeg) 1) = (0 : Int32) → pm_R (d + 2) M_Pl_walk [.ref 21, .ref 1, .ref (43 + 2 * a1.toNatClampNeg), .int (60 : Int32)] H (pm_v (fun H1261 => (a2 = (0 : Int32) → pm_R (d + 2) M_Ha_lessonCount [.ref 8] H1261 (pm_i (fun x1267 H1266 => Q (some (.int x1267)) H1266))) ∧ (¬ a2 = (0 : Int32) → (a2 = (1 : Int32) → pm_R (d + 2) M_Ha_lessonBits [.ref 8] H1261 (pm_i (fun x1265 H1264 => Q (some (.int x1265)) H1264))) ∧ (¬ a2 = (1 : Int32) → (a2 = (2 : Int32) → pm_R (d + 2) M_Ha_firstSlip [.ref 8] H1261 (pm_i (fun x1263 H1262 => Q (some (.int x1263)) H1262))) ∧ (¬ a2 = (2 : Int32) → (a2 = (3 : Int32) → Q (some (.int (H1261.1 21 1))) H1261) ∧ (¬ a2 = (3 : Int32) → Q (some (.int (H1261.1 21 0))) H1261)))))))) ∧ ((H.1 (43 + 2 * a1.toNatClampNeg) 1) = (-1 : Int32) → Q (some (.int (-11 : Int32))) H)))) ∧ (¬ a2 ≤ (4 : Int32) → Q (some (.int (-1 : Int32))) H))) ∧ (¬ a1 ≤ (5 : Int32) → Q (some (.int (-1 : Int32))) H))) : pm_R (d + 3) M_PW_lesson [.ref 0, .int a1, .int a2] H Q :=
  pm_walk (n := 31) ok_PW_lesson tk_PW_lesson rfl (Nat.le_of_ble_eq_true rfl) (show pm_R (d + 2) M_PW_noShelf [.int a1] H (pm_i (fun x2 H1 => (¬ x2 = 0 → Q (some (.int (-1 : Int32))) H1) ∧ (x2 = 0 → pm_R (d + 2) M_PW_outside [.int a2, .int (0 : Int32), .int (4 : Int32)] H1 (pm_i (fun x4 H3 => (x4 = 0 → pm_R (d + 2) M_PW_refusalOfBytes [.ref 0, .int a1] H3 (pm_i (fun x6 H5 => (x6 = 0 → vp_in a1 6 ∧ (pm_R (d + 2) M_Pl_walk [.ref 21, .ref 1, .ref (43 + 2 * a1.toNatClampNeg), .int (60 : Int32)] H5 (pm_v (fun H7 => (a2 = (0 : Int32) → pm_R (d + 2) M_Ha_lessonCount [.ref 8] H7 (pm_i (fun x13 H12 => Q (some (.int x13)) H12))) ∧ (¬ a2 = (0 : Int32) → (a2 = (1 : Int32) → pm_R (d + 2) M_Ha_lessonBits [.ref 8] H7 (pm_i (fun x11 H10 => Q (some (.int x11)) H10))) ∧ (¬ a2 = (1 : Int32) → (a2 = (2 : Int32) → pm_R (d + 2) M_Ha_firstSlip [.ref 8] H7 (pm_i (fun x9 H8 => Q (some (.int x9)) H8))) ∧ (¬ a2 = (2 : Int32) → (a2 = (3 : Int32) → Q (some (.int (H7.1 21 1))) H7) ∧ (¬ a2 = (3 : Int32) → Q (some (.int (H7.1 21 0))) H7)))))))) ∧ (¬ x6 = 0 → Q (some (.int x6)) H5)))) ∧ (¬ x4 = 0 → Q (some (.int (-1 : Int32))) H3)))))) from u_PW_noShelf a1 (u_PW_outside a1 (0 : Int32) (5 : Int32) (⟨fun q1 => ⟨Or.inr rfl, ⟨Or.inr rfl, ⟨fun _ => (h.1 q1), fun z => absurd z (by decide)⟩⟩⟩, fun q1 => ⟨fun q2 => ⟨Or.inl rfl, ⟨Or.inl rfl, ⟨fun z => absurd (by decide) z, fun _ => u_PW_outside a2 (0 : Int32) (4 : Int32) (⟨fun q3 => ⟨Or.inr rfl, ⟨fun z => absurd z (by decide), fun _ => (((h.2 q1).1 q2).1 q3)⟩⟩, fun q3 => ⟨fun q4 => ⟨Or.inl rfl, ⟨fun _ => u_PW_refusalOfBytes a1 (⟨((((h.2 q1).1 q2).2 q3).1 q4).1, pm_mkO (pm_shO ((((h.2 q1).1 q2).2 q3).1 q4).1) (u_Sh_isEmpty (43 + 2 * a1.toNatClampNeg) (pm_mkO (pm_shO ((((h.2 q1).1 q2).2 q3).1 q4).1) (⟨fun q5 => ⟨Or.inl rfl, ⟨fun _ => pm_mkO (pm_shO ((((h.2 q1).1 q2).2 q3).1 q4).1) (u_Sh_isRowOf (43 + 2 * a1.toNatClampNeg) (0 : Int32) (pm_mkO (pm_shO ((((h.2 q1).1 q2).2 q3).1 q4).1) (u_Sh_isRow (43 + 2 * a1.toNatClampNeg) (pm_mkO (pm_shO ((((h.2 q1).1 q2).2 q3).1 q4).1) (⟨fun q6 => ⟨Or.inl rfl, ⟨fun _ => ⟨Or.inl rfl, ⟨fun _ => ⟨fun z => absurd z (by decide), fun _ => ((((((h.2 q1).1 q2).2 q3).1 q4).2.1 q5).1 q6)⟩, fun z => absurd (by decide) z⟩⟩, fun z => absurd (by decide) z⟩⟩, fun q6 => ⟨Or.inr rfl, ⟨fun z => absurd z (by decide), fun _ => pm_mkO (pm_shO ((((h.2 q1).1 q2).2 q3).1 q4).1) (⟨fun q7 => ⟨Or.inl rfl, ⟨fun _ => ⟨fun z => absurd z (by decide), fun _ => (((((((h.2 q1).1 q2).2 q3).1 q4).2.1 q5).2 q6).1 q7)⟩, fun z => absurd (by decide) z⟩⟩, fun q7 => ⟨Or.inr rfl, ⟨fun z => absurd z (by decide), fun _ => ⟨fun _ => ⟨((((h.2 q1).1 q2).2 q3).1 q4).1, pm_mv' (((((((h.2 q1).1 q2).2 q3).1 q4).2.1 q5).2 q6).2 q7) (fun H1170 z8 => ⟨fun q9 => (z8.1 q9), fun q9 => ⟨fun q11 => ((z8.2 q9).1 q11), fun q11 => ⟨fun q13 => (((z8.2 q9).2 q11).1 q13), fun q13 => ⟨fun q15 => ((((z8.2 q9).2 q11).2 q13).1 q15), fun q15 => ((((z8.2 q9).2 q11).2 q13).2 q15)⟩⟩⟩⟩)⟩, fun z => absurd (by decide) z⟩⟩⟩⟩)⟩⟩⟩))))), fun z => absurd (by decide) z⟩⟩, fun q5 => pm_mkO (pm_shO ((((h.2 q1).1 q2).2 q3).1 q4).1) (⟨fun q16 => ⟨Or.inl rfl, ⟨fun _ => pm_mkO (pm_shO ((((h.2 q1).1 q2).2 q3).1 q4).1) (u_Sh_isRowOf (43 + 2 * a1.toNatClampNeg) (0 : Int32) (pm_mkO (pm_shO ((((h.2 q1).1 q2).2 q3).1 q4).1) (u_Sh_isRow (43 + 2 * a1.toNatClampNeg) (pm_mkO (pm_shO ((((h.2 q1).1 q2).2 q3).1 q4).1) (⟨fun z => absurd z q16, fun _ => ⟨Or.inr rfl, ⟨fun z => absurd z (by decide), fun _ => pm_mkO (pm_shO ((((h.2 q1).1 q2).2 q3).1 q4).1) (⟨fun q17 => ⟨Or.inl rfl, ⟨fun _ => ⟨fun z => absurd z (by decide), fun _ => (((((((h.2 q1).1 q2).2 q3).1 q4).2.2 q5).1 q16).1 q17)⟩, fun z => absurd (by decide) z⟩⟩, fun q17 => ⟨Or.inr rfl, ⟨fun z => absurd z (by decide), fun _ => ⟨fun _ => ⟨((((h.2 q1).1 q2).2 q3).1 q4).1, pm_mv' (((((((h.2 q1).1 q2).2 q3).1 q4).2.2 q5).1 q16).2 q17) (fun H1261 z18 => ⟨fun q19 => (z18.1 q19), fun q19 => ⟨fun q21 => ((z18.2 q19).1 q21), fun q21 => ⟨fun q23 => (((z18.2 q19).2 q21).1 q23), fun q23 => ⟨fun q25 => ((((z18.2 q19).2 q21).2 q23).1 q25), fun q25 => ((((z18.2 q19).2 q21).2 q23).2 q25)⟩⟩⟩⟩)⟩, fun z => absurd (by decide) z⟩⟩⟩⟩)⟩⟩⟩))))), fun z => absurd (by decide) z⟩⟩, fun q16 => ⟨Or.inr rfl, ⟨fun z => absurd z (by decide), fun _ => ⟨fun z => absurd z (by decide), fun _ => ((((((h.2 q1).1 q2).2 q3).1 q4).2.2 q5).2 q16)⟩⟩⟩⟩)⟩)))⟩), fun z => absurd (by decide) z⟩⟩, fun q4 => ⟨Or.inr rfl, ⟨fun z => absurd z (by decide), fun _ => ((((h.2 q1).1 q2).2 q3).2 q4)⟩⟩⟩⟩)⟩⟩⟩, fun q2 => ⟨Or.inr rfl, ⟨Or.inr rfl, ⟨fun _ => ((h.2 q1).2 q2), fun z => absurd z (by decide)⟩⟩⟩⟩⟩)))
def T_PW_times : List pmE := [
  (0, [], .aload 0, 0, 0, 0),
  (1, [], .iload 1, 0, 0, 0),
  (2, [], .invokeinterface 136 585, 0, 120, 427),
  (5, [], .ifCond .ne 17, 0, 0, 0),
  (8, [], .iload 2, 0, 0, 0),
  (9, [], .iconst 0, 0, 0, 0),
  (10, [], .iconst 1, 0, 0, 0),
  (11, [], .invokeinterface 135 13, 1, 73, 385),
  (14, [], .ifCond .eq 19, 0, 0, 0),
  (17, [], .iconst (-1), 0, 0, 0),
  (18, [], .ireturn, 0, 0, 0),
  (19, [], .aload 0, 0, 0, 0),
  (20, [], .getfield 514, 0, 24, 349),
  (23, [], .aload 0, 0, 0, 0),
  (24, [], .getfield 512, 0, 10, 347),
  (27, [], .iload 1, 0, 0, 0),
  (28, [], .iload 2, 0, 0, 0),
  (29, [], .invokeinterface 56 401, 0, 184, 640),
  (32, [], .ireturn, 0, 0, 0)]
theorem tk_PW_times : pm_okT M_PW_times T_PW_times = true := by decide +kernel
theorem ok_PW_times : pm_okm M_PW_times := pm_okm_of _ 639 76 637 638 (by decide +kernel)
set_option maxRecDepth 100000 in
set_option maxHeartbeats 4000000 in
theorem m_PW_times {d : Nat} {H : pmT} {Q : pmQ} (a1 : Int32) (a2 : Int32)
    (h : (a1 < (0 : Int32) → Q (some (.int (-1 : Int32))) H) ∧ (¬ a1 < (0 : Int32) → (a1 ≤ ((H.1 2 0) - (1 : Int32)) → (a2 < (0 : Int32) → Q (some (.int (-1 : Int32))) H) ∧ (¬ a2 < (0 : Int32) → (a2 ≤ (1 : Int32) → pm_R (d + 1) M_Pl_playingsTillRight [.ref 21, .ref 1, .int a1, .int a2] H (pm_i (fun x10 H9 => Q (some (.int x10)) H9))) ∧ (¬ a2 ≤ (1 : Int32) → Q (some (.int (-1 : Int32))) H))) ∧ (¬ a1 ≤ ((H.1 2 0) - (1 : Int32)) → Q (some (.int (-1 : Int32))) H))) : pm_R (d + 2) M_PW_times [.ref 0, .int a1, .int a2] H Q :=
  pm_walk (n := 17) ok_PW_times tk_PW_times rfl (Nat.le_of_ble_eq_true rfl) (show pm_R (d + 1) M_PW_noBar [.ref 0, .int a1] H (pm_i (fun x2 H1 => (¬ x2 = 0 → Q (some (.int (-1 : Int32))) H1) ∧ (x2 = 0 → pm_R (d + 1) M_PW_outside [.int a2, .int (0 : Int32), .int (1 : Int32)] H1 (pm_i (fun x4 H3 => (x4 = 0 → pm_R (d + 1) M_Pl_playingsTillRight [.ref 21, .ref 1, .int a1, .int a2] H3 (pm_i (fun x6 H5 => Q (some (.int x6)) H5))) ∧ (¬ x4 = 0 → Q (some (.int (-1 : Int32))) H3)))))) from u_PW_noBar a1 (u_PW_outside a1 (0 : Int32) ((H.1 2 0) - (1 : Int32)) (⟨fun q1 => ⟨Or.inr rfl, ⟨Or.inr rfl, ⟨fun _ => (h.1 q1), fun z => absurd z (by decide)⟩⟩⟩, fun q1 => ⟨fun q2 => ⟨Or.inl rfl, ⟨Or.inl rfl, ⟨fun z => absurd (by decide) z, fun _ => u_PW_outside a2 (0 : Int32) (1 : Int32) (⟨fun q3 => ⟨Or.inr rfl, ⟨fun z => absurd z (by decide), fun _ => (((h.2 q1).1 q2).1 q3)⟩⟩, fun q3 => ⟨fun q4 => ⟨Or.inl rfl, ⟨fun _ => ((((h.2 q1).1 q2).2 q3).1 q4), fun z => absurd (by decide) z⟩⟩, fun q4 => ⟨Or.inr rfl, ⟨fun z => absurd z (by decide), fun _ => ((((h.2 q1).1 q2).2 q3).2 q4)⟩⟩⟩⟩)⟩⟩⟩, fun q2 => ⟨Or.inr rfl, ⟨Or.inr rfl, ⟨fun _ => ((h.2 q1).2 q2), fun z => absurd z (by decide)⟩⟩⟩⟩⟩)))
def T_PW_stays : List pmE := [
  (0, [], .aload 0, 0, 0, 0),
  (1, [], .iload 1, 0, 0, 0),
  (2, [], .invokeinterface 136 585, 0, 120, 427),
  (5, [], .ifCond .eq 12, 0, 0, 0),
  (8, [], .iconst (-1), 0, 0, 0),
  (9, [], .goto 24, 0, 0, 0),
  (12, [], .aload 0, 0, 0, 0),
  (13, [], .getfield 514, 0, 24, 349),
  (16, [], .aload 0, 0, 0, 0),
  (17, [], .getfield 512, 0, 10, 347),
  (20, [], .iload 1, 0, 0, 0),
  (21, [], .invokeinterface 58 397, 0, 188, 655),
  (24, [], .ireturn, 0, 0, 0)]
theorem tk_PW_stays : pm_okT M_PW_stays T_PW_stays = true := by decide +kernel
theorem ok_PW_stays : pm_okm M_PW_stays := pm_okm_of _ 654 76 652 653 (by decide +kernel)
set_option maxRecDepth 100000 in
set_option maxHeartbeats 4000000 in
theorem m_PW_stays {d : Nat} {H : pmT} {Q : pmQ} (a1 : Int32)
    (h : (a1 < (0 : Int32) → Q (some (.int (-1 : Int32))) H) ∧ (¬ a1 < (0 : Int32) → (a1 ≤ ((H.1 2 0) - (1 : Int32)) → pm_R (d + 1) M_Pl_nightsRight [.ref 21, .ref 1, .int a1] H (pm_i (fun x4 H3 => Q (some (.int x4)) H3))) ∧ (¬ a1 ≤ ((H.1 2 0) - (1 : Int32)) → Q (some (.int (-1 : Int32))) H))) : pm_R (d + 2) M_PW_stays [.ref 0, .int a1] H Q :=
  pm_walk (n := 11) ok_PW_stays tk_PW_stays rfl (Nat.le_of_ble_eq_true rfl) (show pm_R (d + 1) M_PW_noBar [.ref 0, .int a1] H (pm_i (fun x2 H1 => (x2 = 0 → pm_R (d + 1) M_Pl_nightsRight [.ref 21, .ref 1, .int a1] H1 (pm_i (fun x4 H3 => Q (some (.int x4)) H3))) ∧ (¬ x2 = 0 → Q (some (.int (-1 : Int32))) H1))) from u_PW_noBar a1 (u_PW_outside a1 (0 : Int32) ((H.1 2 0) - (1 : Int32)) (⟨fun q1 => ⟨Or.inr rfl, ⟨Or.inr rfl, ⟨fun z => absurd z (by decide), fun _ => (h.1 q1)⟩⟩⟩, fun q1 => ⟨fun q2 => ⟨Or.inl rfl, ⟨Or.inl rfl, ⟨fun _ => ((h.2 q1).1 q2), fun z => absurd (by decide) z⟩⟩⟩, fun q2 => ⟨Or.inr rfl, ⟨Or.inr rfl, ⟨fun z => absurd z (by decide), fun _ => ((h.2 q1).2 q2)⟩⟩⟩⟩⟩)))
def T_PW_with : List pmE := [
  (0, [], .iload 1, 0, 0, 0),
  (1, [], .iconst 0, 0, 0, 0),
  (2, [], .iconst 60, 1, 0, 0),
  (4, [], .invokeinterface 135 13, 1, 73, 385),
  (7, [], .ifCond .ne 19, 0, 0, 0),
  (10, [], .iload 2, 0, 0, 0),
  (11, [], .iconst 0, 0, 0, 0),
  (12, [], .iconst 2, 0, 0, 0),
  (13, [], .invokeinterface 135 13, 1, 73, 385),
  (16, [], .ifCond .eq 21, 0, 0, 0),
  (19, [], .iconst (-1), 0, 0, 0),
  (20, [], .ireturn, 0, 0, 0),
  (21, [], .aload 0, 0, 0, 0),
  (22, [], .getfield 514, 0, 24, 349),
  (25, [], .aload 0, 0, 0, 0),
  (26, [], .getfield 512, 0, 10, 347),
  (29, [], .iload 1, 0, 0, 0),
  (30, [], .invokeinterface 59 396, 0, 192, 664),
  (33, [], .iload 2, 0, 0, 0),
  (34, [], .lookupswitch 79 #[(0, 60), (1, 71)], 0, 26, 0),
  (60, [], .aload 0, 0, 0, 0),
  (61, [], .getfield 514, 0, 24, 349),
  (64, [], .getfield 324, 0, 196, 222),
  (67, [], .invokeinterface 245 5, 1, 199, 678),
  (70, [], .ireturn, 0, 0, 0),
  (71, [], .aload 0, 0, 0, 0),
  (72, [], .getfield 514, 0, 24, 349),
  (75, [], .getfield 324, 0, 196, 222),
  (78, [], .ireturn, 0, 0, 0),
  (79, [], .aload 0, 0, 0, 0),
  (80, [], .getfield 514, 0, 24, 349),
  (83, [], .getfield 325, 0, 204, 224),
  (86, [], .ireturn, 0, 0, 0)]
theorem tk_PW_with : pm_okT M_PW_with T_PW_with = true := by decide +kernel
theorem ok_PW_with : pm_okm M_PW_with := pm_okm_of _ 663 76 661 662 (by decide +kernel)
set_option maxRecDepth 100000 in
set_option maxHeartbeats 4000000 in
theorem m_PW_with {d : Nat} {H : pmT} {Q : pmQ} (a1 : Int32) (a2 : Int32)
    (h : (a1 < (0 : Int32) → Q (some (.int (-1 : Int32))) H) ∧ (¬ a1 < (0 : Int32) → (a1 ≤ (60 : Int32) → (a2 < (0 : Int32) → Q (some (.int (-1 : Int32))) H) ∧ (¬ a2 < (0 : Int32) → (a2 ≤ (2 : Int32) → pm_R d M_Pl_choose [.ref 21, .ref 1, .int a1] H (pm_v (fun H13 => (a2 = (0 : Int32) → pm_R d M_Jn_bitCount [.int (H13.1 21 4)] H13 (pm_i (fun x15 H14 => Q (some (.int x15)) H14))) ∧ (¬ a2 = (0 : Int32) → (a2 = (1 : Int32) → Q (some (.int (H13.1 21 4))) H13) ∧ (¬ a2 = (1 : Int32) → Q (some (.int (H13.1 21 5))) H13))))) ∧ (¬ a2 ≤ (2 : Int32) → Q (some (.int (-1 : Int32))) H))) ∧ (¬ a1 ≤ (60 : Int32) → Q (some (.int (-1 : Int32))) H))) : pm_R (d + 1) M_PW_with [.ref 0, .int a1, .int a2] H Q :=
  pm_walk (n := 23) ok_PW_with tk_PW_with rfl (Nat.le_of_ble_eq_true rfl) (show pm_R d M_PW_outside [.int a1, .int (0 : Int32), .int (60 : Int32)] H (pm_i (fun x2 H1 => (¬ x2 = 0 → Q (some (.int (-1 : Int32))) H1) ∧ (x2 = 0 → pm_R d M_PW_outside [.int a2, .int (0 : Int32), .int (2 : Int32)] H1 (pm_i (fun x4 H3 => (x4 = 0 → pm_R d M_Pl_choose [.ref 21, .ref 1, .int a1] H3 (pm_v (fun H5 => (a2 = (0 : Int32) → pm_R d M_Jn_bitCount [.int (H5.1 21 4)] H5 (pm_i (fun x7 H6 => Q (some (.int x7)) H6))) ∧ (¬ a2 = (0 : Int32) → (a2 = (1 : Int32) → Q (some (.int (H5.1 21 4))) H5) ∧ (¬ a2 = (1 : Int32) → Q (some (.int (H5.1 21 5))) H5))))) ∧ (¬ x4 = 0 → Q (some (.int (-1 : Int32))) H3)))))) from u_PW_outside a1 (0 : Int32) (60 : Int32) (⟨fun q1 => ⟨Or.inr rfl, ⟨fun _ => (h.1 q1), fun z => absurd z (by decide)⟩⟩, fun q1 => ⟨fun q2 => ⟨Or.inl rfl, ⟨fun z => absurd (by decide) z, fun _ => u_PW_outside a2 (0 : Int32) (2 : Int32) (⟨fun q3 => ⟨Or.inr rfl, ⟨fun z => absurd z (by decide), fun _ => (((h.2 q1).1 q2).1 q3)⟩⟩, fun q3 => ⟨fun q4 => ⟨Or.inl rfl, ⟨fun _ => pm_mv' ((((h.2 q1).1 q2).2 q3).1 q4) (fun H13 z5 => ⟨fun q6 => (z5.1 q6), fun q6 => ⟨fun q8 => ((z5.2 q6).1 q8), fun q8 => ((z5.2 q6).2 q8)⟩⟩), fun z => absurd (by decide) z⟩⟩, fun q4 => ⟨Or.inr rfl, ⟨fun z => absurd z (by decide), fun _ => ((((h.2 q1).1 q2).2 q3).2 q4)⟩⟩⟩⟩)⟩⟩, fun q2 => ⟨Or.inr rfl, ⟨fun _ => ((h.2 q1).2 q2), fun z => absurd z (by decide)⟩⟩⟩⟩))
def T_PW_spread : List pmE := [
  (0, [], .aload 0, 0, 0, 0),
  (1, [], .iload 1, 0, 0, 0),
  (2, [], .invokeinterface 136 585, 0, 120, 427),
  (5, [], .ifCond .ne 12, 0, 0, 0),
  (8, [], .iload 2, 0, 0, 0),
  (9, [], .ifCond .ge 15, 0, 0, 0),
  (12, [], .iconst (-2000000000), 3, 207, 683),
  (14, [], .ireturn, 0, 0, 0),
  (15, [], .iload 2, 0, 0, 0),
  (16, [], .iconst 10, 1, 0, 0),
  (18, [], .idiv, 0, 0, 0),
  (19, [], .istore 4, 1, 0, 0),
  (21, [], .iload 2, 0, 0, 0),
  (22, [], .iconst 10, 1, 0, 0),
  (24, [], .irem, 0, 0, 0),
  (25, [], .istore 5, 1, 0, 0),
  (27, [], .iload 4, 1, 0, 0),
  (29, [], .iconst 12, 1, 0, 0),
  (31, [], .if_icmp .gt 56, 0, 0, 0),
  (34, [], .iload 5, 1, 0, 0),
  (36, [], .iconst 1, 0, 0, 0),
  (37, [], .iconst 5, 0, 0, 0),
  (38, [], .invokeinterface 135 13, 1, 73, 385),
  (41, [], .ifCond .ne 56, 0, 0, 0),
  (44, [], .iload 3, 0, 0, 0),
  (45, [], .iconst (-1), 0, 0, 0),
  (46, [], .iload 5, 1, 0, 0),
  (48, [], .iconst 1, 0, 0, 0),
  (49, [], .isub, 0, 0, 0),
  (50, [], .invokeinterface 135 13, 1, 73, 385),
  (53, [], .ifCond .eq 59, 0, 0, 0),
  (56, [], .iconst (-2000000000), 3, 207, 683),
  (58, [], .ireturn, 0, 0, 0),
  (59, [], .aload 0, 0, 0, 0),
  (60, [], .getfield 514, 0, 24, 349),
  (63, [], .aload 0, 0, 0, 0),
  (64, [], .getfield 512, 0, 10, 347),
  (67, [], .iload 1, 0, 0, 0),
  (68, [], .iload 4, 1, 0, 0),
  (70, [], .iload 5, 1, 0, 0),
  (72, [], .invokeinterface 62 404, 0, 208, 684),
  (75, [], .iload 3, 0, 0, 0),
  (76, [], .ifCond .ge 89, 0, 0, 0),
  (79, [], .aload 0, 0, 0, 0),
  (80, [], .getfield 514, 0, 24, 349),
  (83, [], .getfield 329, 0, 212, 230),
  (86, [], .goto 98, 0, 0, 0),
  (89, [], .aload 0, 0, 0, 0),
  (90, [], .getfield 514, 0, 24, 349),
  (93, [], .getfield 328, 0, 215, 228),
  (96, [], .iload 3, 0, 0, 0),
  (97, [], .iaload, 0, 0, 0),
  (98, [], .ireturn, 0, 0, 0)]
theorem tk_PW_spread : pm_okT M_PW_spread T_PW_spread = true := by decide +kernel
theorem ok_PW_spread : pm_okm M_PW_spread := pm_okm_of _ 682 76 680 681 (by decide +kernel)
set_option maxRecDepth 100000 in
set_option maxHeartbeats 4000000 in
theorem m_PW_spread {d : Nat} {H : pmT} {Q : pmQ} (a1 : Int32) (a2 : Int32) (a3 : Int32)
    (h : (a1 < (0 : Int32) → Q (some (.int (-2000000000 : Int32))) H) ∧ (¬ a1 < (0 : Int32) → (a1 ≤ ((H.1 2 0) - (1 : Int32)) → (0 ≤ a2 → ((12 : Int32) < (a2 / (10 : Int32)) → Q (some (.int (-2000000000 : Int32))) H) ∧ (¬ (12 : Int32) < (a2 / (10 : Int32)) → ((a2 - a2 / (10 : Int32) * (10 : Int32)) < (1 : Int32) → Q (some (.int (-2000000000 : Int32))) H) ∧ (¬ (a2 - a2 / (10 : Int32) * (10 : Int32)) < (1 : Int32) → ((a2 - a2 / (10 : Int32) * (10 : Int32)) ≤ (5 : Int32) → (a3 < (-1 : Int32) → Q (some (.int (-2000000000 : Int32))) H) ∧ (¬ a3 < (-1 : Int32) → (a3 ≤ ((a2 - a2 / (10 : Int32) * (10 : Int32)) - (1 : Int32)) → pm_R (d + 1) M_Pl_spreadOver [.ref 21, .ref 1, .int a1, .int (a2 / (10 : Int32)), .int (a2 - a2 / (10 : Int32) * (10 : Int32))] H (pm_v (fun H14 => (0 ≤ a3 → vp_in a3 5 ∧ (Q (some (.int (H14.1 24 a3.toNatClampNeg))) H14)) ∧ (¬ 0 ≤ a3 → Q (some (.int (H14.1 21 9))) H14)))) ∧ (¬ a3 ≤ ((a2 - a2 / (10 : Int32) * (10 : Int32)) - (1 : Int32)) → Q (some (.int (-2000000000 : Int32))) H))) ∧ (¬ (a2 - a2 / (10 : Int32) * (10 : Int32)) ≤ (5 : Int32) → Q (some (.int (-2000000000 : Int32))) H)))) ∧ (¬ 0 ≤ a2 → Q (some (.int (-2000000000 : Int32))) H)) ∧ (¬ a1 ≤ ((H.1 2 0) - (1 : Int32)) → Q (some (.int (-2000000000 : Int32))) H))) : pm_R (d + 2) M_PW_spread [.ref 0, .int a1, .int a2, .int a3] H Q :=
  pm_walk (n := 45) ok_PW_spread tk_PW_spread rfl (Nat.le_of_ble_eq_true rfl) (show pm_R (d + 1) M_PW_noBar [.ref 0, .int a1] H (pm_i (fun x2 H1 => (¬ x2 = 0 → Q (some (.int (-2000000000 : Int32))) H1) ∧ (x2 = 0 → (0 ≤ a2 → ¬ (10 : Int32) = 0 ∧ (¬ (10 : Int32) = 0 ∧ (((12 : Int32) < (a2 / (10 : Int32)) → Q (some (.int (-2000000000 : Int32))) H1) ∧ (¬ (12 : Int32) < (a2 / (10 : Int32)) → pm_R (d + 1) M_PW_outside [.int (a2 - a2 / (10 : Int32) * (10 : Int32)), .int (1 : Int32), .int (5 : Int32)] H1 (pm_i (fun x4 H3 => (¬ x4 = 0 → Q (some (.int (-2000000000 : Int32))) H3) ∧ (x4 = 0 → pm_R (d + 1) M_PW_outside [.int a3, .int (-1 : Int32), .int ((a2 - a2 / (10 : Int32) * (10 : Int32)) - (1 : Int32))] H3 (pm_i (fun x6 H5 => (x6 = 0 → pm_R (d + 1) M_Pl_spreadOver [.ref 21, .ref 1, .int a1, .int (a2 / (10 : Int32)), .int (a2 - a2 / (10 : Int32) * (10 : Int32))] H5 (pm_v (fun H7 => (0 ≤ a3 → vp_in a3 5 ∧ (Q (some (.int (H7.1 24 a3.toNatClampNeg))) H7)) ∧ (¬ 0 ≤ a3 → Q (some (.int (H7.1 21 9))) H7)))) ∧ (¬ x6 = 0 → Q (some (.int (-2000000000 : Int32))) H5)))))))))) ∧ (¬ 0 ≤ a2 → Q (some (.int (-2000000000 : Int32))) H1)))) from u_PW_noBar a1 (u_PW_outside a1 (0 : Int32) ((H.1 2 0) - (1 : Int32)) (⟨fun q1 => ⟨Or.inr rfl, ⟨Or.inr rfl, ⟨fun _ => (h.1 q1), fun z => absurd z (by decide)⟩⟩⟩, fun q1 => ⟨fun q2 => ⟨Or.inl rfl, ⟨Or.inl rfl, ⟨fun z => absurd (by decide) z, fun _ => ⟨fun q3 => ⟨(by decide), ⟨(by decide), ⟨fun q4 => ((((h.2 q1).1 q2).1 q3).1 q4), fun q4 => u_PW_outside (a2 - a2 / (10 : Int32) * (10 : Int32)) (1 : Int32) (5 : Int32) (⟨fun q5 => ⟨Or.inr rfl, ⟨fun _ => (((((h.2 q1).1 q2).1 q3).2 q4).1 q5), fun z => absurd z (by decide)⟩⟩, fun q5 => ⟨fun q6 => ⟨Or.inl rfl, ⟨fun z => absurd (by decide) z, fun _ => u_PW_outside a3 (-1 : Int32) ((a2 - a2 / (10 : Int32) * (10 : Int32)) - (1 : Int32)) (⟨fun q7 => ⟨Or.inr rfl, ⟨fun z => absurd z (by decide), fun _ => (((((((h.2 q1).1 q2).1 q3).2 q4).2 q5).1 q6).1 q7)⟩⟩, fun q7 => ⟨fun q8 => ⟨Or.inl rfl, ⟨fun _ => pm_mv' ((((((((h.2 q1).1 q2).1 q3).2 q4).2 q5).1 q6).2 q7).1 q8) (fun H14 z9 => ⟨fun q10 => ⟨(z9.1 q10).1, (z9.1 q10).2⟩, fun q10 => (z9.2 q10)⟩), fun z => absurd (by decide) z⟩⟩, fun q8 => ⟨Or.inr rfl, ⟨fun z => absurd z (by decide), fun _ => ((((((((h.2 q1).1 q2).1 q3).2 q4).2 q5).1 q6).2 q7).2 q8)⟩⟩⟩⟩)⟩⟩, fun q6 => ⟨Or.inr rfl, ⟨fun _ => ((((((h.2 q1).1 q2).1 q3).2 q4).2 q5).2 q6), fun z => absurd z (by decide)⟩⟩⟩⟩)⟩⟩⟩, fun q3 => (((h.2 q1).1 q2).2 q3)⟩⟩⟩⟩, fun q2 => ⟨Or.inr rfl, ⟨Or.inr rfl, ⟨fun _ => ((h.2 q1).2 q2), fun z => absurd z (by decide)⟩⟩⟩⟩⟩)))
def T_PW_stop : List pmE := [
  (0, [], .iload 1, 0, 0, 0),
  (1, [], .invokeinterface 137 5, 1, 81, 396),
  (4, [], .ifCond .eq 9, 0, 0, 0),
  (7, [], .iconst (-1), 0, 0, 0),
  (8, [], .ireturn, 0, 0, 0),
  (9, [], .aload 0, 0, 0, 0),
  (10, [], .iload 1, 0, 0, 0),
  (11, [], .invokeinterface 141 585, 0, 150, 548),
  (14, [], .istore 2, 0, 0, 0),
  (15, [], .iload 2, 0, 0, 0),
  (16, [], .ifCond .eq 23, 0, 0, 0),
  (19, [], .iload 2, 0, 0, 0),
  (20, [], .goto 40, 0, 0, 0),
  (23, [], .aload 0, 0, 0, 0),
  (24, [], .getfield 514, 0, 24, 349),
  (27, [], .aload 0, 0, 0, 0),
  (28, [], .getfield 512, 0, 10, 347),
  (31, [], .aload 0, 0, 0, 0),
  (32, [], .getfield 518, 0, 51, 353),
  (35, [], .iload 1, 0, 0, 0),
  (36, [], .aaload, 0, 0, 0),
  (37, [], .invokeinterface 55 397, 0, 218, 705),
  (40, [], .ireturn, 0, 0, 0)]
theorem tk_PW_stop : pm_okT M_PW_stop T_PW_stop = true := by decide +kernel
theorem ok_PW_stop : pm_okm M_PW_stop := pm_okm_of _ 704 76 702 703 (by decide +kernel)
set_option maxRecDepth 100000 in
set_option maxHeartbeats 4000000 in
theorem m_PW_stop {d : Nat} {H : pmT} {Q : pmQ} (a1 : Int32)
    (h : (a1 < (0 : Int32) → Q (some (.int (-1 : Int32))) H) ∧ (¬ a1 < (0 : Int32) → (a1 ≤ (5 : Int32) → vp_in a1 6 ∧ ((0 ≤ (H.1 (43 + 2 * a1.toNatClampNeg) 0) → ((H.1 (43 + 2 * a1.toNatClampNeg) 1) = (-1 : Int32) → Q (some (.int (-12 : Int32))) H) ∧ (¬ (H.1 (43 + 2 * a1.toNatClampNeg) 1) = (-1 : Int32) → (¬ (H.1 (43 + 2 * a1.toNatClampNeg) 1) = (0 : Int32) → Q (some (.int (-12 : Int32))) H) ∧ ((H.1 (43 + 2 * a1.toNatClampNeg) 1) = (0 : Int32) → pm_R (d + 2) M_Pl_earliestStop [.ref 21, .ref 1, .ref (43 + 2 * a1.toNatClampNeg)] H (pm_i (fun x102 H101 => Q (some (.int x102)) H101))))) ∧ (¬ 0 ≤ (H.1 (43 + 2 * a1.toNatClampNeg) 0) → (¬ (H.1 (43 + 2 * a1.toNatClampNeg) 1) = (-1 : Int32) → (¬ (H.1 (43 + 2 * a1.toNatClampNeg) 1) = (0 : Int32) → Q (some (.int (-12 : Int32))) H) ∧ ((H.1 (43 + 2 * a1.toNatClampNeg) 1) = (0 : Int32) → pm_R (d + 2) M_Pl_earliestStop [.ref 21, .ref 1, .ref (43 + 2 * a1.toNatClampNeg)] H (pm_i (fun x128 H127 => Q (some (.int x128)) H127)))) ∧ ((H.1 (43 + 2 * a1.toNatClampNeg) 1) = (-1 : Int32) → Q (some (.int (-11 : Int32))) H)))) ∧ (¬ a1 ≤ (5 : Int32) → Q (some (.int (-1 : Int32))) H))) : pm_R (d + 3) M_PW_stop [.ref 0, .int a1] H Q :=
  pm_walk (n := 19) ok_PW_stop tk_PW_stop rfl (Nat.le_of_ble_eq_true rfl) (show pm_R (d + 2) M_PW_noShelf [.int a1] H (pm_i (fun x2 H1 => (x2 = 0 → pm_R (d + 2) M_PW_refusalOfBytes [.ref 0, .int a1] H1 (pm_i (fun x4 H3 => (x4 = 0 → vp_in a1 6 ∧ (pm_R (d + 2) M_Pl_earliestStop [.ref 21, .ref 1, .ref (43 + 2 * a1.toNatClampNeg)] H3 (pm_i (fun x6 H5 => Q (some (.int x6)) H5)))) ∧ (¬ x4 = 0 → Q (some (.int x4)) H3)))) ∧ (¬ x2 = 0 → Q (some (.int (-1 : Int32))) H1))) from u_PW_noShelf a1 (u_PW_outside a1 (0 : Int32) (5 : Int32) (⟨fun q1 => ⟨Or.inr rfl, ⟨Or.inr rfl, ⟨fun z => absurd z (by decide), fun _ => (h.1 q1)⟩⟩⟩, fun q1 => ⟨fun q2 => ⟨Or.inl rfl, ⟨Or.inl rfl, ⟨fun _ => u_PW_refusalOfBytes a1 (⟨((h.2 q1).1 q2).1, pm_mkO (pm_shO ((h.2 q1).1 q2).1) (u_Sh_isEmpty (43 + 2 * a1.toNatClampNeg) (pm_mkO (pm_shO ((h.2 q1).1 q2).1) (⟨fun q3 => ⟨Or.inl rfl, ⟨fun _ => pm_mkO (pm_shO ((h.2 q1).1 q2).1) (u_Sh_isRowOf (43 + 2 * a1.toNatClampNeg) (0 : Int32) (pm_mkO (pm_shO ((h.2 q1).1 q2).1) (u_Sh_isRow (43 + 2 * a1.toNatClampNeg) (pm_mkO (pm_shO ((h.2 q1).1 q2).1) (⟨fun q4 => ⟨Or.inl rfl, ⟨fun _ => ⟨Or.inl rfl, ⟨fun _ => ⟨fun z => absurd z (by decide), fun _ => ((((h.2 q1).1 q2).2.1 q3).1 q4)⟩, fun z => absurd (by decide) z⟩⟩, fun z => absurd (by decide) z⟩⟩, fun q4 => ⟨Or.inr rfl, ⟨fun z => absurd z (by decide), fun _ => pm_mkO (pm_shO ((h.2 q1).1 q2).1) (⟨fun q5 => ⟨Or.inl rfl, ⟨fun _ => ⟨fun z => absurd z (by decide), fun _ => (((((h.2 q1).1 q2).2.1 q3).2 q4).1 q5)⟩, fun z => absurd (by decide) z⟩⟩, fun q5 => ⟨Or.inr rfl, ⟨fun z => absurd z (by decide), fun _ => ⟨fun _ => ⟨((h.2 q1).1 q2).1, (((((h.2 q1).1 q2).2.1 q3).2 q4).2 q5)⟩, fun z => absurd (by decide) z⟩⟩⟩⟩)⟩⟩⟩))))), fun z => absurd (by decide) z⟩⟩, fun q3 => pm_mkO (pm_shO ((h.2 q1).1 q2).1) (⟨fun q7 => ⟨Or.inl rfl, ⟨fun _ => pm_mkO (pm_shO ((h.2 q1).1 q2).1) (u_Sh_isRowOf (43 + 2 * a1.toNatClampNeg) (0 : Int32) (pm_mkO (pm_shO ((h.2 q1).1 q2).1) (u_Sh_isRow (43 + 2 * a1.toNatClampNeg) (pm_mkO (pm_shO ((h.2 q1).1 q2).1) (⟨fun z => absurd z q7, fun _ => ⟨Or.inr rfl, ⟨fun z => absurd z (by decide), fun _ => pm_mkO (pm_shO ((h.2 q1).1 q2).1) (⟨fun q8 => ⟨Or.inl rfl, ⟨fun _ => ⟨fun z => absurd z (by decide), fun _ => (((((h.2 q1).1 q2).2.2 q3).1 q7).1 q8)⟩, fun z => absurd (by decide) z⟩⟩, fun q8 => ⟨Or.inr rfl, ⟨fun z => absurd z (by decide), fun _ => ⟨fun _ => ⟨((h.2 q1).1 q2).1, (((((h.2 q1).1 q2).2.2 q3).1 q7).2 q8)⟩, fun z => absurd (by decide) z⟩⟩⟩⟩)⟩⟩⟩))))), fun z => absurd (by decide) z⟩⟩, fun q7 => ⟨Or.inr rfl, ⟨fun z => absurd z (by decide), fun _ => ⟨fun z => absurd z (by decide), fun _ => ((((h.2 q1).1 q2).2.2 q3).2 q7)⟩⟩⟩⟩)⟩)))⟩), fun z => absurd (by decide) z⟩⟩⟩, fun q2 => ⟨Or.inr rfl, ⟨Or.inr rfl, ⟨fun z => absurd z (by decide), fun _ => ((h.2 q1).2 q2)⟩⟩⟩⟩⟩)))
def T_PW_finger : List pmE := [
  (0, [], .aload 0, 0, 0, 0),
  (1, [], .iload 1, 0, 0, 0),
  (2, [], .invokeinterface 136 585, 0, 120, 427),
  (5, [], .ifCond .ne 17, 0, 0, 0),
  (8, [], .iload 2, 0, 0, 0),
  (9, [], .iconst 0, 0, 0, 0),
  (10, [], .iconst 1, 0, 0, 0),
  (11, [], .invokeinterface 135 13, 1, 73, 385),
  (14, [], .ifCond .eq 20, 0, 0, 0),
  (17, [], .iconst (-2000000000), 3, 207, 683),
  (19, [], .ireturn, 0, 0, 0),
  (20, [], .aload 0, 0, 0, 0),
  (21, [], .getfield 514, 0, 24, 349),
  (24, [], .aload 0, 0, 0, 0),
  (25, [], .getfield 512, 0, 10, 347),
  (28, [], .iload 1, 0, 0, 0),
  (29, [], .invokeinterface 66 397, 0, 222, 715),
  (32, [], .istore 3, 0, 0, 0),
  (33, [], .iload 2, 0, 0, 0),
  (34, [], .iconst 1, 0, 0, 0),
  (35, [], .if_icmp .ne 40, 0, 0, 0),
  (38, [], .iload 3, 0, 0, 0),
  (39, [], .ireturn, 0, 0, 0),
  (40, [], .iload 3, 0, 0, 0),
  (41, [], .ifCond .le 48, 0, 0, 0),
  (44, [], .iconst 1, 0, 0, 0),
  (45, [], .goto 49, 0, 0, 0),
  (48, [], .iconst 0, 0, 0, 0),
  (49, [], .ireturn, 0, 0, 0)]
theorem tk_PW_finger : pm_okT M_PW_finger T_PW_finger = true := by decide +kernel
theorem ok_PW_finger : pm_okm M_PW_finger := pm_okm_of _ 714 76 712 713 (by decide +kernel)
set_option maxRecDepth 100000 in
set_option maxHeartbeats 4000000 in
theorem m_PW_finger {d : Nat} {H : pmT} {Q : pmQ} (a1 : Int32) (a2 : Int32)
    (h : (a1 < (0 : Int32) → Q (some (.int (-2000000000 : Int32))) H) ∧ (¬ a1 < (0 : Int32) → (a1 ≤ ((H.1 2 0) - (1 : Int32)) → (a2 < (0 : Int32) → Q (some (.int (-2000000000 : Int32))) H) ∧ (¬ a2 < (0 : Int32) → (a2 ≤ (1 : Int32) → pm_R (d + 1) M_Pl_fewerByNewFinger [.ref 21, .ref 1, .int a1] H (pm_i (fun x10 H9 => (¬ a2 = (1 : Int32) → (x10 ≤ 0 → Q (some (.int (0 : Int32))) H9) ∧ (¬ x10 ≤ 0 → Q (some (.int (1 : Int32))) H9)) ∧ (a2 = (1 : Int32) → Q (some (.int x10)) H9)))) ∧ (¬ a2 ≤ (1 : Int32) → Q (some (.int (-2000000000 : Int32))) H))) ∧ (¬ a1 ≤ ((H.1 2 0) - (1 : Int32)) → Q (some (.int (-2000000000 : Int32))) H))) : pm_R (d + 2) M_PW_finger [.ref 0, .int a1, .int a2] H Q :=
  pm_walk (n := 24) ok_PW_finger tk_PW_finger rfl (Nat.le_of_ble_eq_true rfl) (show pm_R (d + 1) M_PW_noBar [.ref 0, .int a1] H (pm_i (fun x2 H1 => (¬ x2 = 0 → Q (some (.int (-2000000000 : Int32))) H1) ∧ (x2 = 0 → pm_R (d + 1) M_PW_outside [.int a2, .int (0 : Int32), .int (1 : Int32)] H1 (pm_i (fun x4 H3 => (x4 = 0 → pm_R (d + 1) M_Pl_fewerByNewFinger [.ref 21, .ref 1, .int a1] H3 (pm_i (fun x6 H5 => (¬ a2 = (1 : Int32) → (x6 ≤ 0 → Q (some (.int (0 : Int32))) H5) ∧ (¬ x6 ≤ 0 → Q (some (.int (1 : Int32))) H5)) ∧ (a2 = (1 : Int32) → Q (some (.int x6)) H5)))) ∧ (¬ x4 = 0 → Q (some (.int (-2000000000 : Int32))) H3)))))) from u_PW_noBar a1 (u_PW_outside a1 (0 : Int32) ((H.1 2 0) - (1 : Int32)) (⟨fun q1 => ⟨Or.inr rfl, ⟨Or.inr rfl, ⟨fun _ => (h.1 q1), fun z => absurd z (by decide)⟩⟩⟩, fun q1 => ⟨fun q2 => ⟨Or.inl rfl, ⟨Or.inl rfl, ⟨fun z => absurd (by decide) z, fun _ => u_PW_outside a2 (0 : Int32) (1 : Int32) (⟨fun q3 => ⟨Or.inr rfl, ⟨fun z => absurd z (by decide), fun _ => (((h.2 q1).1 q2).1 q3)⟩⟩, fun q3 => ⟨fun q4 => ⟨Or.inl rfl, ⟨fun _ => pm_mi ((((h.2 q1).1 q2).2 q3).1 q4) (fun x10 H9 z5 => ⟨fun q6 => ⟨fun q7 => ((z5.1 q6).1 q7), fun q7 => ((z5.1 q6).2 q7)⟩, fun q6 => (z5.2 q6)⟩), fun z => absurd (by decide) z⟩⟩, fun q4 => ⟨Or.inr rfl, ⟨fun z => absurd z (by decide), fun _ => ((((h.2 q1).1 q2).2 q3).2 q4)⟩⟩⟩⟩)⟩⟩⟩, fun q2 => ⟨Or.inr rfl, ⟨Or.inr rfl, ⟨fun _ => ((h.2 q1).2 q2), fun z => absurd z (by decide)⟩⟩⟩⟩⟩)))
def T_PW_whole : List pmE := [
  (0, [], .iload 1, 0, 0, 0),
  (1, [], .iconst 0, 0, 0, 0),
  (2, [], .iconst 1, 0, 0, 0),
  (3, [], .invokeinterface 135 13, 1, 73, 385),
  (6, [], .ifCond .eq 11, 0, 0, 0),
  (9, [], .iconst (-1), 0, 0, 0),
  (10, [], .ireturn, 0, 0, 0),
  (11, [], .iload 1, 0, 0, 0),
  (12, [], .ifCond .ne 29, 0, 0, 0),
  (15, [], .aload 0, 0, 0, 0),
  (16, [], .getfield 514, 0, 24, 349),
  (19, [], .aload 0, 0, 0, 0),
  (20, [], .getfield 512, 0, 10, 347),
  (23, [], .invokeinterface 68 393, 0, 225, 727),
  (26, [], .goto 40, 0, 0, 0),
  (29, [], .aload 0, 0, 0, 0),
  (30, [], .getfield 514, 0, 24, 349),
  (33, [], .aload 0, 0, 0, 0),
  (34, [], .getfield 512, 0, 10, 347),
  (37, [], .invokeinterface 70 393, 0, 229, 736),
  (40, [], .ireturn, 0, 0, 0)]
theorem tk_PW_whole : pm_okT M_PW_whole T_PW_whole = true := by decide +kernel
theorem ok_PW_whole : pm_okm M_PW_whole := pm_okm_of _ 726 76 724 725 (by decide +kernel)
set_option maxRecDepth 100000 in
set_option maxHeartbeats 4000000 in
theorem m_PW_whole {d : Nat} {H : pmT} {Q : pmQ} (a1 : Int32)
    (h : (a1 < (0 : Int32) → Q (some (.int (-1 : Int32))) H) ∧ (¬ a1 < (0 : Int32) → (a1 ≤ (1 : Int32) → (¬ a1 = 0 → pm_R d M_Pl_playingsByBars [.ref 21, .ref 1] H (pm_i (fun x6 H5 => Q (some (.int x6)) H5))) ∧ (a1 = 0 → pm_R d M_Pl_runsTillClean [.ref 21, .ref 1] H (pm_i (fun x8 H7 => Q (some (.int x8)) H7)))) ∧ (¬ a1 ≤ (1 : Int32) → Q (some (.int (-1 : Int32))) H))) : pm_R (d + 1) M_PW_whole [.ref 0, .int a1] H Q :=
  pm_walk (n := 14) ok_PW_whole tk_PW_whole rfl (Nat.le_of_ble_eq_true rfl) (show pm_R d M_PW_outside [.int a1, .int (0 : Int32), .int (1 : Int32)] H (pm_i (fun x2 H1 => (x2 = 0 → (¬ a1 = 0 → pm_R d M_Pl_playingsByBars [.ref 21, .ref 1] H1 (pm_i (fun x4 H3 => Q (some (.int x4)) H3))) ∧ (a1 = 0 → pm_R d M_Pl_runsTillClean [.ref 21, .ref 1] H1 (pm_i (fun x6 H5 => Q (some (.int x6)) H5)))) ∧ (¬ x2 = 0 → Q (some (.int (-1 : Int32))) H1))) from u_PW_outside a1 (0 : Int32) (1 : Int32) (⟨fun q1 => ⟨Or.inr rfl, ⟨fun z => absurd z (by decide), fun _ => (h.1 q1)⟩⟩, fun q1 => ⟨fun q2 => ⟨Or.inl rfl, ⟨fun _ => ⟨fun q3 => (((h.2 q1).1 q2).1 q3), fun q3 => (((h.2 q1).1 q2).2 q3)⟩, fun z => absurd (by decide) z⟩⟩, fun q2 => ⟨Or.inr rfl, ⟨fun z => absurd z (by decide), fun _ => ((h.2 q1).2 q2)⟩⟩⟩⟩))
def T_PW_odds : List pmE := [
  (0, [], .aload 0, 0, 0, 0),
  (1, [], .iload 1, 0, 0, 0),
  (2, [], .invokeinterface 136 585, 0, 120, 427),
  (5, [], .ifCond .ne 17, 0, 0, 0),
  (8, [], .iload 2, 0, 0, 0),
  (9, [], .iconst 0, 0, 0, 0),
  (10, [], .iconst 1, 0, 0, 0),
  (11, [], .invokeinterface 135 13, 1, 73, 385),
  (14, [], .ifCond .eq 21, 0, 0, 0),
  (17, [], .jsr (-9223372036854775808), 1, 234, 744),
  (20, [], .lreturn, 0, 0, 0),
  (21, [], .aload 0, 0, 0, 0),
  (22, [], .getfield 513, 0, 20, 348),
  (25, [], .getfield 193, 0, 160, 116),
  (28, [], .iload 1, 0, 0, 0),
  (29, [], .iaload, 0, 0, 0),
  (30, [], .istore 3, 0, 0, 0),
  (31, [], .iload 3, 0, 0, 0),
  (32, [], .aload 0, 0, 0, 0),
  (33, [], .getfield 513, 0, 20, 348),
  (36, [], .getfield 194, 0, 163, 121),
  (39, [], .iload 1, 0, 0, 0),
  (40, [], .iaload, 0, 0, 0),
  (41, [], .iadd, 0, 0, 0),
  (42, [], .istore 4, 1, 0, 0),
  (44, [], .iload 4, 1, 0, 0),
  (46, [], .ifCond .ne 61, 0, 0, 0),
  (49, [], .iload 2, 0, 0, 0),
  (50, [], .ifCond .ne 57, 0, 0, 0),
  (53, [], .jsr 1, 0, 0, 0),
  (54, [], .goto 60, 0, 0, 0),
  (57, [], .jsr 2, 1, 236, 745),
  (60, [], .lreturn, 0, 0, 0),
  (61, [], .iload 3, 0, 0, 0),
  (62, [], .iload 4, 1, 0, 0),
  (64, [], .invokeinterface 142 9, 1, 238, 746),
  (67, [], .istore 5, 1, 0, 0),
  (69, [], .iload 5, 1, 0, 0),
  (71, [], .ifCond .ne 78, 0, 0, 0),
  (74, [], .jsr (-9223372036854775808), 1, 234, 744),
  (77, [], .lreturn, 0, 0, 0),
  (78, [], .iload 2, 0, 0, 0),
  (79, [], .ifCond .ne 90, 0, 0, 0),
  (82, [], .iload 3, 0, 0, 0),
  (83, [], .iload 5, 1, 0, 0),
  (85, [], .idiv, 0, 0, 0),
  (86, [], .i2l, 0, 0, 0),
  (87, [], .goto 96, 0, 0, 0),
  (90, [], .iload 4, 1, 0, 0),
  (92, [], .iload 5, 1, 0, 0),
  (94, [], .idiv, 0, 0, 0),
  (95, [], .i2l, 0, 0, 0),
  (96, [], .lreturn, 0, 0, 0)]
theorem tk_PW_odds : pm_okT M_PW_odds T_PW_odds = true := by decide +kernel
theorem ok_PW_odds : pm_okm M_PW_odds := pm_okm_of _ 743 76 741 742 (by decide +kernel)
set_option maxRecDepth 100000 in
set_option maxHeartbeats 4000000 in
theorem m_PW_odds {d : Nat} {H : pmT} {Q : pmQ} (a1 : Int32) (a2 : Int32)
    (h : (a1 < (0 : Int32) → Q (some (.long (-9223372036854775808 : Int64))) H) ∧ (¬ a1 < (0 : Int32) → (a1 ≤ ((H.1 2 0) - (1 : Int32)) → (a2 < (0 : Int32) → Q (some (.long (-9223372036854775808 : Int64))) H) ∧ (¬ a2 < (0 : Int32) → (a2 ≤ (1 : Int32) → vp_in a1 12 ∧ ((¬ ((H.1 3 a1.toNatClampNeg) + (H.1 4 a1.toNatClampNeg)) = 0 → pm_R (d + 1) M_PW_greatestDivisor [.int (H.1 3 a1.toNatClampNeg), .int ((H.1 3 a1.toNatClampNeg) + (H.1 4 a1.toNatClampNeg))] H (pm_i (fun x10 H9 => (¬ x10 = 0 → (¬ a2 = 0 → Q (some (.long ((((H.1 3 a1.toNatClampNeg) + (H.1 4 a1.toNatClampNeg)) / x10).toInt64))) H9) ∧ (a2 = 0 → Q (some (.long (((H.1 3 a1.toNatClampNeg) / x10).toInt64))) H9)) ∧ (x10 = 0 → Q (some (.long (-9223372036854775808 : Int64))) H9)))) ∧ (((H.1 3 a1.toNatClampNeg) + (H.1 4 a1.toNatClampNeg)) = 0 → (¬ a2 = 0 → Q (some (.long (2 : Int64))) H) ∧ (a2 = 0 → Q (some (.long (1 : Int64))) H)))) ∧ (¬ a2 ≤ (1 : Int32) → Q (some (.long (-9223372036854775808 : Int64))) H))) ∧ (¬ a1 ≤ ((H.1 2 0) - (1 : Int32)) → Q (some (.long (-9223372036854775808 : Int64))) H))) : pm_R (d + 2) M_PW_odds [.ref 0, .int a1, .int a2] H Q :=
  pm_walk (n := 39) ok_PW_odds tk_PW_odds rfl (Nat.le_of_ble_eq_true rfl) (show pm_R (d + 1) M_PW_noBar [.ref 0, .int a1] H (pm_i (fun x2 H1 => (¬ x2 = 0 → Q (some (.long (-9223372036854775808 : Int64))) H1) ∧ (x2 = 0 → pm_R (d + 1) M_PW_outside [.int a2, .int (0 : Int32), .int (1 : Int32)] H1 (pm_i (fun x4 H3 => (x4 = 0 → vp_in a1 12 ∧ (vp_in a1 12 ∧ ((¬ ((H3.1 3 a1.toNatClampNeg) + (H3.1 4 a1.toNatClampNeg)) = 0 → pm_R (d + 1) M_PW_greatestDivisor [.int (H3.1 3 a1.toNatClampNeg), .int ((H3.1 3 a1.toNatClampNeg) + (H3.1 4 a1.toNatClampNeg))] H3 (pm_i (fun x6 H5 => (¬ x6 = 0 → (¬ a2 = 0 → ¬ x6 = 0 ∧ (Q (some (.long ((((H3.1 3 a1.toNatClampNeg) + (H3.1 4 a1.toNatClampNeg)) / x6).toInt64))) H5)) ∧ (a2 = 0 → ¬ x6 = 0 ∧ (Q (some (.long (((H3.1 3 a1.toNatClampNeg) / x6).toInt64))) H5))) ∧ (x6 = 0 → Q (some (.long (-9223372036854775808 : Int64))) H5)))) ∧ (((H3.1 3 a1.toNatClampNeg) + (H3.1 4 a1.toNatClampNeg)) = 0 → (¬ a2 = 0 → Q (some (.long (2 : Int64))) H3) ∧ (a2 = 0 → Q (some (.long (1 : Int64))) H3))))) ∧ (¬ x4 = 0 → Q (some (.long (-9223372036854775808 : Int64))) H3)))))) from u_PW_noBar a1 (u_PW_outside a1 (0 : Int32) ((H.1 2 0) - (1 : Int32)) (⟨fun q1 => ⟨Or.inr rfl, ⟨Or.inr rfl, ⟨fun _ => (h.1 q1), fun z => absurd z (by decide)⟩⟩⟩, fun q1 => ⟨fun q2 => ⟨Or.inl rfl, ⟨Or.inl rfl, ⟨fun z => absurd (by decide) z, fun _ => u_PW_outside a2 (0 : Int32) (1 : Int32) (⟨fun q3 => ⟨Or.inr rfl, ⟨fun z => absurd z (by decide), fun _ => (((h.2 q1).1 q2).1 q3)⟩⟩, fun q3 => ⟨fun q4 => ⟨Or.inl rfl, ⟨fun _ => ⟨((((h.2 q1).1 q2).2 q3).1 q4).1, ⟨((((h.2 q1).1 q2).2 q3).1 q4).1, ⟨fun q5 => pm_mi (((((h.2 q1).1 q2).2 q3).1 q4).2.1 q5) (fun x10 H9 z6 => ⟨fun q7 => ⟨fun q8 => ⟨q7, ((z6.1 q7).1 q8)⟩, fun q8 => ⟨q7, ((z6.1 q7).2 q8)⟩⟩, fun q7 => (z6.2 q7)⟩), fun q5 => ⟨fun q9 => ((((((h.2 q1).1 q2).2 q3).1 q4).2.2 q5).1 q9), fun q9 => ((((((h.2 q1).1 q2).2 q3).1 q4).2.2 q5).2 q9)⟩⟩⟩⟩, fun z => absurd (by decide) z⟩⟩, fun q4 => ⟨Or.inr rfl, ⟨fun z => absurd z (by decide), fun _ => ((((h.2 q1).1 q2).2 q3).2 q4)⟩⟩⟩⟩)⟩⟩⟩, fun q2 => ⟨Or.inr rfl, ⟨Or.inr rfl, ⟨fun _ => ((h.2 q1).2 q2), fun z => absurd z (by decide)⟩⟩⟩⟩⟩)))
def T_PW_all : List pmE := [
  (0, [], .iconst 1000000, 3, 241, 753),
  (2, [], .istore 1, 0, 0, 0),
  (3, [], .iconst 0, 0, 0, 0),
  (4, [], .istore 2, 0, 0, 0),
  (5, [0, 1, 2], .iload 2, 0, 0, 0),
  (6, [], .aload 0, 0, 0, 0),
  (7, [], .getfield 513, 0, 20, 348),
  (10, [], .getfield 192, 0, 242, 113),
  (13, [], .if_icmp .ge 66, 0, 0, 0),
  (16, [], .aload 0, 0, 0, 0),
  (17, [], .getfield 513, 0, 20, 348),
  (20, [], .getfield 193, 0, 160, 116),
  (23, [], .iload 2, 0, 0, 0),
  (24, [], .iaload, 0, 0, 0),
  (25, [], .aload 0, 0, 0, 0),
  (26, [], .getfield 513, 0, 20, 348),
  (29, [], .getfield 194, 0, 163, 121),
  (32, [], .iload 2, 0, 0, 0),
  (33, [], .iaload, 0, 0, 0),
  (34, [], .iadd, 0, 0, 0),
  (35, [], .istore 3, 0, 0, 0),
  (36, [], .iload 3, 0, 0, 0),
  (37, [], .ifCond .ne 46, 0, 0, 0),
  (40, [], .iload 1, 0, 0, 0),
  (41, [], .iconst 2, 0, 0, 0),
  (42, [], .idiv, 0, 0, 0),
  (43, [], .goto 59, 0, 0, 0),
  (46, [], .iload 1, 0, 0, 0),
  (47, [], .aload 0, 0, 0, 0),
  (48, [], .getfield 513, 0, 20, 348),
  (51, [], .getfield 193, 0, 160, 116),
  (54, [], .iload 2, 0, 0, 0),
  (55, [], .iaload, 0, 0, 0),
  (56, [], .imul, 0, 0, 0),
  (57, [], .iload 3, 0, 0, 0),
  (58, [], .idiv, 0, 0, 0),
  (59, [], .istore 1, 0, 0, 0),
  (60, [], .iinc 2 1, 0, 0, 0),
  (63, [], .goto 5, 0, 0, 0),
  (66, [], .iload 1, 0, 0, 0),
  (67, [], .ireturn, 0, 0, 0)]
theorem tk_PW_all : pm_okT M_PW_all T_PW_all = true := by decide +kernel
theorem ok_PW_all : pm_okm M_PW_all := pm_okm_of _ 752 76 750 751 (by decide +kernel)
set_option maxRecDepth 100000 in
set_option maxHeartbeats 4000000 in
theorem m_PW_all {d : Nat} {H : pmT} {Q : pmQ} 
    (h : pm_RW none d M_PW_all Q 5 [(0, .ref 0), (1, .int (1000000 : Int32)), (2, .int (0 : Int32))] [] H) : pm_R d M_PW_all [.ref 0] H Q :=
  pm_walk (n := 5) ok_PW_all tk_PW_all rfl (Nat.le_of_ble_eq_true rfl) (show pm_RW none d M_PW_all Q 5 [(0, .ref 0), (1, .int (1000000 : Int32)), (2, .int (0 : Int32))] [] H from h)
set_option maxRecDepth 100000 in
set_option maxHeartbeats 4000000 in
theorem b_PW_all_5 {d : Nat} {H : pmT} {Q : pmQ} (v1 : Int32) (v2 : Int32)
    (h : ((H.1 2 0) ≤ v2 → Q (some (.int v1)) H) ∧ (¬ (H.1 2 0) ≤ v2 → vp_in v2 12 ∧ ((¬ ((H.1 3 v2.toNatClampNeg) + (H.1 4 v2.toNatClampNeg)) = 0 → pm_RW none d M_PW_all Q 5 [(0, .ref 0), (1, .int ((v1 * (H.1 3 v2.toNatClampNeg)) / ((H.1 3 v2.toNatClampNeg) + (H.1 4 v2.toNatClampNeg)))), (2, .int (v2 + (1 : Int32)))] [] H) ∧ (((H.1 3 v2.toNatClampNeg) + (H.1 4 v2.toNatClampNeg)) = 0 → pm_RW none d M_PW_all Q 5 [(0, .ref 0), (1, .int (v1 / (2 : Int32))), (2, .int (v2 + (1 : Int32)))] [] H)))) : pm_RW none d M_PW_all Q 5 [(0, .ref 0), (1, .int v1), (2, .int v2)] [] H :=
  pm_body tk_PW_all 31 5 (show ((H.1 2 0) ≤ v2 → Q (some (.int v1)) H) ∧ (¬ (H.1 2 0) ≤ v2 → vp_in v2 12 ∧ (vp_in v2 12 ∧ ((¬ ((H.1 3 v2.toNatClampNeg) + (H.1 4 v2.toNatClampNeg)) = 0 → vp_in v2 12 ∧ (¬ ((H.1 3 v2.toNatClampNeg) + (H.1 4 v2.toNatClampNeg)) = 0 ∧ (pm_RW none d M_PW_all Q 5 [(0, .ref 0), (1, .int ((v1 * (H.1 3 v2.toNatClampNeg)) / ((H.1 3 v2.toNatClampNeg) + (H.1 4 v2.toNatClampNeg)))), (2, .int (v2 + (1 : Int32)))] [] H))) ∧ (((H.1 3 v2.toNatClampNeg) + (H.1 4 v2.toNatClampNeg)) = 0 → ¬ (2 : Int32) = 0 ∧ (pm_RW none d M_PW_all Q 5 [(0, .ref 0), (1, .int (v1 / (2 : Int32))), (2, .int (v2 + (1 : Int32)))] [] H))))) from ⟨fun q1 => (h.1 q1), fun q1 => ⟨(h.2 q1).1, ⟨(h.2 q1).1, ⟨fun q2 => ⟨(h.2 q1).1, ⟨q2, ((h.2 q1).2.1 q2)⟩⟩, fun q2 => ⟨(by decide), ((h.2 q1).2.2 q2)⟩⟩⟩⟩⟩)
def T_PW_judge : List pmE := [
  (0, [], .iload 1, 0, 0, 0),
  (1, [], .invokeinterface 137 5, 1, 81, 396),
  (4, [], .ifCond .eq 9, 0, 0, 0),
  (7, [], .iconst (-1), 0, 0, 0),
  (8, [], .ireturn, 0, 0, 0),
  (9, [], .aload 0, 0, 0, 0),
  (10, [], .iload 1, 0, 0, 0),
  (11, [], .invokeinterface 141 585, 0, 150, 548),
  (14, [], .istore 2, 0, 0, 0),
  (15, [], .iload 2, 0, 0, 0),
  (16, [], .ifCond .eq 23, 0, 0, 0),
  (19, [], .iload 2, 0, 0, 0),
  (20, [], .goto 40, 0, 0, 0),
  (23, [], .aload 0, 0, 0, 0),
  (24, [], .getfield 515, 0, 31, 350),
  (27, [], .aload 0, 0, 0, 0),
  (28, [], .getfield 512, 0, 10, 347),
  (31, [], .aload 0, 0, 0, 0),
  (32, [], .getfield 518, 0, 51, 353),
  (35, [], .iload 1, 0, 0, 0),
  (36, [], .aaload, 0, 0, 0),
  (37, [], .invokeinterface 15 205, 0, 245, 758),
  (40, [], .ireturn, 0, 0, 0)]
theorem tk_PW_judge : pm_okT M_PW_judge T_PW_judge = true := by decide +kernel
theorem ok_PW_judge : pm_okm M_PW_judge := pm_okm_of _ 757 76 755 756 (by decide +kernel)
set_option maxRecDepth 100000 in
set_option maxHeartbeats 4000000 in
theorem m_PW_judge {d : Nat} {H : pmT} {Q : pmQ} (a1 : Int32)
    (h : (a1 < (0 : Int32) → Q (some (.int (-1 : Int32))) H) ∧ (¬ a1 < (0 : Int32) → (a1 ≤ (5 : Int32) → vp_in a1 6 ∧ ((0 ≤ (H.1 (43 + 2 * a1.toNatClampNeg) 0) → ((H.1 (43 + 2 * a1.toNatClampNeg) 1) = (-1 : Int32) → Q (some (.int (-12 : Int32))) H) ∧ (¬ (H.1 (43 + 2 * a1.toNatClampNeg) 1) = (-1 : Int32) → (¬ (H.1 (43 + 2 * a1.toNatClampNeg) 1) = (0 : Int32) → Q (some (.int (-12 : Int32))) H) ∧ ((H.1 (43 + 2 * a1.toNatClampNeg) 1) = (0 : Int32) → pm_R (d + 2) M_Ea_firstUnlike [.ref 25, .ref 1, .ref (43 + 2 * a1.toNatClampNeg)] H (pm_i (fun x102 H101 => Q (some (.int x102)) H101))))) ∧ (¬ 0 ≤ (H.1 (43 + 2 * a1.toNatClampNeg) 0) → (¬ (H.1 (43 + 2 * a1.toNatClampNeg) 1) = (-1 : Int32) → (¬ (H.1 (43 + 2 * a1.toNatClampNeg) 1) = (0 : Int32) → Q (some (.int (-12 : Int32))) H) ∧ ((H.1 (43 + 2 * a1.toNatClampNeg) 1) = (0 : Int32) → pm_R (d + 2) M_Ea_firstUnlike [.ref 25, .ref 1, .ref (43 + 2 * a1.toNatClampNeg)] H (pm_i (fun x128 H127 => Q (some (.int x128)) H127)))) ∧ ((H.1 (43 + 2 * a1.toNatClampNeg) 1) = (-1 : Int32) → Q (some (.int (-11 : Int32))) H)))) ∧ (¬ a1 ≤ (5 : Int32) → Q (some (.int (-1 : Int32))) H))) : pm_R (d + 3) M_PW_judge [.ref 0, .int a1] H Q :=
  pm_walk (n := 19) ok_PW_judge tk_PW_judge rfl (Nat.le_of_ble_eq_true rfl) (show pm_R (d + 2) M_PW_noShelf [.int a1] H (pm_i (fun x2 H1 => (x2 = 0 → pm_R (d + 2) M_PW_refusalOfBytes [.ref 0, .int a1] H1 (pm_i (fun x4 H3 => (x4 = 0 → vp_in a1 6 ∧ (pm_R (d + 2) M_Ea_firstUnlike [.ref 25, .ref 1, .ref (43 + 2 * a1.toNatClampNeg)] H3 (pm_i (fun x6 H5 => Q (some (.int x6)) H5)))) ∧ (¬ x4 = 0 → Q (some (.int x4)) H3)))) ∧ (¬ x2 = 0 → Q (some (.int (-1 : Int32))) H1))) from u_PW_noShelf a1 (u_PW_outside a1 (0 : Int32) (5 : Int32) (⟨fun q1 => ⟨Or.inr rfl, ⟨Or.inr rfl, ⟨fun z => absurd z (by decide), fun _ => (h.1 q1)⟩⟩⟩, fun q1 => ⟨fun q2 => ⟨Or.inl rfl, ⟨Or.inl rfl, ⟨fun _ => u_PW_refusalOfBytes a1 (⟨((h.2 q1).1 q2).1, pm_mkO (pm_shO ((h.2 q1).1 q2).1) (u_Sh_isEmpty (43 + 2 * a1.toNatClampNeg) (pm_mkO (pm_shO ((h.2 q1).1 q2).1) (⟨fun q3 => ⟨Or.inl rfl, ⟨fun _ => pm_mkO (pm_shO ((h.2 q1).1 q2).1) (u_Sh_isRowOf (43 + 2 * a1.toNatClampNeg) (0 : Int32) (pm_mkO (pm_shO ((h.2 q1).1 q2).1) (u_Sh_isRow (43 + 2 * a1.toNatClampNeg) (pm_mkO (pm_shO ((h.2 q1).1 q2).1) (⟨fun q4 => ⟨Or.inl rfl, ⟨fun _ => ⟨Or.inl rfl, ⟨fun _ => ⟨fun z => absurd z (by decide), fun _ => ((((h.2 q1).1 q2).2.1 q3).1 q4)⟩, fun z => absurd (by decide) z⟩⟩, fun z => absurd (by decide) z⟩⟩, fun q4 => ⟨Or.inr rfl, ⟨fun z => absurd z (by decide), fun _ => pm_mkO (pm_shO ((h.2 q1).1 q2).1) (⟨fun q5 => ⟨Or.inl rfl, ⟨fun _ => ⟨fun z => absurd z (by decide), fun _ => (((((h.2 q1).1 q2).2.1 q3).2 q4).1 q5)⟩, fun z => absurd (by decide) z⟩⟩, fun q5 => ⟨Or.inr rfl, ⟨fun z => absurd z (by decide), fun _ => ⟨fun _ => ⟨((h.2 q1).1 q2).1, (((((h.2 q1).1 q2).2.1 q3).2 q4).2 q5)⟩, fun z => absurd (by decide) z⟩⟩⟩⟩)⟩⟩⟩))))), fun z => absurd (by decide) z⟩⟩, fun q3 => pm_mkO (pm_shO ((h.2 q1).1 q2).1) (⟨fun q7 => ⟨Or.inl rfl, ⟨fun _ => pm_mkO (pm_shO ((h.2 q1).1 q2).1) (u_Sh_isRowOf (43 + 2 * a1.toNatClampNeg) (0 : Int32) (pm_mkO (pm_shO ((h.2 q1).1 q2).1) (u_Sh_isRow (43 + 2 * a1.toNatClampNeg) (pm_mkO (pm_shO ((h.2 q1).1 q2).1) (⟨fun z => absurd z q7, fun _ => ⟨Or.inr rfl, ⟨fun z => absurd z (by decide), fun _ => pm_mkO (pm_shO ((h.2 q1).1 q2).1) (⟨fun q8 => ⟨Or.inl rfl, ⟨fun _ => ⟨fun z => absurd z (by decide), fun _ => (((((h.2 q1).1 q2).2.2 q3).1 q7).1 q8)⟩, fun z => absurd (by decide) z⟩⟩, fun q8 => ⟨Or.inr rfl, ⟨fun z => absurd z (by decide), fun _ => ⟨fun _ => ⟨((h.2 q1).1 q2).1, (((((h.2 q1).1 q2).2.2 q3).1 q7).2 q8)⟩, fun z => absurd (by decide) z⟩⟩⟩⟩)⟩⟩⟩))))), fun z => absurd (by decide) z⟩⟩, fun q7 => ⟨Or.inr rfl, ⟨fun z => absurd z (by decide), fun _ => ⟨fun z => absurd z (by decide), fun _ => ((((h.2 q1).1 q2).2.2 q3).2 q7)⟩⟩⟩⟩)⟩)))⟩), fun z => absurd (by decide) z⟩⟩⟩, fun q2 => ⟨Or.inr rfl, ⟨Or.inr rfl, ⟨fun z => absurd z (by decide), fun _ => ((h.2 q1).2 q2)⟩⟩⟩⟩⟩)))
def T_PW_wrongFor : List pmE := [
  (0, [], .iload 1, 0, 0, 0),
  (1, [], .invokeinterface 137 5, 1, 81, 396),
  (4, [], .ifCond .ne 24, 0, 0, 0),
  (7, [], .aload 0, 0, 0, 0),
  (8, [], .iload 2, 0, 0, 0),
  (9, [], .invokeinterface 136 585, 0, 120, 427),
  (12, [], .ifCond .ne 24, 0, 0, 0),
  (15, [], .iload 3, 0, 0, 0),
  (16, [], .iconst 0, 0, 0, 0),
  (17, [], .iconst 1, 0, 0, 0),
  (18, [], .invokeinterface 135 13, 1, 73, 385),
  (21, [], .ifCond .eq 26, 0, 0, 0),
  (24, [], .iconst (-1), 0, 0, 0),
  (25, [], .ireturn, 0, 0, 0),
  (26, [], .aload 0, 0, 0, 0),
  (27, [], .iload 1, 0, 0, 0),
  (28, [], .invokeinterface 141 585, 0, 150, 548),
  (31, [], .istore 4, 1, 0, 0),
  (33, [], .iload 4, 1, 0, 0),
  (35, [], .ifCond .eq 43, 0, 0, 0),
  (38, [], .iload 4, 1, 0, 0),
  (40, [], .goto 71, 0, 0, 0),
  (43, [], .aload 0, 0, 0, 0),
  (44, [], .getfield 515, 0, 31, 350),
  (47, [], .aload 0, 0, 0, 0),
  (48, [], .getfield 512, 0, 10, 347),
  (51, [], .aload 0, 0, 0, 0),
  (52, [], .getfield 518, 0, 51, 353),
  (55, [], .iload 1, 0, 0, 0),
  (56, [], .aaload, 0, 0, 0),
  (57, [], .iload 2, 0, 0, 0),
  (58, [], .iload 3, 0, 0, 0),
  (59, [], .iconst 1, 0, 0, 0),
  (60, [], .if_icmp .ne 67, 0, 0, 0),
  (63, [], .iconst 1, 0, 0, 0),
  (64, [], .goto 68, 0, 0, 0),
  (67, [], .iconst 0, 0, 0, 0),
  (68, [], .invokeinterface 18 213, 0, 248, 777),
  (71, [], .ireturn, 0, 0, 0)]
theorem tk_PW_wrongFor : pm_okT M_PW_wrongFor T_PW_wrongFor = true := by decide +kernel
theorem ok_PW_wrongFor : pm_okm M_PW_wrongFor := pm_okm_of _ 776 76 774 775 (by decide +kernel)
set_option maxRecDepth 100000 in
set_option maxHeartbeats 4000000 in
theorem m_PW_wrongFor {d : Nat} {H : pmT} {Q : pmQ} (a1 : Int32) (a2 : Int32) (a3 : Int32)
    (h : (a1 < (0 : Int32) → Q (some (.int (-1 : Int32))) H) ∧ (¬ a1 < (0 : Int32) → (a1 ≤ (5 : Int32) → (a2 < (0 : Int32) → Q (some (.int (-1 : Int32))) H) ∧ (¬ a2 < (0 : Int32) → (a2 ≤ ((H.1 2 0) - (1 : Int32)) → (a3 < (0 : Int32) → Q (some (.int (-1 : Int32))) H) ∧ (¬ a3 < (0 : Int32) → (a3 ≤ (1 : Int32) → vp_in a1 6 ∧ ((0 ≤ (H.1 (43 + 2 * a1.toNatClampNeg) 0) → ((H.1 (43 + 2 * a1.toNatClampNeg) 1) = (-1 : Int32) → Q (some (.int (-12 : Int32))) H) ∧ (¬ (H.1 (43 + 2 * a1.toNatClampNeg) 1) = (-1 : Int32) → (¬ (H.1 (43 + 2 * a1.toNatClampNeg) 1) = (0 : Int32) → Q (some (.int (-12 : Int32))) H) ∧ ((H.1 (43 + 2 * a1.toNatClampNeg) 1) = (0 : Int32) → (¬ a3 = (1 : Int32) → pm_R (d + 2) M_Ea_fittingWrong [.ref 25, .ref 1, .ref (43 + 2 * a1.toNatClampNeg), .int a2, .int (0 : Int32)] H (pm_i (fun x2074 H2073 => Q (some (.int x2074)) H2073))) ∧ (a3 = (1 : Int32) → pm_R (d + 2) M_Ea_fittingWrong [.ref 25, .ref 1, .ref (43 + 2 * a1.toNatClampNeg), .int a2, .int (1 : Int32)] H (pm_i (fun x2076 H2075 => Q (some (.int x2076)) H2075)))))) ∧ (¬ 0 ≤ (H.1 (43 + 2 * a1.toNatClampNeg) 0) → (¬ (H.1 (43 + 2 * a1.toNatClampNeg) 1) = (-1 : Int32) → (¬ (H.1 (43 + 2 * a1.toNatClampNeg) 1) = (0 : Int32) → Q (some (.int (-12 : Int32))) H) ∧ ((H.1 (43 + 2 * a1.toNatClampNeg) 1) = (0 : Int32) → (¬ a3 = (1 : Int32) → pm_R (d + 2) M_Ea_fittingWrong [.ref 25, .ref 1, .ref (43 + 2 * a1.toNatClampNeg), .int a2, .int (0 : Int32)] H (pm_i (fun x2126 H2125 => Q (some (.int x2126)) H2125))) ∧ (a3 = (1 : Int32) → pm_R (d + 2) M_Ea_fittingWrong [.ref 25, .ref 1, .ref (43 + 2 * a1.toNatClampNeg), .int a2, .int (1 : Int32)] H (pm_i (fun x2128 H2127 => Q (some (.int x2128)) H2127))))) ∧ ((H.1 (43 + 2 * a1.toNatClampNeg) 1) = (-1 : Int32) → Q (some (.int (-11 : Int32))) H)))) ∧ (¬ a3 ≤ (1 : Int32) → Q (some (.int (-1 : Int32))) H))) ∧ (¬ a2 ≤ ((H.1 2 0) - (1 : Int32)) → Q (some (.int (-1 : Int32))) H))) ∧ (¬ a1 ≤ (5 : Int32) → Q (some (.int (-1 : Int32))) H))) : pm_R (d + 3) M_PW_wrongFor [.ref 0, .int a1, .int a2, .int a3] H Q :=
  pm_walk (n := 34) ok_PW_wrongFor tk_PW_wrongFor rfl (Nat.le_of_ble_eq_true rfl) (show pm_R (d + 2) M_PW_noShelf [.int a1] H (pm_i (fun x2 H1 => (¬ x2 = 0 → Q (some (.int (-1 : Int32))) H1) ∧ (x2 = 0 → pm_R (d + 2) M_PW_noBar [.ref 0, .int a2] H1 (pm_i (fun x4 H3 => (¬ x4 = 0 → Q (some (.int (-1 : Int32))) H3) ∧ (x4 = 0 → pm_R (d + 2) M_PW_outside [.int a3, .int (0 : Int32), .int (1 : Int32)] H3 (pm_i (fun x6 H5 => (x6 = 0 → pm_R (d + 2) M_PW_refusalOfBytes [.ref 0, .int a1] H5 (pm_i (fun x8 H7 => (x8 = 0 → vp_in a1 6 ∧ ((¬ a3 = (1 : Int32) → pm_R (d + 2) M_Ea_fittingWrong [.ref 25, .ref 1, .ref (43 + 2 * a1.toNatClampNeg), .int a2, .int (0 : Int32)] H7 (pm_i (fun x10 H9 => Q (some (.int x10)) H9))) ∧ (a3 = (1 : Int32) → pm_R (d + 2) M_Ea_fittingWrong [.ref 25, .ref 1, .ref (43 + 2 * a1.toNatClampNeg), .int a2, .int (1 : Int32)] H7 (pm_i (fun x12 H11 => Q (some (.int x12)) H11))))) ∧ (¬ x8 = 0 → Q (some (.int x8)) H7)))) ∧ (¬ x6 = 0 → Q (some (.int (-1 : Int32))) H5))))))))) from u_PW_noShelf a1 (u_PW_outside a1 (0 : Int32) (5 : Int32) (⟨fun q1 => ⟨Or.inr rfl, ⟨Or.inr rfl, ⟨fun _ => (h.1 q1), fun z => absurd z (by decide)⟩⟩⟩, fun q1 => ⟨fun q2 => ⟨Or.inl rfl, ⟨Or.inl rfl, ⟨fun z => absurd (by decide) z, fun _ => u_PW_noBar a2 (u_PW_outside a2 (0 : Int32) ((H.1 2 0) - (1 : Int32)) (⟨fun q3 => ⟨Or.inr rfl, ⟨Or.inr rfl, ⟨fun _ => (((h.2 q1).1 q2).1 q3), fun z => absurd z (by decide)⟩⟩⟩, fun q3 => ⟨fun q4 => ⟨Or.inl rfl, ⟨Or.inl rfl, ⟨fun z => absurd (by decide) z, fun _ => u_PW_outside a3 (0 : Int32) (1 : Int32) (⟨fun q5 => ⟨Or.inr rfl, ⟨fun z => absurd z (by decide), fun _ => (((((h.2 q1).1 q2).2 q3).1 q4).1 q5)⟩⟩, fun q5 => ⟨fun q6 => ⟨Or.inl rfl, ⟨fun _ => u_PW_refusalOfBytes a1 (⟨((((((h.2 q1).1 q2).2 q3).1 q4).2 q5).1 q6).1, pm_mkO (pm_shO ((((((h.2 q1).1 q2).2 q3).1 q4).2 q5).1 q6).1) (u_Sh_isEmpty (43 + 2 * a1.toNatClampNeg) (pm_mkO (pm_shO ((((((h.2 q1).1 q2).2 q3).1 q4).2 q5).1 q6).1) (⟨fun q7 => ⟨Or.inl rfl, ⟨fun _ => pm_mkO (pm_shO ((((((h.2 q1).1 q2).2 q3).1 q4).2 q5).1 q6).1) (u_Sh_isRowOf (43 + 2 * a1.toNatClampNeg) (0 : Int32) (pm_mkO (pm_shO ((((((h.2 q1).1 q2).2 q3).1 q4).2 q5).1 q6).1) (u_Sh_isRow (43 + 2 * a1.toNatClampNeg) (pm_mkO (pm_shO ((((((h.2 q1).1 q2).2 q3).1 q4).2 q5).1 q6).1) (⟨fun q8 => ⟨Or.inl rfl, ⟨fun _ => ⟨Or.inl rfl, ⟨fun _ => ⟨fun z => absurd z (by decide), fun _ => ((((((((h.2 q1).1 q2).2 q3).1 q4).2 q5).1 q6).2.1 q7).1 q8)⟩, fun z => absurd (by decide) z⟩⟩, fun z => absurd (by decide) z⟩⟩, fun q8 => ⟨Or.inr rfl, ⟨fun z => absurd z (by decide), fun _ => pm_mkO (pm_shO ((((((h.2 q1).1 q2).2 q3).1 q4).2 q5).1 q6).1) (⟨fun q9 => ⟨Or.inl rfl, ⟨fun _ => ⟨fun z => absurd z (by decide), fun _ => (((((((((h.2 q1).1 q2).2 q3).1 q4).2 q5).1 q6).2.1 q7).2 q8).1 q9)⟩, fun z => absurd (by decide) z⟩⟩, fun q9 => ⟨Or.inr rfl, ⟨fun z => absurd z (by decide), fun _ => ⟨fun _ => ⟨((((((h.2 q1).1 q2).2 q3).1 q4).2 q5).1 q6).1, ⟨fun q10 => ((((((((((h.2 q1).1 q2).2 q3).1 q4).2 q5).1 q6).2.1 q7).2 q8).2 q9).1 q10), fun q10 => ((((((((((h.2 q1).1 q2).2 q3).1 q4).2 q5).1 q6).2.1 q7).2 q8).2 q9).2 q10)⟩⟩, fun z => absurd (by decide) z⟩⟩⟩⟩)⟩⟩⟩))))), fun z => absurd (by decide) z⟩⟩, fun q7 => pm_mkO (pm_shO ((((((h.2 q1).1 q2).2 q3).1 q4).2 q5).1 q6).1) (⟨fun q13 => ⟨Or.inl rfl, ⟨fun _ => pm_mkO (pm_shO ((((((h.2 q1).1 q2).2 q3).1 q4).2 q5).1 q6).1) (u_Sh_isRowOf (43 + 2 * a1.toNatClampNeg) (0 : Int32) (pm_mkO (pm_shO ((((((h.2 q1).1 q2).2 q3).1 q4).2 q5).1 q6).1) (u_Sh_isRow (43 + 2 * a1.toNatClampNeg) (pm_mkO (pm_shO ((((((h.2 q1).1 q2).2 q3).1 q4).2 q5).1 q6).1) (⟨fun z => absurd z q13, fun _ => ⟨Or.inr rfl, ⟨fun z => absurd z (by decide), fun _ => pm_mkO (pm_shO ((((((h.2 q1).1 q2).2 q3).1 q4).2 q5).1 q6).1) (⟨fun q14 => ⟨Or.inl rfl, ⟨fun _ => ⟨fun z => absurd z (by decide), fun _ => (((((((((h.2 q1).1 q2).2 q3).1 q4).2 q5).1 q6).2.2 q7).1 q13).1 q14)⟩, fun z => absurd (by decide) z⟩⟩, fun q14 => ⟨Or.inr rfl, ⟨fun z => absurd z (by decide), fun _ => ⟨fun _ => ⟨((((((h.2 q1).1 q2).2 q3).1 q4).2 q5).1 q6).1, ⟨fun q15 => ((((((((((h.2 q1).1 q2).2 q3).1 q4).2 q5).1 q6).2.2 q7).1 q13).2 q14).1 q15), fun q15 => ((((((((((h.2 q1).1 q2).2 q3).1 q4).2 q5).1 q6).2.2 q7).1 q13).2 q14).2 q15)⟩⟩, fun z => absurd (by decide) z⟩⟩⟩⟩)⟩⟩⟩))))), fun z => absurd (by decide) z⟩⟩, fun q13 => ⟨Or.inr rfl, ⟨fun z => absurd z (by decide), fun _ => ⟨fun z => absurd z (by decide), fun _ => ((((((((h.2 q1).1 q2).2 q3).1 q4).2 q5).1 q6).2.2 q7).2 q13)⟩⟩⟩⟩)⟩)))⟩), fun z => absurd (by decide) z⟩⟩, fun q6 => ⟨Or.inr rfl, ⟨fun z => absurd z (by decide), fun _ => ((((((h.2 q1).1 q2).2 q3).1 q4).2 q5).2 q6)⟩⟩⟩⟩)⟩⟩⟩, fun q4 => ⟨Or.inr rfl, ⟨Or.inr rfl, ⟨fun _ => ((((h.2 q1).1 q2).2 q3).2 q4), fun z => absurd z (by decide)⟩⟩⟩⟩⟩))⟩⟩⟩, fun q2 => ⟨Or.inr rfl, ⟨Or.inr rfl, ⟨fun _ => ((h.2 q1).2 q2), fun z => absurd z (by decide)⟩⟩⟩⟩⟩)))
def T_PW_fadesFor : List pmE := [
  (0, [], .iload 1, 0, 0, 0),
  (1, [], .invokeinterface 137 5, 1, 81, 396),
  (4, [], .ifCond .eq 9, 0, 0, 0),
  (7, [], .iconst (-1), 0, 0, 0),
  (8, [], .ireturn, 0, 0, 0),
  (9, [], .aload 0, 0, 0, 0),
  (10, [], .iload 1, 0, 0, 0),
  (11, [], .invokeinterface 141 585, 0, 150, 548),
  (14, [], .istore 2, 0, 0, 0),
  (15, [], .iload 2, 0, 0, 0),
  (16, [], .ifCond .eq 23, 0, 0, 0),
  (19, [], .iload 2, 0, 0, 0),
  (20, [], .goto 40, 0, 0, 0),
  (23, [], .aload 0, 0, 0, 0),
  (24, [], .getfield 515, 0, 31, 350),
  (27, [], .aload 0, 0, 0, 0),
  (28, [], .getfield 512, 0, 10, 347),
  (31, [], .aload 0, 0, 0, 0),
  (32, [], .getfield 518, 0, 51, 353),
  (35, [], .iload 1, 0, 0, 0),
  (36, [], .aaload, 0, 0, 0),
  (37, [], .invokeinterface 19 205, 0, 252, 785),
  (40, [], .ireturn, 0, 0, 0)]
theorem tk_PW_fadesFor : pm_okT M_PW_fadesFor T_PW_fadesFor = true := by decide +kernel
theorem ok_PW_fadesFor : pm_okm M_PW_fadesFor := pm_okm_of _ 784 76 782 783 (by decide +kernel)
set_option maxRecDepth 100000 in
set_option maxHeartbeats 4000000 in
theorem m_PW_fadesFor {d : Nat} {H : pmT} {Q : pmQ} (a1 : Int32)
    (h : (a1 < (0 : Int32) → Q (some (.int (-1 : Int32))) H) ∧ (¬ a1 < (0 : Int32) → (a1 ≤ (5 : Int32) → vp_in a1 6 ∧ ((0 ≤ (H.1 (43 + 2 * a1.toNatClampNeg) 0) → ((H.1 (43 + 2 * a1.toNatClampNeg) 1) = (-1 : Int32) → Q (some (.int (-12 : Int32))) H) ∧ (¬ (H.1 (43 + 2 * a1.toNatClampNeg) 1) = (-1 : Int32) → (¬ (H.1 (43 + 2 * a1.toNatClampNeg) 1) = (0 : Int32) → Q (some (.int (-12 : Int32))) H) ∧ ((H.1 (43 + 2 * a1.toNatClampNeg) 1) = (0 : Int32) → pm_R (d + 2) M_Ea_leastFades [.ref 25, .ref 1, .ref (43 + 2 * a1.toNatClampNeg)] H (pm_i (fun x102 H101 => Q (some (.int x102)) H101))))) ∧ (¬ 0 ≤ (H.1 (43 + 2 * a1.toNatClampNeg) 0) → (¬ (H.1 (43 + 2 * a1.toNatClampNeg) 1) = (-1 : Int32) → (¬ (H.1 (43 + 2 * a1.toNatClampNeg) 1) = (0 : Int32) → Q (some (.int (-12 : Int32))) H) ∧ ((H.1 (43 + 2 * a1.toNatClampNeg) 1) = (0 : Int32) → pm_R (d + 2) M_Ea_leastFades [.ref 25, .ref 1, .ref (43 + 2 * a1.toNatClampNeg)] H (pm_i (fun x128 H127 => Q (some (.int x128)) H127)))) ∧ ((H.1 (43 + 2 * a1.toNatClampNeg) 1) = (-1 : Int32) → Q (some (.int (-11 : Int32))) H)))) ∧ (¬ a1 ≤ (5 : Int32) → Q (some (.int (-1 : Int32))) H))) : pm_R (d + 3) M_PW_fadesFor [.ref 0, .int a1] H Q :=
  pm_walk (n := 19) ok_PW_fadesFor tk_PW_fadesFor rfl (Nat.le_of_ble_eq_true rfl) (show pm_R (d + 2) M_PW_noShelf [.int a1] H (pm_i (fun x2 H1 => (x2 = 0 → pm_R (d + 2) M_PW_refusalOfBytes [.ref 0, .int a1] H1 (pm_i (fun x4 H3 => (x4 = 0 → vp_in a1 6 ∧ (pm_R (d + 2) M_Ea_leastFades [.ref 25, .ref 1, .ref (43 + 2 * a1.toNatClampNeg)] H3 (pm_i (fun x6 H5 => Q (some (.int x6)) H5)))) ∧ (¬ x4 = 0 → Q (some (.int x4)) H3)))) ∧ (¬ x2 = 0 → Q (some (.int (-1 : Int32))) H1))) from u_PW_noShelf a1 (u_PW_outside a1 (0 : Int32) (5 : Int32) (⟨fun q1 => ⟨Or.inr rfl, ⟨Or.inr rfl, ⟨fun z => absurd z (by decide), fun _ => (h.1 q1)⟩⟩⟩, fun q1 => ⟨fun q2 => ⟨Or.inl rfl, ⟨Or.inl rfl, ⟨fun _ => u_PW_refusalOfBytes a1 (⟨((h.2 q1).1 q2).1, pm_mkO (pm_shO ((h.2 q1).1 q2).1) (u_Sh_isEmpty (43 + 2 * a1.toNatClampNeg) (pm_mkO (pm_shO ((h.2 q1).1 q2).1) (⟨fun q3 => ⟨Or.inl rfl, ⟨fun _ => pm_mkO (pm_shO ((h.2 q1).1 q2).1) (u_Sh_isRowOf (43 + 2 * a1.toNatClampNeg) (0 : Int32) (pm_mkO (pm_shO ((h.2 q1).1 q2).1) (u_Sh_isRow (43 + 2 * a1.toNatClampNeg) (pm_mkO (pm_shO ((h.2 q1).1 q2).1) (⟨fun q4 => ⟨Or.inl rfl, ⟨fun _ => ⟨Or.inl rfl, ⟨fun _ => ⟨fun z => absurd z (by decide), fun _ => ((((h.2 q1).1 q2).2.1 q3).1 q4)⟩, fun z => absurd (by decide) z⟩⟩, fun z => absurd (by decide) z⟩⟩, fun q4 => ⟨Or.inr rfl, ⟨fun z => absurd z (by decide), fun _ => pm_mkO (pm_shO ((h.2 q1).1 q2).1) (⟨fun q5 => ⟨Or.inl rfl, ⟨fun _ => ⟨fun z => absurd z (by decide), fun _ => (((((h.2 q1).1 q2).2.1 q3).2 q4).1 q5)⟩, fun z => absurd (by decide) z⟩⟩, fun q5 => ⟨Or.inr rfl, ⟨fun z => absurd z (by decide), fun _ => ⟨fun _ => ⟨((h.2 q1).1 q2).1, (((((h.2 q1).1 q2).2.1 q3).2 q4).2 q5)⟩, fun z => absurd (by decide) z⟩⟩⟩⟩)⟩⟩⟩))))), fun z => absurd (by decide) z⟩⟩, fun q3 => pm_mkO (pm_shO ((h.2 q1).1 q2).1) (⟨fun q7 => ⟨Or.inl rfl, ⟨fun _ => pm_mkO (pm_shO ((h.2 q1).1 q2).1) (u_Sh_isRowOf (43 + 2 * a1.toNatClampNeg) (0 : Int32) (pm_mkO (pm_shO ((h.2 q1).1 q2).1) (u_Sh_isRow (43 + 2 * a1.toNatClampNeg) (pm_mkO (pm_shO ((h.2 q1).1 q2).1) (⟨fun z => absurd z q7, fun _ => ⟨Or.inr rfl, ⟨fun z => absurd z (by decide), fun _ => pm_mkO (pm_shO ((h.2 q1).1 q2).1) (⟨fun q8 => ⟨Or.inl rfl, ⟨fun _ => ⟨fun z => absurd z (by decide), fun _ => (((((h.2 q1).1 q2).2.2 q3).1 q7).1 q8)⟩, fun z => absurd (by decide) z⟩⟩, fun q8 => ⟨Or.inr rfl, ⟨fun z => absurd z (by decide), fun _ => ⟨fun _ => ⟨((h.2 q1).1 q2).1, (((((h.2 q1).1 q2).2.2 q3).1 q7).2 q8)⟩, fun z => absurd (by decide) z⟩⟩⟩⟩)⟩⟩⟩))))), fun z => absurd (by decide) z⟩⟩, fun q7 => ⟨Or.inr rfl, ⟨fun z => absurd z (by decide), fun _ => ⟨fun z => absurd z (by decide), fun _ => ((((h.2 q1).1 q2).2.2 q3).2 q7)⟩⟩⟩⟩)⟩)))⟩), fun z => absurd (by decide) z⟩⟩⟩, fun q2 => ⟨Or.inr rfl, ⟨Or.inr rfl, ⟨fun z => absurd z (by decide), fun _ => ((h.2 q1).2 q2)⟩⟩⟩⟩⟩)))
def T_PW_which : List pmE := [
  (0, [], .iload 1, 0, 0, 0),
  (1, [], .invokeinterface 137 5, 1, 81, 396),
  (4, [], .ifCond .eq 9, 0, 0, 0),
  (7, [], .iconst (-1), 0, 0, 0),
  (8, [], .ireturn, 0, 0, 0),
  (9, [], .aload 0, 0, 0, 0),
  (10, [], .iload 1, 0, 0, 0),
  (11, [], .invokeinterface 141 585, 0, 150, 548),
  (14, [], .istore 2, 0, 0, 0),
  (15, [], .iload 2, 0, 0, 0),
  (16, [], .ifCond .eq 23, 0, 0, 0),
  (19, [], .iload 2, 0, 0, 0),
  (20, [], .goto 40, 0, 0, 0),
  (23, [], .aload 0, 0, 0, 0),
  (24, [], .getfield 515, 0, 31, 350),
  (27, [], .aload 0, 0, 0, 0),
  (28, [], .getfield 512, 0, 10, 347),
  (31, [], .aload 0, 0, 0, 0),
  (32, [], .getfield 518, 0, 51, 353),
  (35, [], .iload 1, 0, 0, 0),
  (36, [], .aaload, 0, 0, 0),
  (37, [], .invokeinterface 20 205, 0, 255, 793),
  (40, [], .ireturn, 0, 0, 0)]
theorem tk_PW_which : pm_okT M_PW_which T_PW_which = true := by decide +kernel
theorem ok_PW_which : pm_okm M_PW_which := pm_okm_of _ 792 76 790 791 (by decide +kernel)
set_option maxRecDepth 100000 in
set_option maxHeartbeats 4000000 in
theorem m_PW_which {d : Nat} {H : pmT} {Q : pmQ} (a1 : Int32)
    (h : (a1 < (0 : Int32) → Q (some (.int (-1 : Int32))) H) ∧ (¬ a1 < (0 : Int32) → (a1 ≤ (5 : Int32) → vp_in a1 6 ∧ ((0 ≤ (H.1 (43 + 2 * a1.toNatClampNeg) 0) → ((H.1 (43 + 2 * a1.toNatClampNeg) 1) = (-1 : Int32) → Q (some (.int (-12 : Int32))) H) ∧ (¬ (H.1 (43 + 2 * a1.toNatClampNeg) 1) = (-1 : Int32) → (¬ (H.1 (43 + 2 * a1.toNatClampNeg) 1) = (0 : Int32) → Q (some (.int (-12 : Int32))) H) ∧ ((H.1 (43 + 2 * a1.toNatClampNeg) 1) = (0 : Int32) → pm_R (d + 2) M_Ea_likeBars [.ref 25, .ref 1, .ref (43 + 2 * a1.toNatClampNeg)] H (pm_i (fun x102 H101 => Q (some (.int x102)) H101))))) ∧ (¬ 0 ≤ (H.1 (43 + 2 * a1.toNatClampNeg) 0) → (¬ (H.1 (43 + 2 * a1.toNatClampNeg) 1) = (-1 : Int32) → (¬ (H.1 (43 + 2 * a1.toNatClampNeg) 1) = (0 : Int32) → Q (some (.int (-12 : Int32))) H) ∧ ((H.1 (43 + 2 * a1.toNatClampNeg) 1) = (0 : Int32) → pm_R (d + 2) M_Ea_likeBars [.ref 25, .ref 1, .ref (43 + 2 * a1.toNatClampNeg)] H (pm_i (fun x128 H127 => Q (some (.int x128)) H127)))) ∧ ((H.1 (43 + 2 * a1.toNatClampNeg) 1) = (-1 : Int32) → Q (some (.int (-11 : Int32))) H)))) ∧ (¬ a1 ≤ (5 : Int32) → Q (some (.int (-1 : Int32))) H))) : pm_R (d + 3) M_PW_which [.ref 0, .int a1] H Q :=
  pm_walk (n := 19) ok_PW_which tk_PW_which rfl (Nat.le_of_ble_eq_true rfl) (show pm_R (d + 2) M_PW_noShelf [.int a1] H (pm_i (fun x2 H1 => (x2 = 0 → pm_R (d + 2) M_PW_refusalOfBytes [.ref 0, .int a1] H1 (pm_i (fun x4 H3 => (x4 = 0 → vp_in a1 6 ∧ (pm_R (d + 2) M_Ea_likeBars [.ref 25, .ref 1, .ref (43 + 2 * a1.toNatClampNeg)] H3 (pm_i (fun x6 H5 => Q (some (.int x6)) H5)))) ∧ (¬ x4 = 0 → Q (some (.int x4)) H3)))) ∧ (¬ x2 = 0 → Q (some (.int (-1 : Int32))) H1))) from u_PW_noShelf a1 (u_PW_outside a1 (0 : Int32) (5 : Int32) (⟨fun q1 => ⟨Or.inr rfl, ⟨Or.inr rfl, ⟨fun z => absurd z (by decide), fun _ => (h.1 q1)⟩⟩⟩, fun q1 => ⟨fun q2 => ⟨Or.inl rfl, ⟨Or.inl rfl, ⟨fun _ => u_PW_refusalOfBytes a1 (⟨((h.2 q1).1 q2).1, pm_mkO (pm_shO ((h.2 q1).1 q2).1) (u_Sh_isEmpty (43 + 2 * a1.toNatClampNeg) (pm_mkO (pm_shO ((h.2 q1).1 q2).1) (⟨fun q3 => ⟨Or.inl rfl, ⟨fun _ => pm_mkO (pm_shO ((h.2 q1).1 q2).1) (u_Sh_isRowOf (43 + 2 * a1.toNatClampNeg) (0 : Int32) (pm_mkO (pm_shO ((h.2 q1).1 q2).1) (u_Sh_isRow (43 + 2 * a1.toNatClampNeg) (pm_mkO (pm_shO ((h.2 q1).1 q2).1) (⟨fun q4 => ⟨Or.inl rfl, ⟨fun _ => ⟨Or.inl rfl, ⟨fun _ => ⟨fun z => absurd z (by decide), fun _ => ((((h.2 q1).1 q2).2.1 q3).1 q4)⟩, fun z => absurd (by decide) z⟩⟩, fun z => absurd (by decide) z⟩⟩, fun q4 => ⟨Or.inr rfl, ⟨fun z => absurd z (by decide), fun _ => pm_mkO (pm_shO ((h.2 q1).1 q2).1) (⟨fun q5 => ⟨Or.inl rfl, ⟨fun _ => ⟨fun z => absurd z (by decide), fun _ => (((((h.2 q1).1 q2).2.1 q3).2 q4).1 q5)⟩, fun z => absurd (by decide) z⟩⟩, fun q5 => ⟨Or.inr rfl, ⟨fun z => absurd z (by decide), fun _ => ⟨fun _ => ⟨((h.2 q1).1 q2).1, (((((h.2 q1).1 q2).2.1 q3).2 q4).2 q5)⟩, fun z => absurd (by decide) z⟩⟩⟩⟩)⟩⟩⟩))))), fun z => absurd (by decide) z⟩⟩, fun q3 => pm_mkO (pm_shO ((h.2 q1).1 q2).1) (⟨fun q7 => ⟨Or.inl rfl, ⟨fun _ => pm_mkO (pm_shO ((h.2 q1).1 q2).1) (u_Sh_isRowOf (43 + 2 * a1.toNatClampNeg) (0 : Int32) (pm_mkO (pm_shO ((h.2 q1).1 q2).1) (u_Sh_isRow (43 + 2 * a1.toNatClampNeg) (pm_mkO (pm_shO ((h.2 q1).1 q2).1) (⟨fun z => absurd z q7, fun _ => ⟨Or.inr rfl, ⟨fun z => absurd z (by decide), fun _ => pm_mkO (pm_shO ((h.2 q1).1 q2).1) (⟨fun q8 => ⟨Or.inl rfl, ⟨fun _ => ⟨fun z => absurd z (by decide), fun _ => (((((h.2 q1).1 q2).2.2 q3).1 q7).1 q8)⟩, fun z => absurd (by decide) z⟩⟩, fun q8 => ⟨Or.inr rfl, ⟨fun z => absurd z (by decide), fun _ => ⟨fun _ => ⟨((h.2 q1).1 q2).1, (((((h.2 q1).1 q2).2.2 q3).1 q7).2 q8)⟩, fun z => absurd (by decide) z⟩⟩⟩⟩)⟩⟩⟩))))), fun z => absurd (by decide) z⟩⟩, fun q7 => ⟨Or.inr rfl, ⟨fun z => absurd z (by decide), fun _ => ⟨fun z => absurd z (by decide), fun _ => ((((h.2 q1).1 q2).2.2 q3).2 q7)⟩⟩⟩⟩)⟩)))⟩), fun z => absurd (by decide) z⟩⟩⟩, fun q2 => ⟨Or.inr rfl, ⟨Or.inr rfl, ⟨fun z => absurd z (by decide), fun _ => ((h.2 q1).2 q2)⟩⟩⟩⟩⟩)))
def T_PW_hearing : List pmE := [
  (0, [], .iload 1, 0, 0, 0),
  (1, [], .ifCond .lt 45, 0, 0, 0),
  (4, [], .aload 0, 0, 0, 0),
  (5, [], .iload 1, 0, 0, 0),
  (6, [], .iconst 100, 1, 0, 0),
  (8, [], .idiv, 0, 0, 0),
  (9, [], .invokeinterface 136 585, 0, 120, 427),
  (12, [], .ifCond .ne 45, 0, 0, 0),
  (15, [], .aload 0, 0, 0, 0),
  (16, [], .iload 1, 0, 0, 0),
  (17, [], .iconst 100, 1, 0, 0),
  (19, [], .irem, 0, 0, 0),
  (20, [], .invokeinterface 136 585, 0, 120, 427),
  (23, [], .ifCond .ne 45, 0, 0, 0),
  (26, [], .iload 2, 0, 0, 0),
  (27, [], .iconst 0, 0, 0, 0),
  (28, [], .iconst 30, 1, 0, 0),
  (30, [], .invokeinterface 135 13, 1, 73, 385),
  (33, [], .ifCond .ne 45, 0, 0, 0),
  (36, [], .iload 3, 0, 0, 0),
  (37, [], .iconst 0, 0, 0, 0),
  (38, [], .iconst 2, 0, 0, 0),
  (39, [], .invokeinterface 135 13, 1, 73, 385),
  (42, [], .ifCond .eq 48, 0, 0, 0),
  (45, [], .iconst (-2000000000), 3, 207, 683),
  (47, [], .ireturn, 0, 0, 0),
  (48, [], .aload 0, 0, 0, 0),
  (49, [], .getfield 515, 0, 31, 350),
  (52, [], .aload 0, 0, 0, 0),
  (53, [], .getfield 512, 0, 10, 347),
  (56, [], .iload 1, 0, 0, 0),
  (57, [], .iconst 100, 1, 0, 0),
  (59, [], .idiv, 0, 0, 0),
  (60, [], .iload 1, 0, 0, 0),
  (61, [], .iconst 100, 1, 0, 0),
  (63, [], .irem, 0, 0, 0),
  (64, [], .iload 2, 0, 0, 0),
  (65, [], .invokeinterface 22 212, 0, 258, 808),
  (68, [], .iload 3, 0, 0, 0),
  (69, [], .lookupswitch 120 #[(0, 96), (1, 108)], 0, 27, 0),
  (96, [], .aload 0, 0, 0, 0),
  (97, [], .getfield 512, 0, 10, 347),
  (100, [], .getfield 385, 0, 157, 188),
  (103, [], .iconst 0, 0, 0, 0),
  (104, [], .invokeinterface 30 265, 0, 261, 813),
  (107, [], .ireturn, 0, 0, 0),
  (108, [], .aload 0, 0, 0, 0),
  (109, [], .getfield 512, 0, 10, 347),
  (112, [], .getfield 385, 0, 157, 188),
  (115, [], .iconst 1, 0, 0, 0),
  (116, [], .invokeinterface 30 265, 0, 261, 813),
  (119, [], .ireturn, 0, 0, 0),
  (120, [], .aload 0, 0, 0, 0),
  (121, [], .getfield 515, 0, 31, 350),
  (124, [], .getfield 128, 0, 264, 259),
  (127, [], .ireturn, 0, 0, 0)]
theorem tk_PW_hearing : pm_okT M_PW_hearing T_PW_hearing = true := by decide +kernel
theorem ok_PW_hearing : pm_okm M_PW_hearing := pm_okm_of _ 807 76 805 806 (by decide +kernel)
set_option maxRecDepth 100000 in
set_option maxHeartbeats 4000000 in
theorem m_PW_hearing {d : Nat} {H : pmT} {Q : pmQ} (a1 : Int32) (a2 : Int32) (a3 : Int32)
    (h : (a1 < 0 → Q (some (.int (-2000000000 : Int32))) H) ∧ (¬ a1 < 0 → ((a1 / (100 : Int32)) < (0 : Int32) → Q (some (.int (-2000000000 : Int32))) H) ∧ (¬ (a1 / (100 : Int32)) < (0 : Int32) → ((a1 / (100 : Int32)) ≤ ((H.1 2 0) - (1 : Int32)) → ((a1 - a1 / (100 : Int32) * (100 : Int32)) < (0 : Int32) → Q (some (.int (-2000000000 : Int32))) H) ∧ (¬ (a1 - a1 / (100 : Int32) * (100 : Int32)) < (0 : Int32) → ((a1 - a1 / (100 : Int32) * (100 : Int32)) ≤ ((H.1 2 0) - (1 : Int32)) → (a2 < (0 : Int32) → Q (some (.int (-2000000000 : Int32))) H) ∧ (¬ a2 < (0 : Int32) → (a2 ≤ (30 : Int32) → (a3 < (0 : Int32) → Q (some (.int (-2000000000 : Int32))) H) ∧ (¬ a3 < (0 : Int32) → (a3 ≤ (2 : Int32) → pm_R (d + 1) M_Ea_hearEachOther [.ref 25, .ref 1, .int (a1 / (100 : Int32)), .int (a1 - a1 / (100 : Int32) * (100 : Int32)), .int a2] H (pm_v (fun H41 => (a3 = (0 : Int32) → Q (some (.int ((H41.1 9 0) - (H41.1 10 0)))) H41) ∧ (¬ a3 = (0 : Int32) → (a3 = (1 : Int32) → Q (some (.int ((H41.1 9 1) - (H41.1 10 1)))) H41) ∧ (¬ a3 = (1 : Int32) → Q (some (.int (H41.1 25 0))) H41))))) ∧ (¬ a3 ≤ (2 : Int32) → Q (some (.int (-2000000000 : Int32))) H))) ∧ (¬ a2 ≤ (30 : Int32) → Q (some (.int (-2000000000 : Int32))) H))) ∧ (¬ (a1 - a1 / (100 : Int32) * (100 : Int32)) ≤ ((H.1 2 0) - (1 : Int32)) → Q (some (.int (-2000000000 : Int32))) H))) ∧ (¬ (a1 / (100 : Int32)) ≤ ((H.1 2 0) - (1 : Int32)) → Q (some (.int (-2000000000 : Int32))) H)))) : pm_R (d + 2) M_PW_hearing [.ref 0, .int a1, .int a2, .int a3] H Q :=
  pm_walk (n := 44) ok_PW_hearing tk_PW_hearing rfl (Nat.le_of_ble_eq_true rfl) (show (a1 < 0 → Q (some (.int (-2000000000 : Int32))) H) ∧ (¬ a1 < 0 → ¬ (100 : Int32) = 0 ∧ (pm_R (d + 1) M_PW_noBar [.ref 0, .int (a1 / (100 : Int32))] H (pm_i (fun x2 H1 => (¬ x2 = 0 → Q (some (.int (-2000000000 : Int32))) H1) ∧ (x2 = 0 → ¬ (100 : Int32) = 0 ∧ (pm_R (d + 1) M_PW_noBar [.ref 0, .int (a1 - a1 / (100 : Int32) * (100 : Int32))] H1 (pm_i (fun x4 H3 => (¬ x4 = 0 → Q (some (.int (-2000000000 : Int32))) H3) ∧ (x4 = 0 → pm_R (d + 1) M_PW_outside [.int a2, .int (0 : Int32), .int (30 : Int32)] H3 (pm_i (fun x6 H5 => (¬ x6 = 0 → Q (some (.int (-2000000000 : Int32))) H5) ∧ (x6 = 0 → pm_R (d + 1) M_PW_outside [.int a3, .int (0 : Int32), .int (2 : Int32)] H5 (pm_i (fun x8 H7 => (x8 = 0 → ¬ (100 : Int32) = 0 ∧ (¬ (100 : Int32) = 0 ∧ (pm_R (d + 1) M_Ea_hearEachOther [.ref 25, .ref 1, .int (a1 / (100 : Int32)), .int (a1 - a1 / (100 : Int32) * (100 : Int32)), .int a2] H7 (pm_v (fun H9 => (a3 = (0 : Int32) → pm_R (d + 1) M_Ha_lead [.ref 8, .int (0 : Int32)] H9 (pm_i (fun x13 H12 => Q (some (.int x13)) H12))) ∧ (¬ a3 = (0 : Int32) → (a3 = (1 : Int32) → pm_R (d + 1) M_Ha_lead [.ref 8, .int (1 : Int32)] H9 (pm_i (fun x11 H10 => Q (some (.int x11)) H10))) ∧ (¬ a3 = (1 : Int32) → Q (some (.int (H9.1 25 0))) H9))))))) ∧ (¬ x8 = 0 → Q (some (.int (-2000000000 : Int32))) H7))))))))))))))) from ⟨fun q1 => (h.1 q1), fun q1 => ⟨(by decide), u_PW_noBar (a1 / (100 : Int32)) (u_PW_outside (a1 / (100 : Int32)) (0 : Int32) ((H.1 2 0) - (1 : Int32)) (⟨fun q2 => ⟨Or.inr rfl, ⟨Or.inr rfl, ⟨fun _ => ((h.2 q1).1 q2), fun z => absurd z (by decide)⟩⟩⟩, fun q2 => ⟨fun q3 => ⟨Or.inl rfl, ⟨Or.inl rfl, ⟨fun z => absurd (by decide) z, fun _ => ⟨(by decide), u_PW_noBar (a1 - a1 / (100 : Int32) * (100 : Int32)) (u_PW_outside (a1 - a1 / (100 : Int32) * (100 : Int32)) (0 : Int32) ((H.1 2 0) - (1 : Int32)) (⟨fun q4 => ⟨Or.inr rfl, ⟨Or.inr rfl, ⟨fun _ => ((((h.2 q1).2 q2).1 q3).1 q4), fun z => absurd z (by decide)⟩⟩⟩, fun q4 => ⟨fun q5 => ⟨Or.inl rfl, ⟨Or.inl rfl, ⟨fun z => absurd (by decide) z, fun _ => u_PW_outside a2 (0 : Int32) (30 : Int32) (⟨fun q6 => ⟨Or.inr rfl, ⟨fun _ => ((((((h.2 q1).2 q2).1 q3).2 q4).1 q5).1 q6), fun z => absurd z (by decide)⟩⟩, fun q6 => ⟨fun q7 => ⟨Or.inl rfl, ⟨fun z => absurd (by decide) z, fun _ => u_PW_outside a3 (0 : Int32) (2 : Int32) (⟨fun q8 => ⟨Or.inr rfl, ⟨fun z => absurd z (by decide), fun _ => ((((((((h.2 q1).2 q2).1 q3).2 q4).1 q5).2 q6).1 q7).1 q8)⟩⟩, fun q8 => ⟨fun q9 => ⟨Or.inl rfl, ⟨fun _ => ⟨(by decide), ⟨(by decide), pm_mv' (((((((((h.2 q1).2 q2).1 q3).2 q4).1 q5).2 q6).1 q7).2 q8).1 q9) (fun H41 z10 => ⟨fun q11 => u_Ha_lead_8 (0 : Int32) (⟨(pm_ik rfl), ⟨(pm_ik rfl), (z10.1 q11)⟩⟩), fun q11 => ⟨fun q12 => u_Ha_lead_8 (1 : Int32) (⟨(pm_ik rfl), ⟨(pm_ik rfl), ((z10.2 q11).1 q12)⟩⟩), fun q12 => ((z10.2 q11).2 q12)⟩⟩)⟩⟩, fun z => absurd (by decide) z⟩⟩, fun q9 => ⟨Or.inr rfl, ⟨fun z => absurd z (by decide), fun _ => (((((((((h.2 q1).2 q2).1 q3).2 q4).1 q5).2 q6).1 q7).2 q8).2 q9)⟩⟩⟩⟩)⟩⟩, fun q7 => ⟨Or.inr rfl, ⟨fun _ => (((((((h.2 q1).2 q2).1 q3).2 q4).1 q5).2 q6).2 q7), fun z => absurd z (by decide)⟩⟩⟩⟩)⟩⟩⟩, fun q5 => ⟨Or.inr rfl, ⟨Or.inr rfl, ⟨fun _ => (((((h.2 q1).2 q2).1 q3).2 q4).2 q5), fun z => absurd z (by decide)⟩⟩⟩⟩⟩))⟩⟩⟩⟩, fun q3 => ⟨Or.inr rfl, ⟨Or.inr rfl, ⟨fun _ => (((h.2 q1).2 q2).2 q3), fun z => absurd z (by decide)⟩⟩⟩⟩⟩))⟩⟩)
def T_PW_drawn : List pmE := [
  (0, [], .iload 2, 0, 0, 0),
  (1, [], .iconst 1, 0, 0, 0),
  (2, [], .iconst 30, 1, 0, 0),
  (4, [], .invokeinterface 135 13, 1, 73, 385),
  (7, [], .ifCond .ne 19, 0, 0, 0),
  (10, [], .iload 3, 0, 0, 0),
  (11, [], .iconst 0, 0, 0, 0),
  (12, [], .iconst 1, 0, 0, 0),
  (13, [], .invokeinterface 135 13, 1, 73, 385),
  (16, [], .ifCond .eq 21, 0, 0, 0),
  (19, [], .iconst (-1), 0, 0, 0),
  (20, [], .ireturn, 0, 0, 0),
  (21, [], .iload 1, 0, 0, 0),
  (22, [], .istore 4, 1, 0, 0),
  (24, [], .iconst 0, 0, 0, 0),
  (25, [], .istore 5, 1, 0, 0),
  (27, [], .iconst 0, 0, 0, 0),
  (28, [], .istore 6, 1, 0, 0),
  (30, [], .iconst 0, 0, 0, 0),
  (31, [], .istore 7, 1, 0, 0),
  (33, [0, 2, 3, 4, 5, 6, 7], .iload 7, 1, 0, 0),
  (35, [], .iload 2, 0, 0, 0),
  (36, [], .if_icmp .ge 129, 0, 0, 0),
  (39, [], .iconst 0, 0, 0, 0),
  (40, [], .istore 8, 1, 0, 0),
  (42, [], .iconst 0, 0, 0, 0),
  (43, [], .istore 9, 1, 0, 0),
  (45, [0, 2, 3, 4, 5, 6, 7, 8, 9], .iload 9, 1, 0, 0),
  (47, [], .aload 0, 0, 0, 0),
  (48, [], .getfield 513, 0, 20, 348),
  (51, [], .getfield 192, 0, 242, 113),
  (54, [], .if_icmp .ge 94, 0, 0, 0),
  (57, [], .iload 4, 1, 0, 0),
  (59, [], .iconst 1103515245, 4, 267, 818),
  (62, [], .imul, 0, 0, 0),
  (63, [], .iconst 12345, 2, 0, 0),
  (66, [], .iadd, 0, 0, 0),
  (67, [], .istore 4, 1, 0, 0),
  (69, [], .iload 8, 1, 0, 0),
  (71, [], .aload 0, 0, 0, 0),
  (72, [], .getfield 513, 0, 20, 348),
  (75, [], .iload 9, 1, 0, 0),
  (77, [], .iload 4, 1, 0, 0),
  (79, [], .iconst 8, 1, 0, 0),
  (81, [], .iushr, 0, 0, 0),
  (82, [], .invokeinterface 34 269, 0, 268, 819),
  (85, [], .iadd, 0, 0, 0),
  (86, [], .istore 8, 1, 0, 0),
  (88, [], .iinc 9 1, 0, 0, 0),
  (91, [], .goto 45, 0, 0, 0),
  (94, [], .iload 6, 1, 0, 0),
  (96, [], .iload 8, 1, 0, 0),
  (98, [], .iadd, 0, 0, 0),
  (99, [], .istore 6, 1, 0, 0),
  (101, [], .iload 5, 1, 0, 0),
  (103, [], .iload 8, 1, 0, 0),
  (105, [], .aload 0, 0, 0, 0),
  (106, [], .getfield 513, 0, 20, 348),
  (109, [], .getfield 192, 0, 242, 113),
  (112, [], .if_icmp .ne 119, 0, 0, 0),
  (115, [], .iconst 1, 0, 0, 0),
  (116, [], .goto 120, 0, 0, 0),
  (119, [], .iconst 0, 0, 0, 0),
  (120, [], .iadd, 0, 0, 0),
  (121, [], .istore 5, 1, 0, 0),
  (123, [], .iinc 7 1, 0, 0, 0),
  (126, [], .goto 33, 0, 0, 0),
  (129, [], .iload 3, 0, 0, 0),
  (130, [], .ifCond .ne 138, 0, 0, 0),
  (133, [], .iload 5, 1, 0, 0),
  (135, [], .goto 140, 0, 0, 0),
  (138, [], .iload 6, 1, 0, 0),
  (140, [], .ireturn, 0, 0, 0)]
theorem tk_PW_drawn : pm_okT M_PW_drawn T_PW_drawn = true := by decide +kernel
theorem ok_PW_drawn : pm_okm M_PW_drawn := pm_okm_of _ 817 76 815 816 (by decide +kernel)
set_option maxRecDepth 100000 in
set_option maxHeartbeats 4000000 in
theorem m_PW_drawn {d : Nat} {H : pmT} {Q : pmQ} (a1 : Int32) (a2 : Int32) (a3 : Int32)
    (h : (a2 < (1 : Int32) → Q (some (.int (-1 : Int32))) H) ∧ (¬ a2 < (1 : Int32) → (a2 ≤ (30 : Int32) → (a3 < (0 : Int32) → Q (some (.int (-1 : Int32))) H) ∧ (¬ a3 < (0 : Int32) → (a3 ≤ (1 : Int32) → pm_RW none (d + 1) M_PW_drawn Q 33 [(0, .ref 0), (2, .int a2), (3, .int a3), (4, .int a1), (5, .int (0 : Int32)), (6, .int (0 : Int32)), (7, .int (0 : Int32))] [] H) ∧ (¬ a3 ≤ (1 : Int32) → Q (some (.int (-1 : Int32))) H))) ∧ (¬ a2 ≤ (30 : Int32) → Q (some (.int (-1 : Int32))) H))) : pm_R (d + 1) M_PW_drawn [.ref 0, .int a1, .int a2, .int a3] H Q :=
  pm_walk (n := 19) ok_PW_drawn tk_PW_drawn rfl (Nat.le_of_ble_eq_true rfl) (show pm_R d M_PW_outside [.int a2, .int (1 : Int32), .int (30 : Int32)] H (pm_i (fun x2 H1 => (¬ x2 = 0 → Q (some (.int (-1 : Int32))) H1) ∧ (x2 = 0 → pm_R d M_PW_outside [.int a3, .int (0 : Int32), .int (1 : Int32)] H1 (pm_i (fun x4 H3 => (x4 = 0 → pm_RW none (d + 1) M_PW_drawn Q 33 [(0, .ref 0), (2, .int a2), (3, .int a3), (4, .int a1), (5, .int (0 : Int32)), (6, .int (0 : Int32)), (7, .int (0 : Int32))] [] H3) ∧ (¬ x4 = 0 → Q (some (.int (-1 : Int32))) H3)))))) from u_PW_outside a2 (1 : Int32) (30 : Int32) (⟨fun q1 => ⟨Or.inr rfl, ⟨fun _ => (h.1 q1), fun z => absurd z (by decide)⟩⟩, fun q1 => ⟨fun q2 => ⟨Or.inl rfl, ⟨fun z => absurd (by decide) z, fun _ => u_PW_outside a3 (0 : Int32) (1 : Int32) (⟨fun q3 => ⟨Or.inr rfl, ⟨fun z => absurd z (by decide), fun _ => (((h.2 q1).1 q2).1 q3)⟩⟩, fun q3 => ⟨fun q4 => ⟨Or.inl rfl, ⟨fun _ => ((((h.2 q1).1 q2).2 q3).1 q4), fun z => absurd (by decide) z⟩⟩, fun q4 => ⟨Or.inr rfl, ⟨fun z => absurd z (by decide), fun _ => ((((h.2 q1).1 q2).2 q3).2 q4)⟩⟩⟩⟩)⟩⟩, fun q2 => ⟨Or.inr rfl, ⟨fun _ => ((h.2 q1).2 q2), fun z => absurd z (by decide)⟩⟩⟩⟩))
set_option maxRecDepth 100000 in
set_option maxHeartbeats 4000000 in
theorem b_PW_drawn_33 {d : Nat} {H : pmT} {Q : pmQ} (v2 : Int32) (v3 : Int32) (v4 : Int32) (v5 : Int32) (v6 : Int32) (v7 : Int32)
    (h : (v2 ≤ v7 → (¬ v3 = 0 → Q (some (.int v6)) H) ∧ (v3 = 0 → Q (some (.int v5)) H)) ∧ (¬ v2 ≤ v7 → pm_RW none (d + 1) M_PW_drawn Q 45 [(0, .ref 0), (2, .int v2), (3, .int v3), (4, .int v4), (5, .int v5), (6, .int v6), (7, .int v7), (8, .int (0 : Int32)), (9, .int (0 : Int32))] [] H)) : pm_RW none (d + 1) M_PW_drawn Q 33 [(0, .ref 0), (2, .int v2), (3, .int v3), (4, .int v4), (5, .int v5), (6, .int v6), (7, .int v7)] [] H :=
  pm_body tk_PW_drawn 7 33 (show (v2 ≤ v7 → (¬ v3 = 0 → Q (some (.int v6)) H) ∧ (v3 = 0 → Q (some (.int v5)) H)) ∧ (¬ v2 ≤ v7 → pm_RW none (d + 1) M_PW_drawn Q 45 [(0, .ref 0), (2, .int v2), (3, .int v3), (4, .int v4), (5, .int v5), (6, .int v6), (7, .int v7), (8, .int (0 : Int32)), (9, .int (0 : Int32))] [] H) from ⟨fun q1 => ⟨fun q2 => ((h.1 q1).1 q2), fun q2 => ((h.1 q1).2 q2)⟩, fun q1 => (h.2 q1)⟩)
set_option maxRecDepth 100000 in
set_option maxHeartbeats 4000000 in
theorem b_PW_drawn_45 {d : Nat} {H : pmT} {Q : pmQ} (v2 : Int32) (v3 : Int32) (v4 : Int32) (v5 : Int32) (v6 : Int32) (v7 : Int32) (v8 : Int32) (v9 : Int32)
    (h : ((H.1 2 0) ≤ v9 → (¬ v8 = (H.1 2 0) → pm_RW none (d + 1) M_PW_drawn Q 33 [(0, .ref 0), (2, .int v2), (3, .int v3), (4, .int v4), (5, .int (v5 + (0 : Int32))), (6, .int (v6 + v8)), (7, .int (v7 + (1 : Int32)))] [] H) ∧ (v8 = (H.1 2 0) → pm_RW none (d + 1) M_PW_drawn Q 33 [(0, .ref 0), (2, .int v2), (3, .int v3), (4, .int v4), (5, .int (v5 + (1 : Int32))), (6, .int (v6 + v8)), (7, .int (v7 + (1 : Int32)))] [] H)) ∧ (¬ (H.1 2 0) ≤ v9 → pm_R d M_Ha_drawnRight [.ref 2, .int v9, .int ((((v4 * (1103515245 : Int32)) + (12345 : Int32)).toUInt32 >>> ((8 : Int32).toUInt32 &&& Int32.toUInt32 31)).toInt32)] H (pm_i (fun x2 H1 => pm_RW none (d + 1) M_PW_drawn Q 45 [(0, .ref 0), (2, .int v2), (3, .int v3), (4, .int ((v4 * (1103515245 : Int32)) + (12345 : Int32))), (5, .int v5), (6, .int v6), (7, .int v7), (8, .int (v8 + x2)), (9, .int (v9 + (1 : Int32)))] [] H1)))) : pm_RW none (d + 1) M_PW_drawn Q 45 [(0, .ref 0), (2, .int v2), (3, .int v3), (4, .int v4), (5, .int v5), (6, .int v6), (7, .int v7), (8, .int v8), (9, .int v9)] [] H :=
  pm_body tk_PW_drawn 23 45 (show ((H.1 2 0) ≤ v9 → (¬ v8 = (H.1 2 0) → pm_RW none (d + 1) M_PW_drawn Q 33 [(0, .ref 0), (2, .int v2), (3, .int v3), (4, .int v4), (5, .int (v5 + (0 : Int32))), (6, .int (v6 + v8)), (7, .int (v7 + (1 : Int32)))] [] H) ∧ (v8 = (H.1 2 0) → pm_RW none (d + 1) M_PW_drawn Q 33 [(0, .ref 0), (2, .int v2), (3, .int v3), (4, .int v4), (5, .int (v5 + (1 : Int32))), (6, .int (v6 + v8)), (7, .int (v7 + (1 : Int32)))] [] H)) ∧ (¬ (H.1 2 0) ≤ v9 → pm_R d M_Ha_drawnRight [.ref 2, .int v9, .int ((((v4 * (1103515245 : Int32)) + (12345 : Int32)).toUInt32 >>> ((8 : Int32).toUInt32 &&& Int32.toUInt32 31)).toInt32)] H (pm_i (fun x2 H1 => pm_RW none (d + 1) M_PW_drawn Q 45 [(0, .ref 0), (2, .int v2), (3, .int v3), (4, .int ((v4 * (1103515245 : Int32)) + (12345 : Int32))), (5, .int v5), (6, .int v6), (7, .int v7), (8, .int (v8 + x2)), (9, .int (v9 + (1 : Int32)))] [] H1))) from ⟨fun q1 => ⟨fun q2 => ((h.1 q1).1 q2), fun q2 => ((h.1 q1).2 q2)⟩, fun q1 => (h.2 q1)⟩)
def T_PW_play : List pmE := [
  (0, [], .aload 0, 0, 0, 0),
  (1, [], .iload 1, 0, 0, 0),
  (2, [], .invokeinterface 136 585, 0, 120, 427),
  (5, [], .ifCond .ne 17, 0, 0, 0),
  (8, [], .iload 2, 0, 0, 0),
  (9, [], .iconst 0, 0, 0, 0),
  (10, [], .iconst 1, 0, 0, 0),
  (11, [], .invokeinterface 135 13, 1, 73, 385),
  (14, [], .ifCond .eq 19, 0, 0, 0),
  (17, [], .iconst (-1), 0, 0, 0),
  (18, [], .ireturn, 0, 0, 0),
  (19, [], .aload 0, 0, 0, 0),
  (20, [], .getfield 512, 0, 10, 347),
  (23, [], .aload 0, 0, 0, 0),
  (24, [], .getfield 513, 0, 20, 348),
  (27, [], .iload 1, 0, 0, 0),
  (28, [], .iload 2, 0, 0, 0),
  (29, [], .invokeinterface 75 465, 0, 271, 827),
  (32, [], .istore 3, 0, 0, 0),
  (33, [], .aload 0, 0, 0, 0),
  (34, [], .getfield 519, 0, 55, 354),
  (37, [], .iconst 0, 0, 0, 0),
  (38, [], .dup2, 0, 0, 0),
  (39, [], .iaload, 0, 0, 0),
  (40, [], .iconst 1, 0, 0, 0),
  (41, [], .iadd, 0, 0, 0),
  (42, [], .iastore, 0, 0, 0),
  (43, [], .aload 0, 0, 0, 0),
  (44, [], .getfield 519, 0, 55, 354),
  (47, [], .iconst 1, 0, 0, 0),
  (48, [], .dup2, 0, 0, 0),
  (49, [], .iaload, 0, 0, 0),
  (50, [], .iload 3, 0, 0, 0),
  (51, [], .iadd, 0, 0, 0),
  (52, [], .iastore, 0, 0, 0),
  (53, [], .iload 3, 0, 0, 0),
  (54, [], .ireturn, 0, 0, 0)]
theorem tk_PW_play : pm_okT M_PW_play T_PW_play = true := by decide +kernel
theorem ok_PW_play : pm_okm M_PW_play := pm_okm_of _ 826 76 824 825 (by decide +kernel)
set_option maxRecDepth 100000 in
set_option maxHeartbeats 4000000 in
theorem m_PW_play {d : Nat} {H : pmT} {Q : pmQ} (a1 : Int32) (a2 : Int32)
    (h : (a1 < (0 : Int32) → Q (some (.int (-1 : Int32))) H) ∧ (¬ a1 < (0 : Int32) → (a1 ≤ ((H.1 2 0) - (1 : Int32)) → (a2 < (0 : Int32) → Q (some (.int (-1 : Int32))) H) ∧ (¬ a2 < (0 : Int32) → (a2 ≤ (1 : Int32) → pm_R (d + 1) M_Pr_playOnce [.ref 1, .ref 2, .int a1, .int a2] H (pm_i (fun x10 H9 => Q (some (.int x10)) ((pm_up (pm_up H9.1 35 0 ((H9.1 35 0) + (1 : Int32))) 35 1 ((H9.1 35 1) + x10)), H9.2)))) ∧ (¬ a2 ≤ (1 : Int32) → Q (some (.int (-1 : Int32))) H))) ∧ (¬ a1 ≤ ((H.1 2 0) - (1 : Int32)) → Q (some (.int (-1 : Int32))) H))) : pm_R (d + 2) M_PW_play [.ref 0, .int a1, .int a2] H Q :=
  pm_walk (n := 35) ok_PW_play tk_PW_play rfl (Nat.le_of_ble_eq_true rfl) (show pm_R (d + 1) M_PW_noBar [.ref 0, .int a1] H (pm_i (fun x2 H1 => (¬ x2 = 0 → Q (some (.int (-1 : Int32))) H1) ∧ (x2 = 0 → pm_R (d + 1) M_PW_outside [.int a2, .int (0 : Int32), .int (1 : Int32)] H1 (pm_i (fun x4 H3 => (x4 = 0 → pm_R (d + 1) M_Pr_playOnce [.ref 1, .ref 2, .int a1, .int a2] H3 (pm_i (fun x6 H5 => vp_in (0 : Int32) 5 ∧ (vp_in (0 : Int32) 5 ∧ (vp_in (1 : Int32) 5 ∧ (vp_in (1 : Int32) 5 ∧ (Q (some (.int x6)) ((pm_up (pm_up H5.1 35 0 ((H5.1 35 0) + (1 : Int32))) 35 1 ((H5.1 35 1) + x6)), H5.2)))))))) ∧ (¬ x4 = 0 → Q (some (.int (-1 : Int32))) H3)))))) from u_PW_noBar a1 (u_PW_outside a1 (0 : Int32) ((H.1 2 0) - (1 : Int32)) (⟨fun q1 => ⟨Or.inr rfl, ⟨Or.inr rfl, ⟨fun _ => (h.1 q1), fun z => absurd z (by decide)⟩⟩⟩, fun q1 => ⟨fun q2 => ⟨Or.inl rfl, ⟨Or.inl rfl, ⟨fun z => absurd (by decide) z, fun _ => u_PW_outside a2 (0 : Int32) (1 : Int32) (⟨fun q3 => ⟨Or.inr rfl, ⟨fun z => absurd z (by decide), fun _ => (((h.2 q1).1 q2).1 q3)⟩⟩, fun q3 => ⟨fun q4 => ⟨Or.inl rfl, ⟨fun _ => pm_mi ((((h.2 q1).1 q2).2 q3).1 q4) (fun x10 H9 z5 => ⟨(pm_ik rfl), ⟨(pm_ik rfl), ⟨(pm_ik rfl), ⟨(pm_ik rfl), z5⟩⟩⟩⟩), fun z => absurd (by decide) z⟩⟩, fun q4 => ⟨Or.inr rfl, ⟨fun z => absurd z (by decide), fun _ => ((((h.2 q1).1 q2).2 q3).2 q4)⟩⟩⟩⟩)⟩⟩⟩, fun q2 => ⟨Or.inr rfl, ⟨Or.inr rfl, ⟨fun _ => ((h.2 q1).2 q2), fun z => absurd z (by decide)⟩⟩⟩⟩⟩)))
def T_PW_night : List pmE := [
  (0, [], .aload 0, 0, 0, 0),
  (1, [], .getfield 512, 0, 10, 347),
  (4, [], .aload 0, 0, 0, 0),
  (5, [], .getfield 513, 0, 20, 348),
  (8, [], .aload 0, 0, 0, 0),
  (9, [], .getfield 512, 0, 10, 347),
  (12, [], .invokeinterface 72 453, 0, 274, 832),
  (15, [], .invokeinterface 79 460, 0, 277, 833),
  (18, [], .aload 0, 0, 0, 0),
  (19, [], .getfield 519, 0, 55, 354),
  (22, [], .iconst 2, 0, 0, 0),
  (23, [], .dup2, 0, 0, 0),
  (24, [], .iaload, 0, 0, 0),
  (25, [], .iconst 1, 0, 0, 0),
  (26, [], .iadd, 0, 0, 0),
  (27, [], .iastore, 0, 0, 0),
  (28, [], .aload 0, 0, 0, 0),
  (29, [], .getfield 519, 0, 55, 354),
  (32, [], .iconst 2, 0, 0, 0),
  (33, [], .iaload, 0, 0, 0),
  (34, [], .ireturn, 0, 0, 0)]
theorem tk_PW_night : pm_okT M_PW_night T_PW_night = true := by decide +kernel
theorem ok_PW_night : pm_okm M_PW_night := pm_okm_of _ 831 76 829 830 (by decide +kernel)
set_option maxRecDepth 100000 in
set_option maxHeartbeats 4000000 in
theorem m_PW_night {d : Nat} {H : pmT} {Q : pmQ} 
    (h : pm_R d M_Pr_sleepAll [.ref 1, .ref 2, .int (H.1 20 2)] H (pm_v (fun H1 => Q (some (.int ((H1.1 35 2) + (1 : Int32)))) ((pm_up H1.1 35 2 ((H1.1 35 2) + (1 : Int32))), H1.2)))) : pm_R (d + 1) M_PW_night [.ref 0] H Q :=
  pm_walk (n := 21) ok_PW_night tk_PW_night rfl (Nat.le_of_ble_eq_true rfl) (show pm_R d M_Pr_fades [.ref 1] H (pm_i (fun x2 H1 => pm_R d M_Pr_sleepAll [.ref 1, .ref 2, .int x2] H1 (pm_v (fun H3 => vp_in (2 : Int32) 5 ∧ (vp_in (2 : Int32) 5 ∧ (vp_in (2 : Int32) 5 ∧ (Q (some (.int ((H3.1 35 2) + (1 : Int32)))) ((pm_up H3.1 35 2 ((H3.1 35 2) + (1 : Int32))), H3.2)))))))) from u_Pr_fades  (⟨(pm_ik rfl), pm_mv' h (fun H1 z1 => ⟨(pm_ik rfl), ⟨(pm_ik rfl), ⟨(pm_ik rfl), z1⟩⟩⟩)⟩))
def T_PW_thursday : List pmE := [
  (0, [], .aload 0, 0, 0, 0),
  (1, [], .getfield 513, 0, 20, 348),
  (4, [], .invokeinterface 32 261, 0, 172, 613),
  (7, [], .istore 1, 0, 0, 0),
  (8, [], .aload 0, 0, 0, 0),
  (9, [], .getfield 519, 0, 55, 354),
  (12, [], .iconst 3, 0, 0, 0),
  (13, [], .dup2, 0, 0, 0),
  (14, [], .iaload, 0, 0, 0),
  (15, [], .iconst 1, 0, 0, 0),
  (16, [], .iadd, 0, 0, 0),
  (17, [], .iastore, 0, 0, 0),
  (18, [], .aload 0, 0, 0, 0),
  (19, [], .getfield 519, 0, 55, 354),
  (22, [], .iconst 4, 0, 0, 0),
  (23, [], .aload 0, 0, 0, 0),
  (24, [], .getfield 519, 0, 55, 354),
  (27, [], .iconst 4, 0, 0, 0),
  (28, [], .iaload, 0, 0, 0),
  (29, [], .iload 1, 0, 0, 0),
  (30, [], .fadd, 0, 281, 838),
  (33, [], .iastore, 0, 0, 0),
  (34, [], .iload 1, 0, 0, 0),
  (35, [], .ireturn, 0, 0, 0)]
theorem tk_PW_thursday : pm_okT M_PW_thursday T_PW_thursday = true := by decide +kernel
theorem ok_PW_thursday : pm_okm M_PW_thursday := pm_okm_of _ 837 76 835 836 (by decide +kernel)
set_option maxRecDepth 100000 in
set_option maxHeartbeats 4000000 in
theorem m_PW_thursday {d : Nat} {H : pmT} {Q : pmQ} 
    (h : pm_R d M_Ha_lessonCount [.ref 2] H (pm_i (fun x2 H1 => Q (some (.int x2)) ((pm_up (pm_up H1.1 35 3 ((H1.1 35 3) + (1 : Int32))) 35 4 (pm_max (H1.1 35 4) x2)), H1.2)))) : pm_R (d + 1) M_PW_thursday [.ref 0] H Q :=
  pm_walk (n := 24) ok_PW_thursday tk_PW_thursday rfl (Nat.le_of_ble_eq_true rfl) (show pm_R d M_Ha_lessonCount [.ref 2] H (pm_i (fun x2 H1 => vp_in (3 : Int32) 5 ∧ (vp_in (3 : Int32) 5 ∧ (vp_in (4 : Int32) 5 ∧ (vp_in (4 : Int32) 5 ∧ (Q (some (.int x2)) ((pm_up (pm_up H1.1 35 3 ((H1.1 35 3) + (1 : Int32))) 35 4 (pm_max (H1.1 35 4) x2)), H1.2))))))) from pm_mi h (fun x2 H1 z1 => ⟨(pm_ik rfl), ⟨(pm_ik rfl), ⟨(pm_ik rfl), ⟨(pm_ik rfl), z1⟩⟩⟩⟩))
def T_PW_led : List pmE := [
  (0, [], .iload 1, 0, 0, 0),
  (1, [], .iconst 0, 0, 0, 0),
  (2, [], .iconst 4, 0, 0, 0),
  (3, [], .invokeinterface 135 13, 1, 73, 385),
  (6, [], .ifCond .eq 13, 0, 0, 0),
  (9, [], .iconst (-1), 0, 0, 0),
  (10, [], .goto 19, 0, 0, 0),
  (13, [], .aload 0, 0, 0, 0),
  (14, [], .getfield 519, 0, 55, 354),
  (17, [], .iload 1, 0, 0, 0),
  (18, [], .iaload, 0, 0, 0),
  (19, [], .ireturn, 0, 0, 0)]
theorem tk_PW_led : pm_okT M_PW_led T_PW_led = true := by decide +kernel
theorem ok_PW_led : pm_okm M_PW_led := pm_okm_of _ 842 76 840 841 (by decide +kernel)
set_option maxRecDepth 100000 in
set_option maxHeartbeats 4000000 in
theorem m_PW_led {d : Nat} {H : pmT} {Q : pmQ} (a1 : Int32)
    (h : (a1 < (0 : Int32) → Q (some (.int (-1 : Int32))) H) ∧ (¬ a1 < (0 : Int32) → (a1 ≤ (4 : Int32) → vp_in a1 5 ∧ (Q (some (.int (H.1 35 a1.toNatClampNeg))) H)) ∧ (¬ a1 ≤ (4 : Int32) → Q (some (.int (-1 : Int32))) H))) : pm_R (d + 1) M_PW_led [.ref 0, .int a1] H Q :=
  pm_walk (n := 10) ok_PW_led tk_PW_led rfl (Nat.le_of_ble_eq_true rfl) (show pm_R d M_PW_outside [.int a1, .int (0 : Int32), .int (4 : Int32)] H (pm_i (fun x2 H1 => (x2 = 0 → vp_in a1 5 ∧ (Q (some (.int (H1.1 35 a1.toNatClampNeg))) H1)) ∧ (¬ x2 = 0 → Q (some (.int (-1 : Int32))) H1))) from u_PW_outside a1 (0 : Int32) (4 : Int32) (⟨fun q1 => ⟨Or.inr rfl, ⟨fun z => absurd z (by decide), fun _ => (h.1 q1)⟩⟩, fun q1 => ⟨fun q2 => ⟨Or.inl rfl, ⟨fun _ => ⟨((h.2 q1).1 q2).1, ((h.2 q1).1 q2).2⟩, fun z => absurd (by decide) z⟩⟩, fun q2 => ⟨Or.inr rfl, ⟨fun z => absurd z (by decide), fun _ => ((h.2 q1).2 q2)⟩⟩⟩⟩))
def T_PW_image : List pmE := [
  (0, [], .aload 0, 0, 0, 0),
  (1, [], .getfield 520, 0, 62, 355),
  (4, [], .aload 0, 0, 0, 0),
  (5, [], .getfield 513, 0, 20, 348),
  (8, [], .invokeinterface 25 264, 0, 286, 847),
  (11, [], .aload 0, 0, 0, 0),
  (12, [], .getfield 519, 0, 55, 354),
  (15, [], .iconst 0, 0, 0, 0),
  (16, [], .aload 0, 0, 0, 0),
  (17, [], .getfield 521, 0, 65, 356),
  (20, [], .iconst 0, 0, 0, 0),
  (21, [], .iconst 5, 0, 0, 0),
  (22, [], .invokedynamic 0, 0, 290, 848),
  (25, [], .aload 0, 0, 0, 0),
  (26, [], .iconst 1, 0, 0, 0),
  (27, [], .putfield 522, 0, 68, 357),
  (30, [], .aload 0, 0, 0, 0),
  (31, [], .getfield 519, 0, 55, 354),
  (34, [], .iconst 0, 0, 0, 0),
  (35, [], .iaload, 0, 0, 0),
  (36, [], .ireturn, 0, 0, 0)]
theorem tk_PW_image : pm_okT M_PW_image T_PW_image = true := by decide +kernel
theorem ok_PW_image : pm_okm M_PW_image := pm_okm_of _ 846 76 844 845 (by decide +kernel)
set_option maxRecDepth 100000 in
set_option maxHeartbeats 4000000 in
theorem m_PW_image {d : Nat} {H : pmT} {Q : pmQ} 
    (h : pm_R d M_Ha_takeAll [.ref 36, .ref 2] H (pm_v (fun H1 => Q (some (.int (H1.1 35 0))) ((pm_up (va_up H1.1 42 (va_cpy (H1.1 35) (H1.1 42) 0 0 5)) 0 10 (1 : Int32)), H1.2)))) : pm_R (d + 1) M_PW_image [.ref 0] H Q :=
  pm_walk (n := 21) ok_PW_image tk_PW_image rfl (Nat.le_of_ble_eq_true rfl) (show pm_R d M_Ha_takeAll [.ref 36, .ref 2] H (pm_v (fun H1 => pm_cpin (0 : Int32) (0 : Int32) (5 : Int32) 5 5 ∧ (((1 : Int32) = 0 ∨ (1 : Int32) = 1) ∧ (vp_in (0 : Int32) 5 ∧ (Q (some (.int (H1.1 35 0))) ((pm_up (va_up H1.1 42 (va_cpy (H1.1 35) (H1.1 42) 0 0 5)) 0 10 (1 : Int32)), H1.2)))))) from pm_mv' h (fun H1 z1 => ⟨(pm_ck rfl), ⟨Or.inr rfl, ⟨(pm_ik rfl), z1⟩⟩⟩))
def T_PW_back : List pmE := [
  (0, [], .aload 0, 0, 0, 0),
  (1, [], .getfield 522, 0, 68, 357),
  (4, [], .ifCond .ne 10, 0, 0, 0),
  (7, [], .iconst (-5), 1, 0, 0),
  (9, [], .ireturn, 0, 0, 0),
  (10, [], .aload 0, 0, 0, 0),
  (11, [], .getfield 513, 0, 20, 348),
  (14, [], .aload 0, 0, 0, 0),
  (15, [], .getfield 520, 0, 62, 355),
  (18, [], .invokeinterface 28 264, 0, 296, 853),
  (21, [], .aload 0, 0, 0, 0),
  (22, [], .getfield 521, 0, 65, 356),
  (25, [], .iconst 0, 0, 0, 0),
  (26, [], .aload 0, 0, 0, 0),
  (27, [], .getfield 519, 0, 55, 354),
  (30, [], .iconst 0, 0, 0, 0),
  (31, [], .iconst 5, 0, 0, 0),
  (32, [], .invokedynamic 0, 0, 290, 848),
  (35, [], .aload 0, 0, 0, 0),
  (36, [], .getfield 519, 0, 55, 354),
  (39, [], .iconst 0, 0, 0, 0),
  (40, [], .iaload, 0, 0, 0),
  (41, [], .ireturn, 0, 0, 0)]
theorem tk_PW_back : pm_okT M_PW_back T_PW_back = true := by decide +kernel
theorem ok_PW_back : pm_okm M_PW_back := pm_okm_of _ 852 76 850 851 (by decide +kernel)
set_option maxRecDepth 100000 in
set_option maxHeartbeats 4000000 in
theorem m_PW_back {d : Nat} {H : pmT} {Q : pmQ} 
    (h : (¬ (H.1 0 10) = 0 → pm_R d M_Ha_layBack [.ref 2, .ref 36] H (pm_v (fun H1 => Q (some (.int ((va_cpy (H1.1 42) (H1.1 35) 0 0 5) 0))) ((va_up H1.1 35 (va_cpy (H1.1 42) (H1.1 35) 0 0 5)), H1.2)))) ∧ ((H.1 0 10) = 0 → Q (some (.int (-5 : Int32))) H)) : pm_R (d + 1) M_PW_back [.ref 0] H Q :=
  pm_walk (n := 21) ok_PW_back tk_PW_back rfl (Nat.le_of_ble_eq_true rfl) (show (¬ (H.1 0 10) = 0 → pm_R d M_Ha_layBack [.ref 2, .ref 36] H (pm_v (fun H1 => pm_cpin (0 : Int32) (0 : Int32) (5 : Int32) 5 5 ∧ (vp_in (0 : Int32) 5 ∧ (Q (some (.int ((va_cpy (H1.1 42) (H1.1 35) 0 0 5) 0))) ((va_up H1.1 35 (va_cpy (H1.1 42) (H1.1 35) 0 0 5)), H1.2)))))) ∧ ((H.1 0 10) = 0 → Q (some (.int (-5 : Int32))) H) from ⟨fun q1 => pm_mv' (h.1 q1) (fun H1 z2 => ⟨(pm_ck rfl), ⟨(pm_ik rfl), z2⟩⟩), fun q1 => (h.2 q1)⟩)
def T_PW_undo : List pmE := [
  (0, [], .aload 0, 0, 0, 0),
  (1, [], .getfield 516, 0, 38, 351),
  (4, [], .invokeinterface 12 133, 0, 299, 861),
  (7, [], .istore 1, 0, 0, 0),
  (8, [], .iload 1, 0, 0, 0),
  (9, [], .ifCond .ge 15, 0, 0, 0),
  (12, [], .iconst (-5), 1, 0, 0),
  (14, [], .ireturn, 0, 0, 0),
  (15, [], .aload 0, 0, 0, 0),
  (16, [], .aload 0, 0, 0, 0),
  (17, [], .getfield 516, 0, 38, 351),
  (20, [], .getfield 64, 0, 302, 270),
  (23, [], .iload 1, 0, 0, 0),
  (24, [], .iaload, 0, 0, 0),
  (25, [], .aload 0, 0, 0, 0),
  (26, [], .getfield 516, 0, 38, 351),
  (29, [], .getfield 65, 0, 305, 272),
  (32, [], .iload 1, 0, 0, 0),
  (33, [], .iaload, 0, 0, 0),
  (34, [], .aload 0, 0, 0, 0),
  (35, [], .getfield 516, 0, 38, 351),
  (38, [], .getfield 66, 0, 308, 274),
  (41, [], .iload 1, 0, 0, 0),
  (42, [], .iaload, 0, 0, 0),
  (43, [], .invokeinterface 140 592, 0, 113, 435),
  (46, [], .aload 0, 0, 0, 0),
  (47, [], .getfield 516, 0, 38, 351),
  (50, [], .getfield 68, 0, 311, 278),
  (53, [], .ireturn, 0, 0, 0)]
theorem tk_PW_undo : pm_okT M_PW_undo T_PW_undo = true := by decide +kernel
theorem ok_PW_undo : pm_okm M_PW_undo := pm_okm_of _ 860 76 858 859 (by decide +kernel)
set_option maxRecDepth 100000 in
set_option maxHeartbeats 4000000 in
theorem m_PW_undo {d : Nat} {H : pmT} {Q : pmQ} 
    (h : (0 < (H.1 26 4) → (0 ≤ ((H.1 26 4) - (1 : Int32)) → vp_in ((H.1 26 4) - (1 : Int32)) 40 ∧ (((H.1 28 (((H.1 26 4) - (1 : Int32)).toNatClampNeg)) = (0 : Int32) → vp_in (H.1 27 (((H.1 26 4) - (1 : Int32)).toNatClampNeg)) 12 ∧ (Q (some (.int ((H.1 26 4) - (1 : Int32)))) ((pm_up (pm_up H.1 26 4 ((H.1 26 4) - (1 : Int32))) 3 ((H.1 27 (((H.1 26 4) - (1 : Int32)).toNatClampNeg)).toNatClampNeg) (H.1 29 (((H.1 26 4) - (1 : Int32)).toNatClampNeg))), H.2))) ∧ (¬ (H.1 28 (((H.1 26 4) - (1 : Int32)).toNatClampNeg)) = (0 : Int32) → ((H.1 28 (((H.1 26 4) - (1 : Int32)).toNatClampNeg)) = (1 : Int32) → vp_in (H.1 27 (((H.1 26 4) - (1 : Int32)).toNatClampNeg)) 12 ∧ (Q (some (.int ((H.1 26 4) - (1 : Int32)))) ((pm_up (pm_up H.1 26 4 ((H.1 26 4) - (1 : Int32))) 4 ((H.1 27 (((H.1 26 4) - (1 : Int32)).toNatClampNeg)).toNatClampNeg) (H.1 29 (((H.1 26 4) - (1 : Int32)).toNatClampNeg))), H.2))) ∧ (¬ (H.1 28 (((H.1 26 4) - (1 : Int32)).toNatClampNeg)) = (1 : Int32) → ((H.1 28 (((H.1 26 4) - (1 : Int32)).toNatClampNeg)) = (2 : Int32) → vp_in (H.1 27 (((H.1 26 4) - (1 : Int32)).toNatClampNeg)) 12 ∧ (Q (some (.int ((H.1 26 4) - (1 : Int32)))) ((pm_up (pm_up H.1 26 4 ((H.1 26 4) - (1 : Int32))) 5 ((H.1 27 (((H.1 26 4) - (1 : Int32)).toNatClampNeg)).toNatClampNeg) (H.1 29 (((H.1 26 4) - (1 : Int32)).toNatClampNeg))), H.2))) ∧ (¬ (H.1 28 (((H.1 26 4) - (1 : Int32)).toNatClampNeg)) = (2 : Int32) → vp_in ((H.1 28 (((H.1 26 4) - (1 : Int32)).toNatClampNeg)) - (3 : Int32)) 5 ∧ (Q (some (.int ((H.1 26 4) - (1 : Int32)))) ((pm_up (pm_up H.1 26 4 ((H.1 26 4) - (1 : Int32))) 20 (((H.1 28 (((H.1 26 4) - (1 : Int32)).toNatClampNeg)) - (3 : Int32)).toNatClampNeg) (H.1 29 (((H.1 26 4) - (1 : Int32)).toNatClampNeg))), H.2))))))) ∧ (¬ 0 ≤ ((H.1 26 4) - (1 : Int32)) → Q (some (.int (-5 : Int32))) ((pm_up H.1 26 4 ((H.1 26 4) - (1 : Int32))), H.2))) ∧ (¬ 0 < (H.1 26 4) → Q (some (.int (-5 : Int32))) H)) : pm_R (d + 1) M_PW_undo [.ref 0] H Q :=
  pm_walk (n := 27) ok_PW_undo tk_PW_undo rfl (Nat.le_of_ble_eq_true rfl) (show pm_R d M_Ch_takeBack [.ref 26] H (pm_i (fun x2 H1 => (0 ≤ x2 → vp_in x2 40 ∧ (vp_in x2 40 ∧ (vp_in x2 40 ∧ (pm_R d M_PW_write [.ref 0, .int (H1.1 27 x2.toNatClampNeg), .int (H1.1 28 x2.toNatClampNeg), .int (H1.1 29 x2.toNatClampNeg)] H1 (pm_v (fun H3 => Q (some (.int (H3.1 26 4))) H3)))))) ∧ (¬ 0 ≤ x2 → Q (some (.int (-5 : Int32))) H1))) from u_Ch_takeBack  (⟨fun q1 => ⟨fun q2 => ⟨((h.1 q1).1 q2).1, ⟨((h.1 q1).1 q2).1, ⟨((h.1 q1).1 q2).1, u_PW_write (H.1 27 (((H.1 26 4) - (1 : Int32)).toNatClampNeg)) (H.1 28 (((H.1 26 4) - (1 : Int32)).toNatClampNeg)) (H.1 29 (((H.1 26 4) - (1 : Int32)).toNatClampNeg)) (⟨fun q3 => ⟨(((h.1 q1).1 q2).2.1 q3).1, (((h.1 q1).1 q2).2.1 q3).2⟩, fun q3 => ⟨fun q4 => ⟨((((h.1 q1).1 q2).2.2 q3).1 q4).1, ((((h.1 q1).1 q2).2.2 q3).1 q4).2⟩, fun q4 => ⟨fun q5 => ⟨(((((h.1 q1).1 q2).2.2 q3).2 q4).1 q5).1, (((((h.1 q1).1 q2).2.2 q3).2 q4).1 q5).2⟩, fun q5 => ⟨(((((h.1 q1).1 q2).2.2 q3).2 q4).2 q5).1, (((((h.1 q1).1 q2).2.2 q3).2 q4).2 q5).2⟩⟩⟩⟩)⟩⟩⟩, fun q2 => ((h.1 q1).2 q2)⟩, fun q1 => ⟨fun z => absurd z (by decide), fun _ => (h.2 q1)⟩⟩))
def T_PW_redo : List pmE := [
  (0, [], .aload 0, 0, 0, 0),
  (1, [], .getfield 516, 0, 38, 351),
  (4, [], .invokeinterface 13 133, 0, 314, 869),
  (7, [], .istore 1, 0, 0, 0),
  (8, [], .iload 1, 0, 0, 0),
  (9, [], .ifCond .ge 15, 0, 0, 0),
  (12, [], .iconst (-5), 1, 0, 0),
  (14, [], .ireturn, 0, 0, 0),
  (15, [], .aload 0, 0, 0, 0),
  (16, [], .aload 0, 0, 0, 0),
  (17, [], .getfield 516, 0, 38, 351),
  (20, [], .getfield 64, 0, 302, 270),
  (23, [], .iload 1, 0, 0, 0),
  (24, [], .iaload, 0, 0, 0),
  (25, [], .aload 0, 0, 0, 0),
  (26, [], .getfield 516, 0, 38, 351),
  (29, [], .getfield 65, 0, 305, 272),
  (32, [], .iload 1, 0, 0, 0),
  (33, [], .iaload, 0, 0, 0),
  (34, [], .aload 0, 0, 0, 0),
  (35, [], .getfield 516, 0, 38, 351),
  (38, [], .getfield 67, 0, 317, 276),
  (41, [], .iload 1, 0, 0, 0),
  (42, [], .iaload, 0, 0, 0),
  (43, [], .invokeinterface 140 592, 0, 113, 435),
  (46, [], .aload 0, 0, 0, 0),
  (47, [], .getfield 516, 0, 38, 351),
  (50, [], .getfield 69, 0, 320, 280),
  (53, [], .aload 0, 0, 0, 0),
  (54, [], .getfield 516, 0, 38, 351),
  (57, [], .getfield 68, 0, 311, 278),
  (60, [], .isub, 0, 0, 0),
  (61, [], .ireturn, 0, 0, 0)]
theorem tk_PW_redo : pm_okT M_PW_redo T_PW_redo = true := by decide +kernel
theorem ok_PW_redo : pm_okm M_PW_redo := pm_okm_of _ 868 76 866 867 (by decide +kernel)
set_option maxRecDepth 100000 in
set_option maxHeartbeats 4000000 in
theorem m_PW_redo {d : Nat} {H : pmT} {Q : pmQ} 
    (h : ((H.1 26 4) < (H.1 26 5) → (0 ≤ (((H.1 26 4) + (1 : Int32)) - (1 : Int32)) → vp_in (((H.1 26 4) + (1 : Int32)) - (1 : Int32)) 40 ∧ (((H.1 28 ((((H.1 26 4) + (1 : Int32)) - (1 : Int32)).toNatClampNeg)) = (0 : Int32) → vp_in (H.1 27 ((((H.1 26 4) + (1 : Int32)) - (1 : Int32)).toNatClampNeg)) 12 ∧ (Q (some (.int ((H.1 26 5) - ((H.1 26 4) + (1 : Int32))))) ((pm_up (pm_up H.1 26 4 ((H.1 26 4) + (1 : Int32))) 3 ((H.1 27 ((((H.1 26 4) + (1 : Int32)) - (1 : Int32)).toNatClampNeg)).toNatClampNeg) (H.1 30 ((((H.1 26 4) + (1 : Int32)) - (1 : Int32)).toNatClampNeg))), H.2))) ∧ (¬ (H.1 28 ((((H.1 26 4) + (1 : Int32)) - (1 : Int32)).toNatClampNeg)) = (0 : Int32) → ((H.1 28 ((((H.1 26 4) + (1 : Int32)) - (1 : Int32)).toNatClampNeg)) = (1 : Int32) → vp_in (H.1 27 ((((H.1 26 4) + (1 : Int32)) - (1 : Int32)).toNatClampNeg)) 12 ∧ (Q (some (.int ((H.1 26 5) - ((H.1 26 4) + (1 : Int32))))) ((pm_up (pm_up H.1 26 4 ((H.1 26 4) + (1 : Int32))) 4 ((H.1 27 ((((H.1 26 4) + (1 : Int32)) - (1 : Int32)).toNatClampNeg)).toNatClampNeg) (H.1 30 ((((H.1 26 4) + (1 : Int32)) - (1 : Int32)).toNatClampNeg))), H.2))) ∧ (¬ (H.1 28 ((((H.1 26 4) + (1 : Int32)) - (1 : Int32)).toNatClampNeg)) = (1 : Int32) → ((H.1 28 ((((H.1 26 4) + (1 : Int32)) - (1 : Int32)).toNatClampNeg)) = (2 : Int32) → vp_in (H.1 27 ((((H.1 26 4) + (1 : Int32)) - (1 : Int32)).toNatClampNeg)) 12 ∧ (Q (some (.int ((H.1 26 5) - ((H.1 26 4) + (1 : Int32))))) ((pm_up (pm_up H.1 26 4 ((H.1 26 4) + (1 : Int32))) 5 ((H.1 27 ((((H.1 26 4) + (1 : Int32)) - (1 : Int32)).toNatClampNeg)).toNatClampNeg) (H.1 30 ((((H.1 26 4) + (1 : Int32)) - (1 : Int32)).toNatClampNeg))), H.2))) ∧ (¬ (H.1 28 ((((H.1 26 4) + (1 : Int32)) - (1 : Int32)).toNatClampNeg)) = (2 : Int32) → vp_in ((H.1 28 ((((H.1 26 4) + (1 : Int32)) - (1 : Int32)).toNatClampNeg)) - (3 : Int32)) 5 ∧ (Q (some (.int ((H.1 26 5) - ((H.1 26 4) + (1 : Int32))))) ((pm_up (pm_up H.1 26 4 ((H.1 26 4) + (1 : Int32))) 20 (((H.1 28 ((((H.1 26 4) + (1 : Int32)) - (1 : Int32)).toNatClampNeg)) - (3 : Int32)).toNatClampNeg) (H.1 30 ((((H.1 26 4) + (1 : Int32)) - (1 : Int32)).toNatClampNeg))), H.2))))))) ∧ (¬ 0 ≤ (((H.1 26 4) + (1 : Int32)) - (1 : Int32)) → Q (some (.int (-5 : Int32))) ((pm_up H.1 26 4 ((H.1 26 4) + (1 : Int32))), H.2))) ∧ (¬ (H.1 26 4) < (H.1 26 5) → Q (some (.int (-5 : Int32))) H)) : pm_R (d + 1) M_PW_redo [.ref 0] H Q :=
  pm_walk (n := 31) ok_PW_redo tk_PW_redo rfl (Nat.le_of_ble_eq_true rfl) (show pm_R d M_Ch_takeAgain [.ref 26] H (pm_i (fun x2 H1 => (0 ≤ x2 → vp_in x2 40 ∧ (vp_in x2 40 ∧ (vp_in x2 40 ∧ (pm_R d M_PW_write [.ref 0, .int (H1.1 27 x2.toNatClampNeg), .int (H1.1 28 x2.toNatClampNeg), .int (H1.1 30 x2.toNatClampNeg)] H1 (pm_v (fun H3 => Q (some (.int ((H3.1 26 5) - (H3.1 26 4)))) H3)))))) ∧ (¬ 0 ≤ x2 → Q (some (.int (-5 : Int32))) H1))) from u_Ch_takeAgain  (⟨fun q1 => ⟨fun q2 => ⟨((h.1 q1).1 q2).1, ⟨((h.1 q1).1 q2).1, ⟨((h.1 q1).1 q2).1, u_PW_write (H.1 27 ((((H.1 26 4) + (1 : Int32)) - (1 : Int32)).toNatClampNeg)) (H.1 28 ((((H.1 26 4) + (1 : Int32)) - (1 : Int32)).toNatClampNeg)) (H.1 30 ((((H.1 26 4) + (1 : Int32)) - (1 : Int32)).toNatClampNeg)) (⟨fun q3 => ⟨(((h.1 q1).1 q2).2.1 q3).1, (((h.1 q1).1 q2).2.1 q3).2⟩, fun q3 => ⟨fun q4 => ⟨((((h.1 q1).1 q2).2.2 q3).1 q4).1, ((((h.1 q1).1 q2).2.2 q3).1 q4).2⟩, fun q4 => ⟨fun q5 => ⟨(((((h.1 q1).1 q2).2.2 q3).2 q4).1 q5).1, (((((h.1 q1).1 q2).2.2 q3).2 q4).1 q5).2⟩, fun q5 => ⟨(((((h.1 q1).1 q2).2.2 q3).2 q4).2 q5).1, (((((h.1 q1).1 q2).2.2 q3).2 q4).2 q5).2⟩⟩⟩⟩)⟩⟩⟩, fun q2 => ((h.1 q1).2 q2)⟩, fun q1 => ⟨fun z => absurd z (by decide), fun _ => (h.2 q1)⟩⟩))
def T_PW_body : List pmE := [
  (0, [], .iload 1, 0, 0, 0),
  (1, [], .iconst 0, 0, 0, 0),
  (2, [], .iconst 7, 1, 0, 0),
  (4, [], .invokeinterface 135 13, 1, 73, 385),
  (7, [], .ifCond .eq 14, 0, 0, 0),
  (10, [], .iconst (-1), 0, 0, 0),
  (11, [], .goto 22, 0, 0, 0),
  (14, [], .aload 0, 0, 0, 0),
  (15, [], .getfield 517, 0, 45, 352),
  (18, [], .iload 1, 0, 0, 0),
  (19, [], .invokeinterface 1 73, 0, 323, 877),
  (22, [], .ireturn, 0, 0, 0)]
theorem tk_PW_body : pm_okT M_PW_body T_PW_body = true := by decide +kernel
theorem ok_PW_body : pm_okm M_PW_body := pm_okm_of _ 876 76 874 875 (by decide +kernel)
set_option maxRecDepth 100000 in
set_option maxHeartbeats 4000000 in
theorem m_PW_body {d : Nat} {H : pmT} {Q : pmQ} (a1 : Int32)
    (h : (a1 < (0 : Int32) → Q (some (.int (-1 : Int32))) H) ∧ (¬ a1 < (0 : Int32) → (a1 ≤ (7 : Int32) → ((H.1 31 1) < (50 : Int32) → vp_in (H.1 31 1) 50 ∧ (Q (some (.int (((H.1 31 1) + (1 : Int32)) - (1 : Int32)))) ((pm_up (pm_up H.1 32 ((H.1 31 1).toNatClampNeg) a1) 31 1 ((H.1 31 1) + (1 : Int32))), H.2))) ∧ (¬ (H.1 31 1) < (50 : Int32) → Q (some (.int (-3 : Int32))) H)) ∧ (¬ a1 ≤ (7 : Int32) → Q (some (.int (-1 : Int32))) H))) : pm_R (d + 1) M_PW_body [.ref 0, .int a1] H Q :=
  pm_walk (n := 10) ok_PW_body tk_PW_body rfl (Nat.le_of_ble_eq_true rfl) (show pm_R d M_PW_outside [.int a1, .int (0 : Int32), .int (7 : Int32)] H (pm_i (fun x2 H1 => (x2 = 0 → pm_R d M_Bo_add [.ref 31, .int a1] H1 (pm_i (fun x4 H3 => Q (some (.int x4)) H3))) ∧ (¬ x2 = 0 → Q (some (.int (-1 : Int32))) H1))) from u_PW_outside a1 (0 : Int32) (7 : Int32) (⟨fun q1 => ⟨Or.inr rfl, ⟨fun z => absurd z (by decide), fun _ => (h.1 q1)⟩⟩, fun q1 => ⟨fun q2 => ⟨Or.inl rfl, ⟨fun _ => u_Bo_add a1 (⟨fun q3 => ⟨(((h.2 q1).1 q2).1 q3).1, (((h.2 q1).1 q2).1 q3).2⟩, fun q3 => (((h.2 q1).1 q2).2 q3)⟩), fun z => absurd (by decide) z⟩⟩, fun q2 => ⟨Or.inr rfl, ⟨fun z => absurd z (by decide), fun _ => ((h.2 q1).2 q2)⟩⟩⟩⟩))
def T_PW_act : List pmE := [
  (0, [], .aload 0, 0, 0, 0),
  (1, [], .getfield 517, 0, 45, 352),
  (4, [], .iload 1, 0, 0, 0),
  (5, [], .iload 2, 0, 0, 0),
  (6, [], .iload 3, 0, 0, 0),
  (7, [], .invokeinterface 5 81, 0, 325, 885),
  (10, [], .ireturn, 0, 0, 0)]
theorem tk_PW_act : pm_okT M_PW_act T_PW_act = true := by decide +kernel
theorem ok_PW_act : pm_okm M_PW_act := pm_okm_of _ 884 76 882 883 (by decide +kernel)
set_option maxRecDepth 100000 in
set_option maxHeartbeats 4000000 in
theorem m_PW_act {d : Nat} {H : pmT} {Q : pmQ} (a1 : Int32) (a2 : Int32) (a3 : Int32)
    (h : pm_R d M_Bo_perform [.ref 31, .int a1, .int a2, .int a3] H (pm_i (fun x2 H1 => Q (some (.int x2)) H1))) : pm_R (d + 1) M_PW_act [.ref 0, .int a1, .int a2, .int a3] H Q :=
  pm_walk (n := 7) ok_PW_act tk_PW_act rfl (Nat.le_of_ble_eq_true rfl) (show pm_R d M_Bo_perform [.ref 31, .int a1, .int a2, .int a3] H (pm_i (fun x2 H1 => Q (some (.int x2)) H1)) from h)
def T_PW_trace : List pmE := [
  (0, [], .aload 0, 0, 0, 0),
  (1, [], .getfield 517, 0, 45, 352),
  (4, [], .iload 1, 0, 0, 0),
  (5, [], .invokeinterface 4 73, 0, 329, 913),
  (8, [], .ireturn, 0, 0, 0)]
theorem tk_PW_trace : pm_okT M_PW_trace T_PW_trace = true := by decide +kernel
theorem ok_PW_trace : pm_okm M_PW_trace := pm_okm_of _ 912 76 910 911 (by decide +kernel)
set_option maxRecDepth 100000 in
set_option maxHeartbeats 4000000 in
theorem m_PW_trace {d : Nat} {H : pmT} {Q : pmQ} (a1 : Int32)
    (h : (a1 < (0 : Int32) → Q (some (.int (-1 : Int32))) H) ∧ (¬ a1 < (0 : Int32) → (a1 ≤ ((pm_min (H.1 31 3) (24 : Int32)) - (1 : Int32)) → vp_in a1 24 ∧ (Q (some (.int (H.1 33 a1.toNatClampNeg))) H)) ∧ (¬ a1 ≤ ((pm_min (H.1 31 3) (24 : Int32)) - (1 : Int32)) → Q (some (.int (-1 : Int32))) H))) : pm_R (d + 2) M_PW_trace [.ref 0, .int a1] H Q :=
  pm_walk (n := 5) ok_PW_trace tk_PW_trace rfl (Nat.le_of_ble_eq_true rfl) (show pm_R (d + 1) M_Bo_traced [.ref 31, .int a1] H (pm_i (fun x2 H1 => Q (some (.int x2)) H1)) from u_Bo_traced a1 (u_PW_outside a1 (0 : Int32) ((pm_min (H.1 31 3) (24 : Int32)) - (1 : Int32)) (⟨fun q1 => ⟨Or.inr rfl, ⟨fun z => absurd z (by decide), fun _ => (h.1 q1)⟩⟩, fun q1 => ⟨fun q2 => ⟨Or.inl rfl, ⟨fun _ => ⟨((h.2 q1).1 q2).1, ((h.2 q1).1 q2).2⟩, fun z => absurd (by decide) z⟩⟩, fun q2 => ⟨Or.inr rfl, ⟨fun z => absurd z (by decide), fun _ => ((h.2 q1).2 q2)⟩⟩⟩⟩)))
def T_PW_keep : List pmE := [
  (0, [], .iload 1, 0, 0, 0),
  (1, [], .invokeinterface 137 5, 1, 81, 396),
  (4, [], .ifCond .ne 24, 0, 0, 0),
  (7, [], .iload 2, 0, 0, 0),
  (8, [], .iconst (-1), 0, 0, 0),
  (9, [], .aload 0, 0, 0, 0),
  (10, [], .getfield 517, 0, 45, 352),
  (13, [], .getfield 1, 0, 332, 302),
  (16, [], .iconst 1, 0, 0, 0),
  (17, [], .isub, 0, 0, 0),
  (18, [], .invokeinterface 135 13, 1, 73, 385),
  (21, [], .ifCond .eq 26, 0, 0, 0),
  (24, [], .iconst (-1), 0, 0, 0),
  (25, [], .ireturn, 0, 0, 0),
  (26, [], .aload 0, 0, 0, 0),
  (27, [], .getfield 518, 0, 51, 353),
  (30, [], .iload 1, 0, 0, 0),
  (31, [], .aaload, 0, 0, 0),
  (32, [], .iload 2, 0, 0, 0),
  (33, [], .invokeinterface 85 520, 0, 333, 922),
  (36, [], .iconst 1, 0, 0, 0),
  (37, [], .ireturn, 0, 0, 0)]
theorem tk_PW_keep : pm_okT M_PW_keep T_PW_keep = true := by decide +kernel
theorem ok_PW_keep : pm_okm M_PW_keep := pm_okm_of _ 921 76 919 920 (by decide +kernel)
set_option maxRecDepth 100000 in
set_option maxHeartbeats 4000000 in
theorem m_PW_keep {d : Nat} {H : pmT} {Q : pmQ} (a1 : Int32) (a2 : Int32)
    (h : (a1 < (0 : Int32) → Q (some (.int (-1 : Int32))) H) ∧ (¬ a1 < (0 : Int32) → (a1 ≤ (5 : Int32) → (a2 < (-1 : Int32) → Q (some (.int (-1 : Int32))) H) ∧ (¬ a2 < (-1 : Int32) → (a2 ≤ ((H.1 31 1) - (1 : Int32)) → vp_in a1 6 ∧ (Q (some (.int (1 : Int32))) ((pm_up (pm_up (pm_up H.1 (43 + 2 * a1.toNatClampNeg) 0 a2) (43 + 2 * a1.toNatClampNeg) 1 (-1 : Int32)) (43 + 2 * a1.toNatClampNeg) 2 (0 : Int32)), H.2))) ∧ (¬ a2 ≤ ((H.1 31 1) - (1 : Int32)) → Q (some (.int (-1 : Int32))) H))) ∧ (¬ a1 ≤ (5 : Int32) → Q (some (.int (-1 : Int32))) H))) : pm_R (d + 2) M_PW_keep [.ref 0, .int a1, .int a2] H Q :=
  pm_walk (n := 20) ok_PW_keep tk_PW_keep rfl (Nat.le_of_ble_eq_true rfl) (show pm_R (d + 1) M_PW_noShelf [.int a1] H (pm_i (fun x2 H1 => (¬ x2 = 0 → Q (some (.int (-1 : Int32))) H1) ∧ (x2 = 0 → pm_R (d + 1) M_PW_outside [.int a2, .int (-1 : Int32), .int ((H1.1 31 1) - (1 : Int32))] H1 (pm_i (fun x4 H3 => (x4 = 0 → vp_in a1 6 ∧ (pm_chkO (43 + 2 * a1.toNatClampNeg) 7 (pm_R (d + 1) M_Sh_holdBody [.ref (43 + 2 * a1.toNatClampNeg), .int a2] H3 (pm_v (fun H5 => Q (some (.int (1 : Int32))) H5))))) ∧ (¬ x4 = 0 → Q (some (.int (-1 : Int32))) H3)))))) from u_PW_noShelf a1 (u_PW_outside a1 (0 : Int32) (5 : Int32) (⟨fun q1 => ⟨Or.inr rfl, ⟨Or.inr rfl, ⟨fun _ => (h.1 q1), fun z => absurd z (by decide)⟩⟩⟩, fun q1 => ⟨fun q2 => ⟨Or.inl rfl, ⟨Or.inl rfl, ⟨fun z => absurd (by decide) z, fun _ => u_PW_outside a2 (-1 : Int32) ((H.1 31 1) - (1 : Int32)) (⟨fun q3 => ⟨Or.inr rfl, ⟨fun z => absurd z (by decide), fun _ => (((h.2 q1).1 q2).1 q3)⟩⟩, fun q3 => ⟨fun q4 => ⟨Or.inl rfl, ⟨fun _ => ⟨((((h.2 q1).1 q2).2 q3).1 q4).1, pm_mkO (pm_shO ((((h.2 q1).1 q2).2 q3).1 q4).1) (u_Sh_holdBody (43 + 2 * a1.toNatClampNeg) a2 (pm_mkO (pm_shO ((((h.2 q1).1 q2).2 q3).1 q4).1) (pm_mkO (pm_shO ((((h.2 q1).1 q2).2 q3).1 q4).1) (pm_mkO (pm_shO ((((h.2 q1).1 q2).2 q3).1 q4).1) (((((h.2 q1).1 q2).2 q3).1 q4).2)))))⟩, fun z => absurd (by decide) z⟩⟩, fun q4 => ⟨Or.inr rfl, ⟨fun z => absurd z (by decide), fun _ => ((((h.2 q1).1 q2).2 q3).2 q4)⟩⟩⟩⟩)⟩⟩⟩, fun q2 => ⟨Or.inr rfl, ⟨Or.inr rfl, ⟨fun _ => ((h.2 q1).2 q2), fun z => absurd z (by decide)⟩⟩⟩⟩⟩)))
def T_PW_row : List pmE := [
  (0, [], .iload 1, 0, 0, 0),
  (1, [], .invokeinterface 137 5, 1, 81, 396),
  (4, [], .ifCond .ne 22, 0, 0, 0),
  (7, [], .iload 2, 0, 0, 0),
  (8, [], .iconst 0, 0, 0, 0),
  (9, [], .iconst 4, 0, 0, 0),
  (10, [], .invokeinterface 135 13, 1, 73, 385),
  (13, [], .ifCond .ne 22, 0, 0, 0),
  (16, [], .iload 3, 0, 0, 0),
  (17, [], .iconst 60, 1, 0, 0),
  (19, [], .if_icmp .le 24, 0, 0, 0),
  (22, [], .iconst (-1), 0, 0, 0),
  (23, [], .ireturn, 0, 0, 0),
  (24, [], .iload 3, 0, 0, 0),
  (25, [], .ifCond .ge 31, 0, 0, 0),
  (28, [], .iconst (-14), 1, 0, 0),
  (30, [], .ireturn, 0, 0, 0),
  (31, [], .aload 0, 0, 0, 0),
  (32, [], .getfield 518, 0, 51, 353),
  (35, [], .iload 1, 0, 0, 0),
  (36, [], .aaload, 0, 0, 0),
  (37, [], .iload 2, 0, 0, 0),
  (38, [], .iload 3, 0, 0, 0),
  (39, [], .invokeinterface 86 524, 0, 337, 930),
  (42, [], .iconst 1, 0, 0, 0),
  (43, [], .ireturn, 0, 0, 0)]
theorem tk_PW_row : pm_okT M_PW_row T_PW_row = true := by decide +kernel
theorem ok_PW_row : pm_okm M_PW_row := pm_okm_of _ 929 76 927 928 (by decide +kernel)
set_option maxRecDepth 100000 in
set_option maxHeartbeats 4000000 in
theorem m_PW_row {d : Nat} {H : pmT} {Q : pmQ} (a1 : Int32) (a2 : Int32) (a3 : Int32)
    (h : (a1 < (0 : Int32) → Q (some (.int (-1 : Int32))) H) ∧ (¬ a1 < (0 : Int32) → (a1 ≤ (5 : Int32) → (a2 < (0 : Int32) → Q (some (.int (-1 : Int32))) H) ∧ (¬ a2 < (0 : Int32) → (a2 ≤ (4 : Int32) → (a3 ≤ (60 : Int32) → (0 ≤ a3 → vp_in a1 6 ∧ (pm_R (d + 1) M_Sh_holdRow [.ref (43 + 2 * a1.toNatClampNeg), .int a2, .int a3] H (pm_v (fun H5 => Q (some (.int (1 : Int32))) H5)))) ∧ (¬ 0 ≤ a3 → Q (some (.int (-14 : Int32))) H)) ∧ (¬ a3 ≤ (60 : Int32) → Q (some (.int (-1 : Int32))) H)) ∧ (¬ a2 ≤ (4 : Int32) → Q (some (.int (-1 : Int32))) H))) ∧ (¬ a1 ≤ (5 : Int32) → Q (some (.int (-1 : Int32))) H))) : pm_R (d + 2) M_PW_row [.ref 0, .int a1, .int a2, .int a3] H Q :=
  pm_walk (n := 22) ok_PW_row tk_PW_row rfl (Nat.le_of_ble_eq_true rfl) (show pm_R (d + 1) M_PW_noShelf [.int a1] H (pm_i (fun x2 H1 => (¬ x2 = 0 → Q (some (.int (-1 : Int32))) H1) ∧ (x2 = 0 → pm_R (d + 1) M_PW_outside [.int a2, .int (0 : Int32), .int (4 : Int32)] H1 (pm_i (fun x4 H3 => (¬ x4 = 0 → Q (some (.int (-1 : Int32))) H3) ∧ (x4 = 0 → (a3 ≤ (60 : Int32) → (0 ≤ a3 → vp_in a1 6 ∧ (pm_chkO (43 + 2 * a1.toNatClampNeg) 7 (pm_R (d + 1) M_Sh_holdRow [.ref (43 + 2 * a1.toNatClampNeg), .int a2, .int a3] H3 (pm_v (fun H5 => Q (some (.int (1 : Int32))) H5))))) ∧ (¬ 0 ≤ a3 → Q (some (.int (-14 : Int32))) H3)) ∧ (¬ a3 ≤ (60 : Int32) → Q (some (.int (-1 : Int32))) H3))))))) from u_PW_noShelf a1 (u_PW_outside a1 (0 : Int32) (5 : Int32) (⟨fun q1 => ⟨Or.inr rfl, ⟨Or.inr rfl, ⟨fun _ => (h.1 q1), fun z => absurd z (by decide)⟩⟩⟩, fun q1 => ⟨fun q2 => ⟨Or.inl rfl, ⟨Or.inl rfl, ⟨fun z => absurd (by decide) z, fun _ => u_PW_outside a2 (0 : Int32) (4 : Int32) (⟨fun q3 => ⟨Or.inr rfl, ⟨fun _ => (((h.2 q1).1 q2).1 q3), fun z => absurd z (by decide)⟩⟩, fun q3 => ⟨fun q4 => ⟨Or.inl rfl, ⟨fun z => absurd (by decide) z, fun _ => ⟨fun q5 => ⟨fun q6 => ⟨((((((h.2 q1).1 q2).2 q3).1 q4).1 q5).1 q6).1, pm_mkO (pm_shO ((((((h.2 q1).1 q2).2 q3).1 q4).1 q5).1 q6).1) (((((((h.2 q1).1 q2).2 q3).1 q4).1 q5).1 q6).2)⟩, fun q6 => ((((((h.2 q1).1 q2).2 q3).1 q4).1 q5).2 q6)⟩, fun q5 => (((((h.2 q1).1 q2).2 q3).1 q4).2 q5)⟩⟩⟩, fun q4 => ⟨Or.inr rfl, ⟨fun _ => ((((h.2 q1).1 q2).2 q3).2 q4), fun z => absurd z (by decide)⟩⟩⟩⟩)⟩⟩⟩, fun q2 => ⟨Or.inr rfl, ⟨Or.inr rfl, ⟨fun _ => ((h.2 q1).2 q2), fun z => absurd z (by decide)⟩⟩⟩⟩⟩)))
def T_PW_put : List pmE := [
  (0, [], .iload 1, 0, 0, 0),
  (1, [], .invokeinterface 137 5, 1, 81, 396),
  (4, [], .ifCond .eq 9, 0, 0, 0),
  (7, [], .iconst (-1), 0, 0, 0),
  (8, [], .ireturn, 0, 0, 0),
  (9, [], .aload 0, 0, 0, 0),
  (10, [], .getfield 518, 0, 51, 353),
  (13, [], .iload 1, 0, 0, 0),
  (14, [], .aaload, 0, 0, 0),
  (15, [], .astore 5, 1, 0, 0),
  (17, [], .aload 5, 1, 0, 0),
  (19, [], .iload 2, 0, 0, 0),
  (20, [], .iconst 1, 0, 0, 0),
  (21, [], .invokeinterface 87 525, 0, 341, 938),
  (24, [], .istore 6, 1, 0, 0),
  (26, [], .iload 6, 1, 0, 0),
  (28, [], .ifCond .ne 38, 0, 0, 0),
  (31, [], .aload 5, 1, 0, 0),
  (33, [], .iload 2, 0, 0, 0),
  (34, [], .lload 3, 0, 0, 0),
  (35, [], .invokeinterface 89 524, 0, 344, 943),
  (38, [], .iload 6, 1, 0, 0),
  (40, [], .ifCond .ne 47, 0, 0, 0),
  (43, [], .iconst 1, 0, 0, 0),
  (44, [], .goto 49, 0, 0, 0),
  (47, [], .iload 6, 1, 0, 0),
  (49, [], .ireturn, 0, 0, 0)]
theorem tk_PW_put : pm_okT M_PW_put T_PW_put = true := by decide +kernel
theorem ok_PW_put : pm_okm M_PW_put := pm_okm_of _ 937 76 935 936 (by decide +kernel)
set_option maxRecDepth 100000 in
set_option maxHeartbeats 4000000 in
theorem m_PW_put {d : Nat} {H : pmT} {Q : pmQ} (a1 : Int32) (a2 : Int32) (a3 : Int64)
    (h : (a1 < (0 : Int32) → Q (some (.int (-1 : Int32))) H) ∧ (¬ a1 < (0 : Int32) → (a1 ≤ (5 : Int32) → vp_in a1 6 ∧ ((0 ≤ (H.1 (43 + 2 * a1.toNatClampNeg) 0) → ((H.1 (43 + 2 * a1.toNatClampNeg) 1) = (-1 : Int32) → Q (some (.int (-12 : Int32))) H) ∧ (¬ (H.1 (43 + 2 * a1.toNatClampNeg) 1) = (-1 : Int32) → (a2 < 0 → Q (some (.int (-13 : Int32))) H) ∧ (¬ a2 < 0 → ((H.1 (43 + 2 * a1.toNatClampNeg) 2) < a2 → Q (some (.int (-13 : Int32))) H) ∧ (¬ (H.1 (43 + 2 * a1.toNatClampNeg) 2) < a2 → ((1 : Int32) ≤ ((H.1 (43 + 2 * a1.toNatClampNeg) 2) - a2) → (a2 < (0 : Int32) → Q (some (.int (1 : Int32))) H) ∧ (¬ a2 < (0 : Int32) → (a2 ≤ ((H.1 (43 + 2 * a1.toNatClampNeg) 2) - (1 : Int32)) → ((H.1 (43 + 2 * a1.toNatClampNeg) 1) = (0 : Int32) → vp_in a2 60 ∧ (Q (some (.int (1 : Int32))) (H.1, (pm_upL H.2.1 ((43 + 2 * a1.toNatClampNeg) + 1) a2.toNatClampNeg a3.toInt32.toInt8.toInt32.toInt64), H.2.2))) ∧ (¬ (H.1 (43 + 2 * a1.toNatClampNeg) 1) = (0 : Int32) → ((H.1 (43 + 2 * a1.toNatClampNeg) 1) = (1 : Int32) → vp_in a2 60 ∧ (Q (some (.int (1 : Int32))) (H.1, (pm_upL H.2.1 ((43 + 2 * a1.toNatClampNeg) + 1) a2.toNatClampNeg a3.toInt32.toInt16.toInt32.toInt64), H.2.2))) ∧ (¬ (H.1 (43 + 2 * a1.toNatClampNeg) 1) = (1 : Int32) → ((H.1 (43 + 2 * a1.toNatClampNeg) 1) = (2 : Int32) → vp_in a2 60 ∧ (Q (some (.int (1 : Int32))) (H.1, (pm_upL H.2.1 ((43 + 2 * a1.toNatClampNeg) + 1) a2.toNatClampNeg a3.toInt32.toInt64), H.2.2))) ∧ (¬ (H.1 (43 + 2 * a1.toNatClampNeg) 1) = (2 : Int32) → ((H.1 (43 + 2 * a1.toNatClampNeg) 1) = (3 : Int32) → vp_in a2 60 ∧ (Q (some (.int (1 : Int32))) (H.1, (pm_upL H.2.1 ((43 + 2 * a1.toNatClampNeg) + 1) a2.toNatClampNeg a3), H.2.2))) ∧ (¬ (H.1 (43 + 2 * a1.toNatClampNeg) 1) = (3 : Int32) → ((H.1 (43 + 2 * a1.toNatClampNeg) 1) = (4 : Int32) → ((lg_cmp a3 (0 : Int64)) = 0 → vp_in a2 60 ∧ (Q (some (.int (1 : Int32))) (H.1, (pm_upL H.2.1 ((43 + 2 * a1.toNatClampNeg) + 1) a2.toNatClampNeg (0 : Int64)), H.2.2))) ∧ (¬ (lg_cmp a3 (0 : Int64)) = 0 → vp_in a2 60 ∧ (Q (some (.int (1 : Int32))) (H.1, (pm_upL H.2.1 ((43 + 2 * a1.toNatClampNeg) + 1) a2.toNatClampNeg (1 : Int64)), H.2.2)))) ∧ (¬ (H.1 (43 + 2 * a1.toNatClampNeg) 1) = (4 : Int32) → vp_in a2 60 ∧ (Q (some (.int (1 : Int32))) (H.1, (pm_upL H.2.1 ((43 + 2 * a1.toNatClampNeg) + 1) a2.toNatClampNeg a3), H.2.2)))))))) ∧ (¬ a2 ≤ ((H.1 (43 + 2 * a1.toNatClampNeg) 2) - (1 : Int32)) → Q (some (.int (1 : Int32))) H))) ∧ (¬ (1 : Int32) ≤ ((H.1 (43 + 2 * a1.toNatClampNeg) 2) - a2) → Q (some (.int (-13 : Int32))) H))))) ∧ (¬ 0 ≤ (H.1 (43 + 2 * a1.toNatClampNeg) 0) → (¬ (H.1 (43 + 2 * a1.toNatClampNeg) 1) = (-1 : Int32) → (a2 < 0 → Q (some (.int (-13 : Int32))) H) ∧ (¬ a2 < 0 → ((H.1 (43 + 2 * a1.toNatClampNeg) 2) < a2 → Q (some (.int (-13 : Int32))) H) ∧ (¬ (H.1 (43 + 2 * a1.toNatClampNeg) 2) < a2 → ((1 : Int32) ≤ ((H.1 (43 + 2 * a1.toNatClampNeg) 2) - a2) → (a2 < (0 : Int32) → Q (some (.int (1 : Int32))) H) ∧ (¬ a2 < (0 : Int32) → (a2 ≤ ((H.1 (43 + 2 * a1.toNatClampNeg) 2) - (1 : Int32)) → ((H.1 (43 + 2 * a1.toNatClampNeg) 1) = (0 : Int32) → vp_in a2 60 ∧ (Q (some (.int (1 : Int32))) (H.1, (pm_upL H.2.1 ((43 + 2 * a1.toNatClampNeg) + 1) a2.toNatClampNeg a3.toInt32.toInt8.toInt32.toInt64), H.2.2))) ∧ (¬ (H.1 (43 + 2 * a1.toNatClampNeg) 1) = (0 : Int32) → ((H.1 (43 + 2 * a1.toNatClampNeg) 1) = (1 : Int32) → vp_in a2 60 ∧ (Q (some (.int (1 : Int32))) (H.1, (pm_upL H.2.1 ((43 + 2 * a1.toNatClampNeg) + 1) a2.toNatClampNeg a3.toInt32.toInt16.toInt32.toInt64), H.2.2))) ∧ (¬ (H.1 (43 + 2 * a1.toNatClampNeg) 1) = (1 : Int32) → ((H.1 (43 + 2 * a1.toNatClampNeg) 1) = (2 : Int32) → vp_in a2 60 ∧ (Q (some (.int (1 : Int32))) (H.1, (pm_upL H.2.1 ((43 + 2 * a1.toNatClampNeg) + 1) a2.toNatClampNeg a3.toInt32.toInt64), H.2.2))) ∧ (¬ (H.1 (43 + 2 * a1.toNatClampNeg) 1) = (2 : Int32) → ((H.1 (43 + 2 * a1.toNatClampNeg) 1) = (3 : Int32) → vp_in a2 60 ∧ (Q (some (.int (1 : Int32))) (H.1, (pm_upL H.2.1 ((43 + 2 * a1.toNatClampNeg) + 1) a2.toNatClampNeg a3), H.2.2))) ∧ (¬ (H.1 (43 + 2 * a1.toNatClampNeg) 1) = (3 : Int32) → ((H.1 (43 + 2 * a1.toNatClampNeg) 1) = (4 : Int32) → ((lg_cmp a3 (0 : Int64)) = 0 → vp_in a2 60 ∧ (Q (some (.int (1 : Int32))) (H.1, (pm_upL H.2.1 ((43 + 2 * a1.toNatClampNeg) + 1) a2.toNatClampNeg (0 : Int64)), H.2.2))) ∧ (¬ (lg_cmp a3 (0 : Int64)) = 0 → vp_in a2 60 ∧ (Q (some (.int (1 : Int32))) (H.1, (pm_upL H.2.1 ((43 + 2 * a1.toNatClampNeg) + 1) a2.toNatClampNeg (1 : Int64)), H.2.2)))) ∧ (¬ (H.1 (43 + 2 * a1.toNatClampNeg) 1) = (4 : Int32) → vp_in a2 60 ∧ (Q (some (.int (1 : Int32))) (H.1, (pm_upL H.2.1 ((43 + 2 * a1.toNatClampNeg) + 1) a2.toNatClampNeg a3), H.2.2)))))))) ∧ (¬ a2 ≤ ((H.1 (43 + 2 * a1.toNatClampNeg) 2) - (1 : Int32)) → Q (some (.int (1 : Int32))) H))) ∧ (¬ (1 : Int32) ≤ ((H.1 (43 + 2 * a1.toNatClampNeg) 2) - a2) → Q (some (.int (-13 : Int32))) H)))) ∧ ((H.1 (43 + 2 * a1.toNatClampNeg) 1) = (-1 : Int32) → Q (some (.int (-11 : Int32))) H)))) ∧ (¬ a1 ≤ (5 : Int32) → Q (some (.int (-1 : Int32))) H))) : pm_R (d + 2) M_PW_put [.ref 0, .int a1, .int a2, .long a3] H Q :=
  pm_walk (n := 24) ok_PW_put tk_PW_put rfl (Nat.le_of_ble_eq_true rfl) (show pm_R (d + 1) M_PW_noShelf [.int a1] H (pm_i (fun x2 H1 => (x2 = 0 → vp_in a1 6 ∧ (pm_chkO (43 + 2 * a1.toNatClampNeg) 7 (pm_R (d + 1) M_Sh_refusalOfPlaces [.ref (43 + 2 * a1.toNatClampNeg), .int a2, .int (1 : Int32)] H1 (pm_i (fun x4 H3 => (¬ x4 = 0 → (¬ x4 = 0 → Q (some (.int x4)) H3) ∧ (x4 = 0 → Q (some (.int (1 : Int32))) H3)) ∧ (x4 = 0 → pm_chkO (43 + 2 * a1.toNatClampNeg) 7 (pm_R (d + 1) M_Sh_set [.ref (43 + 2 * a1.toNatClampNeg), .int a2, .long a3] H3 (pm_v (fun H5 => (¬ x4 = 0 → Q (some (.int x4)) H5) ∧ (x4 = 0 → Q (some (.int (1 : Int32))) H5)))))))))) ∧ (¬ x2 = 0 → Q (some (.int (-1 : Int32))) H1))) from u_PW_noShelf a1 (u_PW_outside a1 (0 : Int32) (5 : Int32) (⟨fun q1 => ⟨Or.inr rfl, ⟨Or.inr rfl, ⟨fun z => absurd z (by decide), fun _ => (h.1 q1)⟩⟩⟩, fun q1 => ⟨fun q2 => ⟨Or.inl rfl, ⟨Or.inl rfl, ⟨fun _ => ⟨((h.2 q1).1 q2).1, pm_mkO (pm_shO ((h.2 q1).1 q2).1) (u_Sh_refusalOfPlaces (43 + 2 * a1.toNatClampNeg) a2 (1 : Int32) (pm_mkO (pm_shO ((h.2 q1).1 q2).1) (u_Sh_isEmpty (43 + 2 * a1.toNatClampNeg) (pm_mkO (pm_shO ((h.2 q1).1 q2).1) (⟨fun q3 => ⟨Or.inl rfl, ⟨fun _ => pm_mkO (pm_shO ((h.2 q1).1 q2).1) (u_Sh_isRow (43 + 2 * a1.toNatClampNeg) (pm_mkO (pm_shO ((h.2 q1).1 q2).1) (⟨fun q4 => ⟨Or.inl rfl, ⟨fun z => absurd (by decide) z, fun _ => ⟨fun _ => ⟨fun _ => ((((h.2 q1).1 q2).2.1 q3).1 q4), fun z => absurd z (by decide)⟩, fun z => absurd z (by decide)⟩⟩⟩, fun q4 => ⟨Or.inr rfl, ⟨fun _ => ⟨fun q5 => ⟨fun _ => ⟨fun _ => (((((h.2 q1).1 q2).2.1 q3).2 q4).1 q5), fun z => absurd z (by decide)⟩, fun z => absurd z (by decide)⟩, fun q5 => pm_mkO (pm_shO ((h.2 q1).1 q2).1) (⟨fun q6 => ⟨fun _ => ⟨fun _ => ((((((h.2 q1).1 q2).2.1 q3).2 q4).2 q5).1 q6), fun z => absurd z (by decide)⟩, fun z => absurd z (by decide)⟩, fun q6 => ⟨fun z => absurd z (by decide), fun _ => pm_mkO (pm_shO ((h.2 q1).1 q2).1) (⟨fun q7 => ⟨fun z => absurd (by decide) z, fun _ => pm_mkO (pm_shO ((h.2 q1).1 q2).1) (u_Sh_set (43 + 2 * a1.toNatClampNeg) a2 a3 (pm_mkO (pm_shO ((h.2 q1).1 q2).1) (u_PW_outside a2 (0 : Int32) ((H.1 (43 + 2 * a1.toNatClampNeg) 2) - (1 : Int32)) (⟨fun q8 => ⟨Or.inr rfl, ⟨fun _ => ⟨fun z => absurd (by decide) z, fun _ => ((((((((h.2 q1).1 q2).2.1 q3).2 q4).2 q5).2 q6).1 q7).1 q8)⟩, fun z => absurd z (by decide)⟩⟩, fun q8 => ⟨fun q9 => ⟨Or.inl rfl, ⟨fun z => absurd (by decide) z, fun _ => pm_mkO (pm_shO ((h.2 q1).1 q2).1) (pm_mkO (pm_shO ((h.2 q1).1 q2).1) (u_Sh_lowestBits (43 + 2 * a1.toNatClampNeg) a3 (pm_mkO (pm_shO ((h.2 q1).1 q2).1) (⟨fun q10 => pm_mkA (pm_shA ((h.2 q1).1 q2).1) (⟨((((((((((h.2 q1).1 q2).2.1 q3).2 q4).2 q5).2 q6).1 q7).2 q8).1 q9).1 q10).1, ⟨fun z => absurd (by decide) z, fun _ => ((((((((((h.2 q1).1 q2).2.1 q3).2 q4).2 q5).2 q6).1 q7).2 q8).1 q9).1 q10).2⟩⟩), fun q10 => ⟨fun q11 => pm_mkA (pm_shA ((h.2 q1).1 q2).1) (⟨(((((((((((h.2 q1).1 q2).2.1 q3).2 q4).2 q5).2 q6).1 q7).2 q8).1 q9).2 q10).1 q11).1, ⟨fun z => absurd (by decide) z, fun _ => (((((((((((h.2 q1).1 q2).2.1 q3).2 q4).2 q5).2 q6).1 q7).2 q8).1 q9).2 q10).1 q11).2⟩⟩), fun q11 => ⟨fun q12 => pm_mkA (pm_shA ((h.2 q1).1 q2).1) (⟨((((((((((((h.2 q1).1 q2).2.1 q3).2 q4).2 q5).2 q6).1 q7).2 q8).1 q9).2 q10).2 q11).1 q12).1, ⟨fun z => absurd (by decide) z, fun _ => ((((((((((((h.2 q1).1 q2).2.1 q3).2 q4).2 q5).2 q6).1 q7).2 q8).1 q9).2 q10).2 q11).1 q12).2⟩⟩), fun q12 => ⟨fun q13 => pm_mkA (pm_shA ((h.2 q1).1 q2).1) (⟨(((((((((((((h.2 q1).1 q2).2.1 q3).2 q4).2 q5).2 q6).1 q7).2 q8).1 q9).2 q10).2 q11).2 q12).1 q13).1, ⟨fun z => absurd (by decide) z, fun _ => (((((((((((((h.2 q1).1 q2).2.1 q3).2 q4).2 q5).2 q6).1 q7).2 q8).1 q9).2 q10).2 q11).2 q12).1 q13).2⟩⟩), fun q13 => ⟨fun q14 => ⟨fun q15 => pm_mkA (pm_shA ((h.2 q1).1 q2).1) (⟨(((((((((((((((h.2 q1).1 q2).2.1 q3).2 q4).2 q5).2 q6).1 q7).2 q8).1 q9).2 q10).2 q11).2 q12).2 q13).1 q14).1 q15).1, ⟨fun z => absurd (by decide) z, fun _ => (((((((((((((((h.2 q1).1 q2).2.1 q3).2 q4).2 q5).2 q6).1 q7).2 q8).1 q9).2 q10).2 q11).2 q12).2 q13).1 q14).1 q15).2⟩⟩), fun q15 => pm_mkA (pm_shA ((h.2 q1).1 q2).1) (⟨(((((((((((((((h.2 q1).1 q2).2.1 q3).2 q4).2 q5).2 q6).1 q7).2 q8).1 q9).2 q10).2 q11).2 q12).2 q13).1 q14).2 q15).1, ⟨fun z => absurd (by decide) z, fun _ => (((((((((((((((h.2 q1).1 q2).2.1 q3).2 q4).2 q5).2 q6).1 q7).2 q8).1 q9).2 q10).2 q11).2 q12).2 q13).1 q14).2 q15).2⟩⟩)⟩, fun q14 => pm_mkA (pm_shA ((h.2 q1).1 q2).1) (⟨((((((((((((((h.2 q1).1 q2).2.1 q3).2 q4).2 q5).2 q6).1 q7).2 q8).1 q9).2 q10).2 q11).2 q12).2 q13).2 q14).1, ⟨fun z => absurd (by decide) z, fun _ => ((((((((((((((h.2 q1).1 q2).2.1 q3).2 q4).2 q5).2 q6).1 q7).2 q8).1 q9).2 q10).2 q11).2 q12).2 q13).2 q14).2⟩⟩)⟩⟩⟩⟩⟩))))⟩⟩, fun q9 => ⟨Or.inr rfl, ⟨fun _ => ⟨fun z => absurd (by decide) z, fun _ => (((((((((h.2 q1).1 q2).2.1 q3).2 q4).2 q5).2 q6).1 q7).2 q8).2 q9)⟩, fun z => absurd z (by decide)⟩⟩⟩⟩))))⟩, fun q7 => ⟨fun _ => ⟨fun _ => (((((((h.2 q1).1 q2).2.1 q3).2 q4).2 q5).2 q6).2 q7), fun z => absurd z (by decide)⟩, fun z => absurd z (by decide)⟩⟩)⟩⟩)⟩, fun z => absurd z (by decide)⟩⟩⟩))), fun z => absurd (by decide) z⟩⟩, fun q3 => pm_mkO (pm_shO ((h.2 q1).1 q2).1) (⟨fun q16 => ⟨Or.inl rfl, ⟨fun _ => pm_mkO (pm_shO ((h.2 q1).1 q2).1) (u_Sh_isRow (43 + 2 * a1.toNatClampNeg) (pm_mkO (pm_shO ((h.2 q1).1 q2).1) (⟨fun z => absurd z q16, fun _ => ⟨Or.inr rfl, ⟨fun _ => ⟨fun q17 => ⟨fun _ => ⟨fun _ => (((((h.2 q1).1 q2).2.2 q3).1 q16).1 q17), fun z => absurd z (by decide)⟩, fun z => absurd z (by decide)⟩, fun q17 => pm_mkO (pm_shO ((h.2 q1).1 q2).1) (⟨fun q18 => ⟨fun _ => ⟨fun _ => ((((((h.2 q1).1 q2).2.2 q3).1 q16).2 q17).1 q18), fun z => absurd z (by decide)⟩, fun z => absurd z (by decide)⟩, fun q18 => ⟨fun z => absurd z (by decide), fun _ => pm_mkO (pm_shO ((h.2 q1).1 q2).1) (⟨fun q19 => ⟨fun z => absurd (by decide) z, fun _ => pm_mkO (pm_shO ((h.2 q1).1 q2).1) (u_Sh_set (43 + 2 * a1.toNatClampNeg) a2 a3 (pm_mkO (pm_shO ((h.2 q1).1 q2).1) (u_PW_outside a2 (0 : Int32) ((H.1 (43 + 2 * a1.toNatClampNeg) 2) - (1 : Int32)) (⟨fun q20 => ⟨Or.inr rfl, ⟨fun _ => ⟨fun z => absurd (by decide) z, fun _ => ((((((((h.2 q1).1 q2).2.2 q3).1 q16).2 q17).2 q18).1 q19).1 q20)⟩, fun z => absurd z (by decide)⟩⟩, fun q20 => ⟨fun q21 => ⟨Or.inl rfl, ⟨fun z => absurd (by decide) z, fun _ => pm_mkO (pm_shO ((h.2 q1).1 q2).1) (pm_mkO (pm_shO ((h.2 q1).1 q2).1) (u_Sh_lowestBits (43 + 2 * a1.toNatClampNeg) a3 (pm_mkO (pm_shO ((h.2 q1).1 q2).1) (⟨fun q22 => pm_mkA (pm_shA ((h.2 q1).1 q2).1) (⟨((((((((((h.2 q1).1 q2).2.2 q3).1 q16).2 q17).2 q18).1 q19).2 q20).1 q21).1 q22).1, ⟨fun z => absurd (by decide) z, fun _ => ((((((((((h.2 q1).1 q2).2.2 q3).1 q16).2 q17).2 q18).1 q19).2 q20).1 q21).1 q22).2⟩⟩), fun q22 => ⟨fun q23 => pm_mkA (pm_shA ((h.2 q1).1 q2).1) (⟨(((((((((((h.2 q1).1 q2).2.2 q3).1 q16).2 q17).2 q18).1 q19).2 q20).1 q21).2 q22).1 q23).1, ⟨fun z => absurd (by decide) z, fun _ => (((((((((((h.2 q1).1 q2).2.2 q3).1 q16).2 q17).2 q18).1 q19).2 q20).1 q21).2 q22).1 q23).2⟩⟩), fun q23 => ⟨fun q24 => pm_mkA (pm_shA ((h.2 q1).1 q2).1) (⟨((((((((((((h.2 q1).1 q2).2.2 q3).1 q16).2 q17).2 q18).1 q19).2 q20).1 q21).2 q22).2 q23).1 q24).1, ⟨fun z => absurd (by decide) z, fun _ => ((((((((((((h.2 q1).1 q2).2.2 q3).1 q16).2 q17).2 q18).1 q19).2 q20).1 q21).2 q22).2 q23).1 q24).2⟩⟩), fun q24 => ⟨fun q25 => pm_mkA (pm_shA ((h.2 q1).1 q2).1) (⟨(((((((((((((h.2 q1).1 q2).2.2 q3).1 q16).2 q17).2 q18).1 q19).2 q20).1 q21).2 q22).2 q23).2 q24).1 q25).1, ⟨fun z => absurd (by decide) z, fun _ => (((((((((((((h.2 q1).1 q2).2.2 q3).1 q16).2 q17).2 q18).1 q19).2 q20).1 q21).2 q22).2 q23).2 q24).1 q25).2⟩⟩), fun q25 => ⟨fun q26 => ⟨fun q27 => pm_mkA (pm_shA ((h.2 q1).1 q2).1) (⟨(((((((((((((((h.2 q1).1 q2).2.2 q3).1 q16).2 q17).2 q18).1 q19).2 q20).1 q21).2 q22).2 q23).2 q24).2 q25).1 q26).1 q27).1, ⟨fun z => absurd (by decide) z, fun _ => (((((((((((((((h.2 q1).1 q2).2.2 q3).1 q16).2 q17).2 q18).1 q19).2 q20).1 q21).2 q22).2 q23).2 q24).2 q25).1 q26).1 q27).2⟩⟩), fun q27 => pm_mkA (pm_shA ((h.2 q1).1 q2).1) (⟨(((((((((((((((h.2 q1).1 q2).2.2 q3).1 q16).2 q17).2 q18).1 q19).2 q20).1 q21).2 q22).2 q23).2 q24).2 q25).1 q26).2 q27).1, ⟨fun z => absurd (by decide) z, fun _ => (((((((((((((((h.2 q1).1 q2).2.2 q3).1 q16).2 q17).2 q18).1 q19).2 q20).1 q21).2 q22).2 q23).2 q24).2 q25).1 q26).2 q27).2⟩⟩)⟩, fun q26 => pm_mkA (pm_shA ((h.2 q1).1 q2).1) (⟨((((((((((((((h.2 q1).1 q2).2.2 q3).1 q16).2 q17).2 q18).1 q19).2 q20).1 q21).2 q22).2 q23).2 q24).2 q25).2 q26).1, ⟨fun z => absurd (by decide) z, fun _ => ((((((((((((((h.2 q1).1 q2).2.2 q3).1 q16).2 q17).2 q18).1 q19).2 q20).1 q21).2 q22).2 q23).2 q24).2 q25).2 q26).2⟩⟩)⟩⟩⟩⟩⟩))))⟩⟩, fun q21 => ⟨Or.inr rfl, ⟨fun _ => ⟨fun z => absurd (by decide) z, fun _ => (((((((((h.2 q1).1 q2).2.2 q3).1 q16).2 q17).2 q18).1 q19).2 q20).2 q21)⟩, fun z => absurd z (by decide)⟩⟩⟩⟩))))⟩, fun q19 => ⟨fun _ => ⟨fun _ => (((((((h.2 q1).1 q2).2.2 q3).1 q16).2 q17).2 q18).2 q19), fun z => absurd z (by decide)⟩, fun z => absurd z (by decide)⟩⟩)⟩⟩)⟩, fun z => absurd z (by decide)⟩⟩⟩))), fun z => absurd (by decide) z⟩⟩, fun q16 => ⟨Or.inr rfl, ⟨fun z => absurd z (by decide), fun _ => ⟨fun _ => ⟨fun _ => ((((h.2 q1).1 q2).2.2 q3).2 q16), fun z => absurd z (by decide)⟩, fun z => absurd z (by decide)⟩⟩⟩⟩)⟩)))))⟩, fun z => absurd (by decide) z⟩⟩⟩, fun q2 => ⟨Or.inr rfl, ⟨Or.inr rfl, ⟨fun z => absurd z (by decide), fun _ => ((h.2 q1).2 q2)⟩⟩⟩⟩⟩)))
def T_PW_element : List pmE := [
  (0, [], .iload 1, 0, 0, 0),
  (1, [], .invokeinterface 137 5, 1, 81, 396),
  (4, [], .ifCond .ne 21, 0, 0, 0),
  (7, [], .aload 0, 0, 0, 0),
  (8, [], .getfield 518, 0, 51, 353),
  (11, [], .iload 1, 0, 0, 0),
  (12, [], .aaload, 0, 0, 0),
  (13, [], .iload 2, 0, 0, 0),
  (14, [], .iconst 1, 0, 0, 0),
  (15, [], .invokeinterface 87 525, 0, 341, 938),
  (18, [], .ifCond .eq 25, 0, 0, 0),
  (21, [], .jsr (-9223372036854775808), 1, 234, 744),
  (24, [], .lreturn, 0, 0, 0),
  (25, [], .aload 0, 0, 0, 0),
  (26, [], .getfield 518, 0, 51, 353),
  (29, [], .iload 1, 0, 0, 0),
  (30, [], .aaload, 0, 0, 0),
  (31, [], .iload 2, 0, 0, 0),
  (32, [], .invokeinterface 88 522, 0, 96, 411),
  (35, [], .lreturn, 0, 0, 0)]
theorem tk_PW_element : pm_okT M_PW_element T_PW_element = true := by decide +kernel
theorem ok_PW_element : pm_okm M_PW_element := pm_okm_of _ 954 76 952 953 (by decide +kernel)
set_option maxRecDepth 100000 in
set_option maxHeartbeats 4000000 in
theorem m_PW_element {d : Nat} {H : pmT} {Q : pmQ} (a1 : Int32) (a2 : Int32)
    (h : (a1 < (0 : Int32) → Q (some (.long (-9223372036854775808 : Int64))) H) ∧ (¬ a1 < (0 : Int32) → (a1 ≤ (5 : Int32) → vp_in a1 6 ∧ ((0 ≤ (H.1 (43 + 2 * a1.toNatClampNeg) 0) → ((H.1 (43 + 2 * a1.toNatClampNeg) 1) = (-1 : Int32) → Q (some (.long (-9223372036854775808 : Int64))) H) ∧ (¬ (H.1 (43 + 2 * a1.toNatClampNeg) 1) = (-1 : Int32) → (a2 < 0 → Q (some (.long (-9223372036854775808 : Int64))) H) ∧ (¬ a2 < 0 → ((H.1 (43 + 2 * a1.toNatClampNeg) 2) < a2 → Q (some (.long (-9223372036854775808 : Int64))) H) ∧ (¬ (H.1 (43 + 2 * a1.toNatClampNeg) 2) < a2 → ((1 : Int32) ≤ ((H.1 (43 + 2 * a1.toNatClampNeg) 2) - a2) → pm_R (d + 1) M_Sh_at [.ref (43 + 2 * a1.toNatClampNeg), .int a2] H (pm_l (fun x98 H97 => Q (some (.long x98)) H97))) ∧ (¬ (1 : Int32) ≤ ((H.1 (43 + 2 * a1.toNatClampNeg) 2) - a2) → Q (some (.long (-9223372036854775808 : Int64))) H))))) ∧ (¬ 0 ≤ (H.1 (43 + 2 * a1.toNatClampNeg) 0) → (¬ (H.1 (43 + 2 * a1.toNatClampNeg) 1) = (-1 : Int32) → (a2 < 0 → Q (some (.long (-9223372036854775808 : Int64))) H) ∧ (¬ a2 < 0 → ((H.1 (43 + 2 * a1.toNatClampNeg) 2) < a2 → Q (some (.long (-9223372036854775808 : Int64))) H) ∧ (¬ (H.1 (43 + 2 * a1.toNatClampNeg) 2) < a2 → ((1 : Int32) ≤ ((H.1 (43 + 2 * a1.toNatClampNeg) 2) - a2) → pm_R (d + 1) M_Sh_at [.ref (43 + 2 * a1.toNatClampNeg), .int a2] H (pm_l (fun x124 H123 => Q (some (.long x124)) H123))) ∧ (¬ (1 : Int32) ≤ ((H.1 (43 + 2 * a1.toNatClampNeg) 2) - a2) → Q (some (.long (-9223372036854775808 : Int64))) H)))) ∧ ((H.1 (43 + 2 * a1.toNatClampNeg) 1) = (-1 : Int32) → Q (some (.long (-9223372036854775808 : Int64))) H)))) ∧ (¬ a1 ≤ (5 : Int32) → Q (some (.long (-9223372036854775808 : Int64))) H))) : pm_R (d + 2) M_PW_element [.ref 0, .int a1, .int a2] H Q :=
  pm_walk (n := 18) ok_PW_element tk_PW_element rfl (Nat.le_of_ble_eq_true rfl) (show pm_R (d + 1) M_PW_noShelf [.int a1] H (pm_i (fun x2 H1 => (¬ x2 = 0 → Q (some (.long (-9223372036854775808 : Int64))) H1) ∧ (x2 = 0 → vp_in a1 6 ∧ (pm_chkO (43 + 2 * a1.toNatClampNeg) 7 (pm_R (d + 1) M_Sh_refusalOfPlaces [.ref (43 + 2 * a1.toNatClampNeg), .int a2, .int (1 : Int32)] H1 (pm_i (fun x4 H3 => (x4 = 0 → vp_in a1 6 ∧ (pm_chkO (43 + 2 * a1.toNatClampNeg) 7 (pm_R (d + 1) M_Sh_at [.ref (43 + 2 * a1.toNatClampNeg), .int a2] H3 (pm_l (fun x6 H5 => Q (some (.long x6)) H5))))) ∧ (¬ x4 = 0 → Q (some (.long (-9223372036854775808 : Int64))) H3)))))))) from u_PW_noShelf a1 (u_PW_outside a1 (0 : Int32) (5 : Int32) (⟨fun q1 => ⟨Or.inr rfl, ⟨Or.inr rfl, ⟨fun _ => (h.1 q1), fun z => absurd z (by decide)⟩⟩⟩, fun q1 => ⟨fun q2 => ⟨Or.inl rfl, ⟨Or.inl rfl, ⟨fun z => absurd (by decide) z, fun _ => ⟨((h.2 q1).1 q2).1, pm_mkO (pm_shO ((h.2 q1).1 q2).1) (u_Sh_refusalOfPlaces (43 + 2 * a1.toNatClampNeg) a2 (1 : Int32) (pm_mkO (pm_shO ((h.2 q1).1 q2).1) (u_Sh_isEmpty (43 + 2 * a1.toNatClampNeg) (pm_mkO (pm_shO ((h.2 q1).1 q2).1) (⟨fun q3 => ⟨Or.inl rfl, ⟨fun _ => pm_mkO (pm_shO ((h.2 q1).1 q2).1) (u_Sh_isRow (43 + 2 * a1.toNatClampNeg) (pm_mkO (pm_shO ((h.2 q1).1 q2).1) (⟨fun q4 => ⟨Or.inl rfl, ⟨fun z => absurd (by decide) z, fun _ => ⟨fun z => absurd z (by decide), fun _ => ((((h.2 q1).1 q2).2.1 q3).1 q4)⟩⟩⟩, fun q4 => ⟨Or.inr rfl, ⟨fun _ => ⟨fun q5 => ⟨fun z => absurd z (by decide), fun _ => (((((h.2 q1).1 q2).2.1 q3).2 q4).1 q5)⟩, fun q5 => pm_mkO (pm_shO ((h.2 q1).1 q2).1) (⟨fun q6 => ⟨fun z => absurd z (by decide), fun _ => ((((((h.2 q1).1 q2).2.1 q3).2 q4).2 q5).1 q6)⟩, fun q6 => ⟨fun z => absurd z (by decide), fun _ => pm_mkO (pm_shO ((h.2 q1).1 q2).1) (⟨fun q7 => ⟨fun _ => ⟨((h.2 q1).1 q2).1, pm_mkO (pm_shO ((h.2 q1).1 q2).1) ((((((((h.2 q1).1 q2).2.1 q3).2 q4).2 q5).2 q6).1 q7))⟩, fun z => absurd (by decide) z⟩, fun q7 => ⟨fun z => absurd z (by decide), fun _ => (((((((h.2 q1).1 q2).2.1 q3).2 q4).2 q5).2 q6).2 q7)⟩⟩)⟩⟩)⟩, fun z => absurd z (by decide)⟩⟩⟩))), fun z => absurd (by decide) z⟩⟩, fun q3 => pm_mkO (pm_shO ((h.2 q1).1 q2).1) (⟨fun q9 => ⟨Or.inl rfl, ⟨fun _ => pm_mkO (pm_shO ((h.2 q1).1 q2).1) (u_Sh_isRow (43 + 2 * a1.toNatClampNeg) (pm_mkO (pm_shO ((h.2 q1).1 q2).1) (⟨fun z => absurd z q9, fun _ => ⟨Or.inr rfl, ⟨fun _ => ⟨fun q10 => ⟨fun z => absurd z (by decide), fun _ => (((((h.2 q1).1 q2).2.2 q3).1 q9).1 q10)⟩, fun q10 => pm_mkO (pm_shO ((h.2 q1).1 q2).1) (⟨fun q11 => ⟨fun z => absurd z (by decide), fun _ => ((((((h.2 q1).1 q2).2.2 q3).1 q9).2 q10).1 q11)⟩, fun q11 => ⟨fun z => absurd z (by decide), fun _ => pm_mkO (pm_shO ((h.2 q1).1 q2).1) (⟨fun q12 => ⟨fun _ => ⟨((h.2 q1).1 q2).1, pm_mkO (pm_shO ((h.2 q1).1 q2).1) ((((((((h.2 q1).1 q2).2.2 q3).1 q9).2 q10).2 q11).1 q12))⟩, fun z => absurd (by decide) z⟩, fun q12 => ⟨fun z => absurd z (by decide), fun _ => (((((((h.2 q1).1 q2).2.2 q3).1 q9).2 q10).2 q11).2 q12)⟩⟩)⟩⟩)⟩, fun z => absurd z (by decide)⟩⟩⟩))), fun z => absurd (by decide) z⟩⟩, fun q9 => ⟨Or.inr rfl, ⟨fun z => absurd z (by decide), fun _ => ⟨fun z => absurd z (by decide), fun _ => ((((h.2 q1).1 q2).2.2 q3).2 q9)⟩⟩⟩⟩)⟩)))))⟩⟩⟩⟩, fun q2 => ⟨Or.inr rfl, ⟨Or.inr rfl, ⟨fun _ => ((h.2 q1).2 q2), fun z => absurd z (by decide)⟩⟩⟩⟩⟩)))
def T_PW_shift : List pmE := [
  (0, [], .iload 1, 0, 0, 0),
  (1, [], .invokeinterface 137 5, 1, 81, 396),
  (4, [], .ifCond .ne 14, 0, 0, 0),
  (7, [], .iload 3, 0, 0, 0),
  (8, [], .invokeinterface 137 5, 1, 81, 396),
  (11, [], .ifCond .eq 16, 0, 0, 0),
  (14, [], .iconst (-1), 0, 0, 0),
  (15, [], .ireturn, 0, 0, 0),
  (16, [], .aload 0, 0, 0, 0),
  (17, [], .getfield 518, 0, 51, 353),
  (20, [], .iload 1, 0, 0, 0),
  (21, [], .aaload, 0, 0, 0),
  (22, [], .astore 6, 1, 0, 0),
  (24, [], .aload 0, 0, 0, 0),
  (25, [], .getfield 518, 0, 51, 353),
  (28, [], .iload 3, 0, 0, 0),
  (29, [], .aaload, 0, 0, 0),
  (30, [], .astore 7, 1, 0, 0),
  (32, [], .aload 6, 1, 0, 0),
  (34, [], .invokeinterface 82 517, 0, 85, 399),
  (37, [], .ifCond .ne 48, 0, 0, 0),
  (40, [], .aload 7, 1, 0, 0),
  (42, [], .invokeinterface 82 517, 0, 85, 399),
  (45, [], .ifCond .eq 51, 0, 0, 0),
  (48, [], .iconst (-11), 1, 0, 0),
  (50, [], .ireturn, 0, 0, 0),
  (51, [], .aload 6, 1, 0, 0),
  (53, [], .invokeinterface 83 517, 0, 348, 959),
  (56, [], .ifCond .eq 72, 0, 0, 0),
  (59, [], .aload 7, 1, 0, 0),
  (61, [], .aload 6, 1, 0, 0),
  (63, [], .getfield 449, 0, 351, 330),
  (66, [], .invokeinterface 84 521, 0, 89, 403),
  (69, [], .ifCond .ne 75, 0, 0, 0),
  (72, [], .iconst (-12), 1, 0, 0),
  (74, [], .ireturn, 0, 0, 0),
  (75, [], .aload 6, 1, 0, 0),
  (77, [], .iload 2, 0, 0, 0),
  (78, [], .iload 5, 1, 0, 0),
  (80, [], .invokeinterface 87 525, 0, 341, 938),
  (83, [], .ifCond .ne 98, 0, 0, 0),
  (86, [], .aload 7, 1, 0, 0),
  (88, [], .iload 4, 1, 0, 0),
  (90, [], .iload 5, 1, 0, 0),
  (92, [], .invokeinterface 87 525, 0, 341, 938),
  (95, [], .ifCond .eq 101, 0, 0, 0),
  (98, [], .iconst (-13), 1, 0, 0),
  (100, [], .ireturn, 0, 0, 0),
  (101, [], .aload 6, 1, 0, 0),
  (103, [], .getfield 451, 0, 354, 336),
  (106, [], .iload 2, 0, 0, 0),
  (107, [], .aload 7, 1, 0, 0),
  (109, [], .getfield 451, 0, 354, 336),
  (112, [], .iload 4, 1, 0, 0),
  (114, [], .iload 5, 1, 0, 0),
  (116, [], .invokedynamic 1, 0, 290, 848),
  (119, [], .iload 5, 1, 0, 0),
  (121, [], .ireturn, 0, 0, 0)]
theorem tk_PW_shift : pm_okT M_PW_shift T_PW_shift = true := by decide +kernel
theorem ok_PW_shift : pm_okm M_PW_shift := pm_okm_of _ 958 76 956 957 (by decide +kernel)
set_option maxRecDepth 100000 in
set_option maxHeartbeats 4000000 in
theorem m_PW_shift {d : Nat} {H : pmT} {Q : pmQ} (a1 : Int32) (a2 : Int32) (a3 : Int32) (a4 : Int32) (a5 : Int32)
    (h : (a1 < (0 : Int32) → Q (some (.int (-1 : Int32))) H) ∧ (¬ a1 < (0 : Int32) → (a1 ≤ (5 : Int32) → (a3 < (0 : Int32) → Q (some (.int (-1 : Int32))) H) ∧ (¬ a3 < (0 : Int32) → (a3 ≤ (5 : Int32) → vp_in a1 6 ∧ (vp_in a3 6 ∧ ((0 ≤ (H.1 (43 + 2 * a1.toNatClampNeg) 0) → (0 ≤ (H.1 (43 + 2 * a3.toNatClampNeg) 0) → ((H.1 (43 + 2 * a1.toNatClampNeg) 1) = (-1 : Int32) → Q (some (.int (-12 : Int32))) H) ∧ (¬ (H.1 (43 + 2 * a1.toNatClampNeg) 1) = (-1 : Int32) → ((H.1 (43 + 2 * a3.toNatClampNeg) 1) = (-1 : Int32) → Q (some (.int (-12 : Int32))) H) ∧ (¬ (H.1 (43 + 2 * a3.toNatClampNeg) 1) = (-1 : Int32) → (¬ (H.1 (43 + 2 * a3.toNatClampNeg) 1) = (H.1 (43 + 2 * a1.toNatClampNeg) 1) → Q (some (.int (-12 : Int32))) H) ∧ ((H.1 (43 + 2 * a3.toNatClampNeg) 1) = (H.1 (43 + 2 * a1.toNatClampNeg) 1) → (a2 < 0 → Q (some (.int (-13 : Int32))) H) ∧ (¬ a2 < 0 → ((H.1 (43 + 2 * a1.toNatClampNeg) 2) < a2 → Q (some (.int (-13 : Int32))) H) ∧ (¬ (H.1 (43 + 2 * a1.toNatClampNeg) 2) < a2 → (a5 < 0 → Q (some (.int (-13 : Int32))) H) ∧ (¬ a5 < 0 → (a5 ≤ ((H.1 (43 + 2 * a1.toNatClampNeg) 2) - a2) → (a4 < 0 → Q (some (.int (-13 : Int32))) H) ∧ (¬ a4 < 0 → ((H.1 (43 + 2 * a3.toNatClampNeg) 2) < a4 → Q (some (.int (-13 : Int32))) H) ∧ (¬ (H.1 (43 + 2 * a3.toNatClampNeg) 2) < a4 → (a5 ≤ ((H.1 (43 + 2 * a3.toNatClampNeg) 2) - a4) → pm_cpin a2 a4 a5 60 60 ∧ (Q (some (.int a5)) (H.1, (va_up H.2.1 ((43 + 2 * a3.toNatClampNeg) + 1) (va_cpy (H.2.1 ((43 + 2 * a1.toNatClampNeg) + 1)) (H.2.1 ((43 + 2 * a3.toNatClampNeg) + 1)) a2.toNatClampNeg a4.toNatClampNeg a5.toNatClampNeg)), H.2.2))) ∧ (¬ a5 ≤ ((H.1 (43 + 2 * a3.toNatClampNeg) 2) - a4) → Q (some (.int (-13 : Int32))) H)))) ∧ (¬ a5 ≤ ((H.1 (43 + 2 * a1.toNatClampNeg) 2) - a2) → Q (some (.int (-13 : Int32))) H)))))))) ∧ (¬ 0 ≤ (H.1 (43 + 2 * a3.toNatClampNeg) 0) → (¬ (H.1 (43 + 2 * a3.toNatClampNeg) 1) = (-1 : Int32) → ((H.1 (43 + 2 * a1.toNatClampNeg) 1) = (-1 : Int32) → Q (some (.int (-12 : Int32))) H) ∧ (¬ (H.1 (43 + 2 * a1.toNatClampNeg) 1) = (-1 : Int32) → (¬ (H.1 (43 + 2 * a3.toNatClampNeg) 1) = (H.1 (43 + 2 * a1.toNatClampNeg) 1) → Q (some (.int (-12 : Int32))) H) ∧ ((H.1 (43 + 2 * a3.toNatClampNeg) 1) = (H.1 (43 + 2 * a1.toNatClampNeg) 1) → (a2 < 0 → Q (some (.int (-13 : Int32))) H) ∧ (¬ a2 < 0 → ((H.1 (43 + 2 * a1.toNatClampNeg) 2) < a2 → Q (some (.int (-13 : Int32))) H) ∧ (¬ (H.1 (43 + 2 * a1.toNatClampNeg) 2) < a2 → (a5 < 0 → Q (some (.int (-13 : Int32))) H) ∧ (¬ a5 < 0 → (a5 ≤ ((H.1 (43 + 2 * a1.toNatClampNeg) 2) - a2) → (a4 < 0 → Q (some (.int (-13 : Int32))) H) ∧ (¬ a4 < 0 → ((H.1 (43 + 2 * a3.toNatClampNeg) 2) < a4 → Q (some (.int (-13 : Int32))) H) ∧ (¬ (H.1 (43 + 2 * a3.toNatClampNeg) 2) < a4 → (a5 ≤ ((H.1 (43 + 2 * a3.toNatClampNeg) 2) - a4) → pm_cpin a2 a4 a5 60 60 ∧ (Q (some (.int a5)) (H.1, (va_up H.2.1 ((43 + 2 * a3.toNatClampNeg) + 1) (va_cpy (H.2.1 ((43 + 2 * a1.toNatClampNeg) + 1)) (H.2.1 ((43 + 2 * a3.toNatClampNeg) + 1)) a2.toNatClampNeg a4.toNatClampNeg a5.toNatClampNeg)), H.2.2))) ∧ (¬ a5 ≤ ((H.1 (43 + 2 * a3.toNatClampNeg) 2) - a4) → Q (some (.int (-13 : Int32))) H)))) ∧ (¬ a5 ≤ ((H.1 (43 + 2 * a1.toNatClampNeg) 2) - a2) → Q (some (.int (-13 : Int32))) H))))))) ∧ ((H.1 (43 + 2 * a3.toNatClampNeg) 1) = (-1 : Int32) → Q (some (.int (-11 : Int32))) H))) ∧ (¬ 0 ≤ (H.1 (43 + 2 * a1.toNatClampNeg) 0) → (¬ (H.1 (43 + 2 * a1.toNatClampNeg) 1) = (-1 : Int32) → (0 ≤ (H.1 (43 + 2 * a3.toNatClampNeg) 0) → ((H.1 (43 + 2 * a3.toNatClampNeg) 1) = (-1 : Int32) → Q (some (.int (-12 : Int32))) H) ∧ (¬ (H.1 (43 + 2 * a3.toNatClampNeg) 1) = (-1 : Int32) → (¬ (H.1 (43 + 2 * a3.toNatClampNeg) 1) = (H.1 (43 + 2 * a1.toNatClampNeg) 1) → Q (some (.int (-12 : Int32))) H) ∧ ((H.1 (43 + 2 * a3.toNatClampNeg) 1) = (H.1 (43 + 2 * a1.toNatClampNeg) 1) → (a2 < 0 → Q (some (.int (-13 : Int32))) H) ∧ (¬ a2 < 0 → ((H.1 (43 + 2 * a1.toNatClampNeg) 2) < a2 → Q (some (.int (-13 : Int32))) H) ∧ (¬ (H.1 (43 + 2 * a1.toNatClampNeg) 2) < a2 → (a5 < 0 → Q (some (.int (-13 : Int32))) H) ∧ (¬ a5 < 0 → (a5 ≤ ((H.1 (43 + 2 * a1.toNatClampNeg) 2) - a2) → (a4 < 0 → Q (some (.int (-13 : Int32))) H) ∧ (¬ a4 < 0 → ((H.1 (43 + 2 * a3.toNatClampNeg) 2) < a4 → Q (some (.int (-13 : Int32))) H) ∧ (¬ (H.1 (43 + 2 * a3.toNatClampNeg) 2) < a4 → (a5 ≤ ((H.1 (43 + 2 * a3.toNatClampNeg) 2) - a4) → pm_cpin a2 a4 a5 60 60 ∧ (Q (some (.int a5)) (H.1, (va_up H.2.1 ((43 + 2 * a3.toNatClampNeg) + 1) (va_cpy (H.2.1 ((43 + 2 * a1.toNatClampNeg) + 1)) (H.2.1 ((43 + 2 * a3.toNatClampNeg) + 1)) a2.toNatClampNeg a4.toNatClampNeg a5.toNatClampNeg)), H.2.2))) ∧ (¬ a5 ≤ ((H.1 (43 + 2 * a3.toNatClampNeg) 2) - a4) → Q (some (.int (-13 : Int32))) H)))) ∧ (¬ a5 ≤ ((H.1 (43 + 2 * a1.toNatClampNeg) 2) - a2) → Q (some (.int (-13 : Int32))) H))))))) ∧ (¬ 0 ≤ (H.1 (43 + 2 * a3.toNatClampNeg) 0) → (¬ (H.1 (43 + 2 * a3.toNatClampNeg) 1) = (-1 : Int32) → (¬ (H.1 (43 + 2 * a3.toNatClampNeg) 1) = (H.1 (43 + 2 * a1.toNatClampNeg) 1) → Q (some (.int (-12 : Int32))) H) ∧ ((H.1 (43 + 2 * a3.toNatClampNeg) 1) = (H.1 (43 + 2 * a1.toNatClampNeg) 1) → (a2 < 0 → Q (some (.int (-13 : Int32))) H) ∧ (¬ a2 < 0 → ((H.1 (43 + 2 * a1.toNatClampNeg) 2) < a2 → Q (some (.int (-13 : Int32))) H) ∧ (¬ (H.1 (43 + 2 * a1.toNatClampNeg) 2) < a2 → (a5 < 0 → Q (some (.int (-13 : Int32))) H) ∧ (¬ a5 < 0 → (a5 ≤ ((H.1 (43 + 2 * a1.toNatClampNeg) 2) - a2) → (a4 < 0 → Q (some (.int (-13 : Int32))) H) ∧ (¬ a4 < 0 → ((H.1 (43 + 2 * a3.toNatClampNeg) 2) < a4 → Q (some (.int (-13 : Int32))) H) ∧ (¬ (H.1 (43 + 2 * a3.toNatClampNeg) 2) < a4 → (a5 ≤ ((H.1 (43 + 2 * a3.toNatClampNeg) 2) - a4) → pm_cpin a2 a4 a5 60 60 ∧ (Q (some (.int a5)) (H.1, (va_up H.2.1 ((43 + 2 * a3.toNatClampNeg) + 1) (va_cpy (H.2.1 ((43 + 2 * a1.toNatClampNeg) + 1)) (H.2.1 ((43 + 2 * a3.toNatClampNeg) + 1)) a2.toNatClampNeg a4.toNatClampNeg a5.toNatClampNeg)), H.2.2))) ∧ (¬ a5 ≤ ((H.1 (43 + 2 * a3.toNatClampNeg) 2) - a4) → Q (some (.int (-13 : Int32))) H)))) ∧ (¬ a5 ≤ ((H.1 (43 + 2 * a1.toNatClampNeg) 2) - a2) → Q (some (.int (-13 : Int32))) H)))))) ∧ ((H.1 (43 + 2 * a3.toNatClampNeg) 1) = (-1 : Int32) → Q (some (.int (-11 : Int32))) H))) ∧ ((H.1 (43 + 2 * a1.toNatClampNeg) 1) = (-1 : Int32) → Q (some (.int (-11 : Int32))) H))))) ∧ (¬ a3 ≤ (5 : Int32) → Q (some (.int (-1 : Int32))) H))) ∧ (¬ a1 ≤ (5 : Int32) → Q (some (.int (-1 : Int32))) H))) : pm_R (d + 2) M_PW_shift [.ref 0, .int a1, .int a2, .int a3, .int a4, .int a5] H Q :=
  pm_walk (n := 50) ok_PW_shift tk_PW_shift rfl (Nat.le_of_ble_eq_true rfl) (show pm_R (d + 1) M_PW_noShelf [.int a1] H (pm_i (fun x2 H1 => (¬ x2 = 0 → Q (some (.int (-1 : Int32))) H1) ∧ (x2 = 0 → pm_R (d + 1) M_PW_noShelf [.int a3] H1 (pm_i (fun x4 H3 => (x4 = 0 → vp_in a1 6 ∧ (vp_in a3 6 ∧ (pm_chkO (43 + 2 * a1.toNatClampNeg) 7 (pm_R (d + 1) M_Sh_isEmpty [.ref (43 + 2 * a1.toNatClampNeg)] H3 (pm_i (fun x6 H5 => (¬ x6 = 0 → Q (some (.int (-11 : Int32))) H5) ∧ (x6 = 0 → pm_chkO (43 + 2 * a3.toNatClampNeg) 7 (pm_R (d + 1) M_Sh_isEmpty [.ref (43 + 2 * a3.toNatClampNeg)] H5 (pm_i (fun x8 H7 => (x8 = 0 → pm_chkO (43 + 2 * a1.toNatClampNeg) 7 (pm_R (d + 1) M_Sh_isRow [.ref (43 + 2 * a1.toNatClampNeg)] H7 (pm_i (fun x10 H9 => (x10 = 0 → Q (some (.int (-12 : Int32))) H9) ∧ (¬ x10 = 0 → pm_chkO (43 + 2 * a1.toNatClampNeg) 7 (pm_chkO (43 + 2 * a3.toNatClampNeg) 7 (pm_R (d + 1) M_Sh_isRowOf [.ref (43 + 2 * a3.toNatClampNeg), .int (H9.1 (43 + 2 * a1.toNatClampNeg) 1)] H9 (pm_i (fun x12 H11 => (¬ x12 = 0 → pm_chkO (43 + 2 * a1.toNatClampNeg) 7 (pm_R (d + 1) M_Sh_refusalOfPlaces [.ref (43 + 2 * a1.toNatClampNeg), .int a2, .int a5] H11 (pm_i (fun x14 H13 => (¬ x14 = 0 → Q (some (.int (-13 : Int32))) H13) ∧ (x14 = 0 → pm_chkO (43 + 2 * a3.toNatClampNeg) 7 (pm_R (d + 1) M_Sh_refusalOfPlaces [.ref (43 + 2 * a3.toNatClampNeg), .int a4, .int a5] H13 (pm_i (fun x16 H15 => (x16 = 0 → pm_chkO (43 + 2 * a1.toNatClampNeg) 7 (pm_chkO (43 + 2 * a3.toNatClampNeg) 7 (pm_chkA ((43 + 2 * a1.toNatClampNeg) + 1) 1 (fun n0 => pm_chkA ((43 + 2 * a3.toNatClampNeg) + 1) 1 (fun n1 => pm_cpin a2 a4 a5 n0 n1 ∧ (Q (some (.int a5)) (H15.1, (va_up H15.2.1 ((43 + 2 * a3.toNatClampNeg) + 1) (va_cpy (H15.2.1 ((43 + 2 * a1.toNatClampNeg) + 1)) (H15.2.1 ((43 + 2 * a3.toNatClampNeg) + 1)) a2.toNatClampNeg a4.toNatClampNeg a5.toNatClampNeg)), H15.2.2))))))) ∧ (¬ x16 = 0 → Q (some (.int (-13 : Int32))) H15))))))))) ∧ (x12 = 0 → Q (some (.int (-12 : Int32))) H11)))))))))) ∧ (¬ x8 = 0 → Q (some (.int (-11 : Int32))) H7))))))))))) ∧ (¬ x4 = 0 → Q (some (.int (-1 : Int32))) H3)))))) from u_PW_noShelf a1 (u_PW_outside a1 (0 : Int32) (5 : Int32) (⟨fun q1 => ⟨Or.inr rfl, ⟨Or.inr rfl, ⟨fun _ => (h.1 q1), fun z => absurd z (by decide)⟩⟩⟩, fun q1 => ⟨fun q2 => ⟨Or.inl rfl, ⟨Or.inl rfl, ⟨fun z => absurd (by decide) z, fun _ => u_PW_noShelf a3 (u_PW_outside a3 (0 : Int32) (5 : Int32) (⟨fun q3 => ⟨Or.inr rfl, ⟨Or.inr rfl, ⟨fun z => absurd z (by decide), fun _ => (((h.2 q1).1 q2).1 q3)⟩⟩⟩, fun q3 => ⟨fun q4 => ⟨Or.inl rfl, ⟨Or.inl rfl, ⟨fun _ => ⟨((((h.2 q1).1 q2).2 q3).1 q4).1, ⟨((((h.2 q1).1 q2).2 q3).1 q4).2.1, pm_mkO (pm_shO ((((h.2 q1).1 q2).2 q3).1 q4).1) (u_Sh_isEmpty (43 + 2 * a1.toNatClampNeg) (pm_mkO (pm_shO ((((h.2 q1).1 q2).2 q3).1 q4).1) (⟨fun q5 => ⟨Or.inl rfl, ⟨fun z => absurd (by decide) z, fun _ => pm_mkO (pm_shO ((((h.2 q1).1 q2).2 q3).1 q4).2.1) (u_Sh_isEmpty (43 + 2 * a3.toNatClampNeg) (pm_mkO (pm_shO ((((h.2 q1).1 q2).2 q3).1 q4).2.1) (⟨fun q6 => ⟨Or.inl rfl, ⟨fun _ => pm_mkO (pm_shO ((((h.2 q1).1 q2).2 q3).1 q4).1) (u_Sh_isRow (43 + 2 * a1.toNatClampNeg) (pm_mkO (pm_shO ((((h.2 q1).1 q2).2 q3).1 q4).1) (⟨fun q7 => ⟨Or.inl rfl, ⟨fun _ => (((((((h.2 q1).1 q2).2 q3).1 q4).2.2.1 q5).1 q6).1 q7), fun z => absurd (by decide) z⟩⟩, fun q7 => ⟨Or.inr rfl, ⟨fun z => absurd z (by decide), fun _ => pm_mkO (pm_shO ((((h.2 q1).1 q2).2 q3).1 q4).1) (pm_mkO (pm_shO ((((h.2 q1).1 q2).2 q3).1 q4).2.1) (u_Sh_isRowOf (43 + 2 * a3.toNatClampNeg) (H.1 (43 + 2 * a1.toNatClampNeg) 1) (pm_mkO (pm_shO ((((h.2 q1).1 q2).2 q3).1 q4).2.1) (u_Sh_isRow (43 + 2 * a3.toNatClampNeg) (pm_mkO (pm_shO ((((h.2 q1).1 q2).2 q3).1 q4).2.1) (⟨fun q8 => ⟨Or.inl rfl, ⟨fun _ => ⟨Or.inl rfl, ⟨fun z => absurd (by decide) z, fun _ => ((((((((h.2 q1).1 q2).2 q3).1 q4).2.2.1 q5).1 q6).2 q7).1 q8)⟩⟩, fun z => absurd (by decide) z⟩⟩, fun q8 => ⟨Or.inr rfl, ⟨fun z => absurd z (by decide), fun _ => pm_mkO (pm_shO ((((h.2 q1).1 q2).2 q3).1 q4).2.1) (⟨fun q9 => ⟨Or.inl rfl, ⟨fun z => absurd (by decide) z, fun _ => (((((((((h.2 q1).1 q2).2 q3).1 q4).2.2.1 q5).1 q6).2 q7).2 q8).1 q9)⟩⟩, fun q9 => ⟨Or.inr rfl, ⟨fun _ => pm_mkO (pm_shO ((((h.2 q1).1 q2).2 q3).1 q4).1) (u_Sh_refusalOfPlaces (43 + 2 * a1.toNatClampNeg) a2 a5 (pm_mkO (pm_shO ((((h.2 q1).1 q2).2 q3).1 q4).1) (u_Sh_isEmpty (43 + 2 * a1.toNatClampNeg) (pm_mkO (pm_shO ((((h.2 q1).1 q2).2 q3).1 q4).1) (⟨fun _ => ⟨Or.inl rfl, ⟨fun _ => pm_mkO (pm_shO ((((h.2 q1).1 q2).2 q3).1 q4).1) (u_Sh_isRow (43 + 2 * a1.toNatClampNeg) (pm_mkO (pm_shO ((((h.2 q1).1 q2).2 q3).1 q4).1) (⟨fun z => absurd z q7, fun _ => ⟨Or.inr rfl, ⟨fun _ => ⟨fun q10 => ⟨fun _ => ((((((((((h.2 q1).1 q2).2 q3).1 q4).2.2.1 q5).1 q6).2 q7).2 q8).2 q9).1 q10), fun z => absurd z (by decide)⟩, fun q10 => pm_mkO (pm_shO ((((h.2 q1).1 q2).2 q3).1 q4).1) (⟨fun q11 => ⟨fun _ => (((((((((((h.2 q1).1 q2).2 q3).1 q4).2.2.1 q5).1 q6).2 q7).2 q8).2 q9).2 q10).1 q11), fun z => absurd z (by decide)⟩, fun q11 => ⟨fun q12 => ⟨fun _ => ((((((((((((h.2 q1).1 q2).2 q3).1 q4).2.2.1 q5).1 q6).2 q7).2 q8).2 q9).2 q10).2 q11).1 q12), fun z => absurd z (by decide)⟩, fun q12 => pm_mkO (pm_shO ((((h.2 q1).1 q2).2 q3).1 q4).1) (⟨fun q13 => ⟨fun z => absurd (by decide) z, fun _ => pm_mkO (pm_shO ((((h.2 q1).1 q2).2 q3).1 q4).2.1) (u_Sh_refusalOfPlaces (43 + 2 * a3.toNatClampNeg) a4 a5 (pm_mkO (pm_shO ((((h.2 q1).1 q2).2 q3).1 q4).2.1) (u_Sh_isEmpty (43 + 2 * a3.toNatClampNeg) (pm_mkO (pm_shO ((((h.2 q1).1 q2).2 q3).1 q4).2.1) (⟨fun _ => ⟨Or.inl rfl, ⟨fun _ => pm_mkO (pm_shO ((((h.2 q1).1 q2).2 q3).1 q4).2.1) (u_Sh_isRow (43 + 2 * a3.toNatClampNeg) (pm_mkO (pm_shO ((((h.2 q1).1 q2).2 q3).1 q4).2.1) (⟨fun z => absurd z q8, fun _ => ⟨Or.inr rfl, ⟨fun _ => ⟨fun q14 => ⟨fun z => absurd z (by decide), fun _ => ((((((((((((((h.2 q1).1 q2).2 q3).1 q4).2.2.1 q5).1 q6).2 q7).2 q8).2 q9).2 q10).2 q11).2 q12).1 q13).1 q14)⟩, fun q14 => pm_mkO (pm_shO ((((h.2 q1).1 q2).2 q3).1 q4).2.1) (⟨fun q15 => ⟨fun z => absurd z (by decide), fun _ => (((((((((((((((h.2 q1).1 q2).2 q3).1 q4).2.2.1 q5).1 q6).2 q7).2 q8).2 q9).2 q10).2 q11).2 q12).1 q13).2 q14).1 q15)⟩, fun q15 => ⟨fun z => absurd z q12, fun _ => pm_mkO (pm_shO ((((h.2 q1).1 q2).2 q3).1 q4).2.1) (⟨fun q16 => ⟨fun _ => pm_mkO (pm_shO ((((h.2 q1).1 q2).2 q3).1 q4).1) (pm_mkO (pm_shO ((((h.2 q1).1 q2).2 q3).1 q4).2.1) (pm_mkA (pm_shA ((((h.2 q1).1 q2).2 q3).1 q4).1) (pm_mkA (pm_shA ((((h.2 q1).1 q2).2 q3).1 q4).2.1) (⟨((((((((((((((((h.2 q1).1 q2).2 q3).1 q4).2.2.1 q5).1 q6).2 q7).2 q8).2 q9).2 q10).2 q11).2 q12).1 q13).2 q14).2 q15).1 q16).1, ((((((((((((((((h.2 q1).1 q2).2 q3).1 q4).2.2.1 q5).1 q6).2 q7).2 q8).2 q9).2 q10).2 q11).2 q12).1 q13).2 q14).2 q15).1 q16).2⟩)))), fun z => absurd (by decide) z⟩, fun q16 => ⟨fun z => absurd z (by decide), fun _ => ((((((((((((((((h.2 q1).1 q2).2 q3).1 q4).2.2.1 q5).1 q6).2 q7).2 q8).2 q9).2 q10).2 q11).2 q12).1 q13).2 q14).2 q15).2 q16)⟩⟩)⟩⟩)⟩, fun z => absurd z (by decide)⟩⟩⟩))), fun z => absurd (by decide) z⟩⟩, fun z => absurd q6 z⟩)))))⟩, fun q13 => ⟨fun _ => (((((((((((((h.2 q1).1 q2).2 q3).1 q4).2.2.1 q5).1 q6).2 q7).2 q8).2 q9).2 q10).2 q11).2 q12).2 q13), fun z => absurd z (by decide)⟩⟩)⟩⟩)⟩, fun z => absurd z (by decide)⟩⟩⟩))), fun z => absurd (by decide) z⟩⟩, fun z => absurd q5 z⟩))))), fun z => absurd z (by decide)⟩⟩⟩)⟩⟩⟩))))))⟩⟩⟩))), fun z => absurd (by decide) z⟩⟩, fun q6 => pm_mkO (pm_shO ((((h.2 q1).1 q2).2 q3).1 q4).2.1) (⟨fun q17 => ⟨Or.inl rfl, ⟨fun _ => pm_mkO (pm_shO ((((h.2 q1).1 q2).2 q3).1 q4).1) (u_Sh_isRow (43 + 2 * a1.toNatClampNeg) (pm_mkO (pm_shO ((((h.2 q1).1 q2).2 q3).1 q4).1) (⟨fun q18 => ⟨Or.inl rfl, ⟨fun _ => ((((((((h.2 q1).1 q2).2 q3).1 q4).2.2.1 q5).2 q6).1 q17).1 q18), fun z => absurd (by decide) z⟩⟩, fun q18 => ⟨Or.inr rfl, ⟨fun z => absurd z (by decide), fun _ => pm_mkO (pm_shO ((((h.2 q1).1 q2).2 q3).1 q4).1) (pm_mkO (pm_shO ((((h.2 q1).1 q2).2 q3).1 q4).2.1) (u_Sh_isRowOf (43 + 2 * a3.toNatClampNeg) (H.1 (43 + 2 * a1.toNatClampNeg) 1) (pm_mkO (pm_shO ((((h.2 q1).1 q2).2 q3).1 q4).2.1) (u_Sh_isRow (43 + 2 * a3.toNatClampNeg) (pm_mkO (pm_shO ((((h.2 q1).1 q2).2 q3).1 q4).2.1) (⟨fun z => absurd z q17, fun _ => ⟨Or.inr rfl, ⟨fun z => absurd z (by decide), fun _ => pm_mkO (pm_shO ((((h.2 q1).1 q2).2 q3).1 q4).2.1) (⟨fun q19 => ⟨Or.inl rfl, ⟨fun z => absurd (by decide) z, fun _ => (((((((((h.2 q1).1 q2).2 q3).1 q4).2.2.1 q5).2 q6).1 q17).2 q18).1 q19)⟩⟩, fun q19 => ⟨Or.inr rfl, ⟨fun _ => pm_mkO (pm_shO ((((h.2 q1).1 q2).2 q3).1 q4).1) (u_Sh_refusalOfPlaces (43 + 2 * a1.toNatClampNeg) a2 a5 (pm_mkO (pm_shO ((((h.2 q1).1 q2).2 q3).1 q4).1) (u_Sh_isEmpty (43 + 2 * a1.toNatClampNeg) (pm_mkO (pm_shO ((((h.2 q1).1 q2).2 q3).1 q4).1) (⟨fun _ => ⟨Or.inl rfl, ⟨fun _ => pm_mkO (pm_shO ((((h.2 q1).1 q2).2 q3).1 q4).1) (u_Sh_isRow (43 + 2 * a1.toNatClampNeg) (pm_mkO (pm_shO ((((h.2 q1).1 q2).2 q3).1 q4).1) (⟨fun z => absurd z q18, fun _ => ⟨Or.inr rfl, ⟨fun _ => ⟨fun q20 => ⟨fun _ => ((((((((((h.2 q1).1 q2).2 q3).1 q4).2.2.1 q5).2 q6).1 q17).2 q18).2 q19).1 q20), fun z => absurd z (by decide)⟩, fun q20 => pm_mkO (pm_shO ((((h.2 q1).1 q2).2 q3).1 q4).1) (⟨fun q21 => ⟨fun _ => (((((((((((h.2 q1).1 q2).2 q3).1 q4).2.2.1 q5).2 q6).1 q17).2 q18).2 q19).2 q20).1 q21), fun z => absurd z (by decide)⟩, fun q21 => ⟨fun q22 => ⟨fun _ => ((((((((((((h.2 q1).1 q2).2 q3).1 q4).2.2.1 q5).2 q6).1 q17).2 q18).2 q19).2 q20).2 q21).1 q22), fun z => absurd z (by decide)⟩, fun q22 => pm_mkO (pm_shO ((((h.2 q1).1 q2).2 q3).1 q4).1) (⟨fun q23 => ⟨fun z => absurd (by decide) z, fun _ => pm_mkO (pm_shO ((((h.2 q1).1 q2).2 q3).1 q4).2.1) (u_Sh_refusalOfPlaces (43 + 2 * a3.toNatClampNeg) a4 a5 (pm_mkO (pm_shO ((((h.2 q1).1 q2).2 q3).1 q4).2.1) (u_Sh_isEmpty (43 + 2 * a3.toNatClampNeg) (pm_mkO (pm_shO ((((h.2 q1).1 q2).2 q3).1 q4).2.1) (⟨fun z => absurd z q6, fun _ => pm_mkO (pm_shO ((((h.2 q1).1 q2).2 q3).1 q4).2.1) (⟨fun _ => ⟨Or.inl rfl, ⟨fun _ => pm_mkO (pm_shO ((((h.2 q1).1 q2).2 q3).1 q4).2.1) (u_Sh_isRow (43 + 2 * a3.toNatClampNeg) (pm_mkO (pm_shO ((((h.2 q1).1 q2).2 q3).1 q4).2.1) (⟨fun z => absurd z q17, fun _ => ⟨Or.inr rfl, ⟨fun _ => ⟨fun q24 => ⟨fun z => absurd z (by decide), fun _ => ((((((((((((((h.2 q1).1 q2).2 q3).1 q4).2.2.1 q5).2 q6).1 q17).2 q18).2 q19).2 q20).2 q21).2 q22).1 q23).1 q24)⟩, fun q24 => pm_mkO (pm_shO ((((h.2 q1).1 q2).2 q3).1 q4).2.1) (⟨fun q25 => ⟨fun z => absurd z (by decide), fun _ => (((((((((((((((h.2 q1).1 q2).2 q3).1 q4).2.2.1 q5).2 q6).1 q17).2 q18).2 q19).2 q20).2 q21).2 q22).1 q23).2 q24).1 q25)⟩, fun q25 => ⟨fun z => absurd z q22, fun _ => pm_mkO (pm_shO ((((h.2 q1).1 q2).2 q3).1 q4).2.1) (⟨fun q26 => ⟨fun _ => pm_mkO (pm_shO ((((h.2 q1).1 q2).2 q3).1 q4).1) (pm_mkO (pm_shO ((((h.2 q1).1 q2).2 q3).1 q4).2.1) (pm_mkA (pm_shA ((((h.2 q1).1 q2).2 q3).1 q4).1) (pm_mkA (pm_shA ((((h.2 q1).1 q2).2 q3).1 q4).2.1) (⟨((((((((((((((((h.2 q1).1 q2).2 q3).1 q4).2.2.1 q5).2 q6).1 q17).2 q18).2 q19).2 q20).2 q21).2 q22).1 q23).2 q24).2 q25).1 q26).1, ((((((((((((((((h.2 q1).1 q2).2 q3).1 q4).2.2.1 q5).2 q6).1 q17).2 q18).2 q19).2 q20).2 q21).2 q22).1 q23).2 q24).2 q25).1 q26).2⟩)))), fun z => absurd (by decide) z⟩, fun q26 => ⟨fun z => absurd z (by decide), fun _ => ((((((((((((((((h.2 q1).1 q2).2 q3).1 q4).2.2.1 q5).2 q6).1 q17).2 q18).2 q19).2 q20).2 q21).2 q22).1 q23).2 q24).2 q25).2 q26)⟩⟩)⟩⟩)⟩, fun z => absurd z (by decide)⟩⟩⟩))), fun z => absurd (by decide) z⟩⟩, fun z => absurd z q17⟩)⟩)))))⟩, fun q23 => ⟨fun _ => (((((((((((((h.2 q1).1 q2).2 q3).1 q4).2.2.1 q5).2 q6).1 q17).2 q18).2 q19).2 q20).2 q21).2 q22).2 q23), fun z => absurd z (by decide)⟩⟩)⟩⟩)⟩, fun z => absurd z (by decide)⟩⟩⟩))), fun z => absurd (by decide) z⟩⟩, fun z => absurd q5 z⟩))))), fun z => absurd z (by decide)⟩⟩⟩)⟩⟩⟩))))))⟩⟩⟩))), fun z => absurd (by decide) z⟩⟩, fun q17 => ⟨Or.inr rfl, ⟨fun z => absurd z (by decide), fun _ => (((((((h.2 q1).1 q2).2 q3).1 q4).2.2.1 q5).2 q6).2 q17)⟩⟩⟩)⟩)))⟩⟩, fun q5 => pm_mkO (pm_shO ((((h.2 q1).1 q2).2 q3).1 q4).1) (⟨fun q27 => ⟨Or.inl rfl, ⟨fun z => absurd (by decide) z, fun _ => pm_mkO (pm_shO ((((h.2 q1).1 q2).2 q3).1 q4).2.1) (u_Sh_isEmpty (43 + 2 * a3.toNatClampNeg) (pm_mkO (pm_shO ((((h.2 q1).1 q2).2 q3).1 q4).2.1) (⟨fun q28 => ⟨Or.inl rfl, ⟨fun _ => pm_mkO (pm_shO ((((h.2 q1).1 q2).2 q3).1 q4).1) (u_Sh_isRow (43 + 2 * a1.toNatClampNeg) (pm_mkO (pm_shO ((((h.2 q1).1 q2).2 q3).1 q4).1) (⟨fun z => absurd z q27, fun _ => ⟨Or.inr rfl, ⟨fun z => absurd z (by decide), fun _ => pm_mkO (pm_shO ((((h.2 q1).1 q2).2 q3).1 q4).1) (pm_mkO (pm_shO ((((h.2 q1).1 q2).2 q3).1 q4).2.1) (u_Sh_isRowOf (43 + 2 * a3.toNatClampNeg) (H.1 (43 + 2 * a1.toNatClampNeg) 1) (pm_mkO (pm_shO ((((h.2 q1).1 q2).2 q3).1 q4).2.1) (u_Sh_isRow (43 + 2 * a3.toNatClampNeg) (pm_mkO (pm_shO ((((h.2 q1).1 q2).2 q3).1 q4).2.1) (⟨fun q29 => ⟨Or.inl rfl, ⟨fun _ => ⟨Or.inl rfl, ⟨fun z => absurd (by decide) z, fun _ => ((((((((h.2 q1).1 q2).2 q3).1 q4).2.2.2 q5).1 q27).1 q28).1 q29)⟩⟩, fun z => absurd (by decide) z⟩⟩, fun q29 => ⟨Or.inr rfl, ⟨fun z => absurd z (by decide), fun _ => pm_mkO (pm_shO ((((h.2 q1).1 q2).2 q3).1 q4).2.1) (⟨fun q30 => ⟨Or.inl rfl, ⟨fun z => absurd (by decide) z, fun _ => (((((((((h.2 q1).1 q2).2 q3).1 q4).2.2.2 q5).1 q27).1 q28).2 q29).1 q30)⟩⟩, fun q30 => ⟨Or.inr rfl, ⟨fun _ => pm_mkO (pm_shO ((((h.2 q1).1 q2).2 q3).1 q4).1) (u_Sh_refusalOfPlaces (43 + 2 * a1.toNatClampNeg) a2 a5 (pm_mkO (pm_shO ((((h.2 q1).1 q2).2 q3).1 q4).1) (u_Sh_isEmpty (43 + 2 * a1.toNatClampNeg) (pm_mkO (pm_shO ((((h.2 q1).1 q2).2 q3).1 q4).1) (⟨fun z => absurd z q5, fun _ => pm_mkO (pm_shO ((((h.2 q1).1 q2).2 q3).1 q4).1) (⟨fun _ => ⟨Or.inl rfl, ⟨fun _ => pm_mkO (pm_shO ((((h.2 q1).1 q2).2 q3).1 q4).1) (u_Sh_isRow (43 + 2 * a1.toNatClampNeg) (pm_mkO (pm_shO ((((h.2 q1).1 q2).2 q3).1 q4).1) (⟨fun z => absurd z q27, fun _ => ⟨Or.inr rfl, ⟨fun _ => ⟨fun q31 => ⟨fun _ => ((((((((((h.2 q1).1 q2).2 q3).1 q4).2.2.2 q5).1 q27).1 q28).2 q29).2 q30).1 q31), fun z => absurd z (by decide)⟩, fun q31 => pm_mkO (pm_shO ((((h.2 q1).1 q2).2 q3).1 q4).1) (⟨fun q32 => ⟨fun _ => (((((((((((h.2 q1).1 q2).2 q3).1 q4).2.2.2 q5).1 q27).1 q28).2 q29).2 q30).2 q31).1 q32), fun z => absurd z (by decide)⟩, fun q32 => ⟨fun q33 => ⟨fun _ => ((((((((((((h.2 q1).1 q2).2 q3).1 q4).2.2.2 q5).1 q27).1 q28).2 q29).2 q30).2 q31).2 q32).1 q33), fun z => absurd z (by decide)⟩, fun q33 => pm_mkO (pm_shO ((((h.2 q1).1 q2).2 q3).1 q4).1) (⟨fun q34 => ⟨fun z => absurd (by decide) z, fun _ => pm_mkO (pm_shO ((((h.2 q1).1 q2).2 q3).1 q4).2.1) (u_Sh_refusalOfPlaces (43 + 2 * a3.toNatClampNeg) a4 a5 (pm_mkO (pm_shO ((((h.2 q1).1 q2).2 q3).1 q4).2.1) (u_Sh_isEmpty (43 + 2 * a3.toNatClampNeg) (pm_mkO (pm_shO ((((h.2 q1).1 q2).2 q3).1 q4).2.1) (⟨fun _ => ⟨Or.inl rfl, ⟨fun _ => pm_mkO (pm_shO ((((h.2 q1).1 q2).2 q3).1 q4).2.1) (u_Sh_isRow (43 + 2 * a3.toNatClampNeg) (pm_mkO (pm_shO ((((h.2 q1).1 q2).2 q3).1 q4).2.1) (⟨fun z => absurd z q29, fun _ => ⟨Or.inr rfl, ⟨fun _ => ⟨fun q35 => ⟨fun z => absurd z (by decide), fun _ => ((((((((((((((h.2 q1).1 q2).2 q3).1 q4).2.2.2 q5).1 q27).1 q28).2 q29).2 q30).2 q31).2 q32).2 q33).1 q34).1 q35)⟩, fun q35 => pm_mkO (pm_shO ((((h.2 q1).1 q2).2 q3).1 q4).2.1) (⟨fun q36 => ⟨fun z => absurd z (by decide), fun _ => (((((((((((((((h.2 q1).1 q2).2 q3).1 q4).2.2.2 q5).1 q27).1 q28).2 q29).2 q30).2 q31).2 q32).2 q33).1 q34).2 q35).1 q36)⟩, fun q36 => ⟨fun z => absurd z q33, fun _ => pm_mkO (pm_shO ((((h.2 q1).1 q2).2 q3).1 q4).2.1) (⟨fun q37 => ⟨fun _ => pm_mkO (pm_shO ((((h.2 q1).1 q2).2 q3).1 q4).1) (pm_mkO (pm_shO ((((h.2 q1).1 q2).2 q3).1 q4).2.1) (pm_mkA (pm_shA ((((h.2 q1).1 q2).2 q3).1 q4).1) (pm_mkA (pm_shA ((((h.2 q1).1 q2).2 q3).1 q4).2.1) (⟨((((((((((((((((h.2 q1).1 q2).2 q3).1 q4).2.2.2 q5).1 q27).1 q28).2 q29).2 q30).2 q31).2 q32).2 q33).1 q34).2 q35).2 q36).1 q37).1, ((((((((((((((((h.2 q1).1 q2).2 q3).1 q4).2.2.2 q5).1 q27).1 q28).2 q29).2 q30).2 q31).2 q32).2 q33).1 q34).2 q35).2 q36).1 q37).2⟩)))), fun z => absurd (by decide) z⟩, fun q37 => ⟨fun z => absurd z (by decide), fun _ => ((((((((((((((((h.2 q1).1 q2).2 q3).1 q4).2.2.2 q5).1 q27).1 q28).2 q29).2 q30).2 q31).2 q32).2 q33).1 q34).2 q35).2 q36).2 q37)⟩⟩)⟩⟩)⟩, fun z => absurd z (by decide)⟩⟩⟩))), fun z => absurd (by decide) z⟩⟩, fun z => absurd q28 z⟩)))))⟩, fun q34 => ⟨fun _ => (((((((((((((h.2 q1).1 q2).2 q3).1 q4).2.2.2 q5).1 q27).1 q28).2 q29).2 q30).2 q31).2 q32).2 q33).2 q34), fun z => absurd z (by decide)⟩⟩)⟩⟩)⟩, fun z => absurd z (by decide)⟩⟩⟩))), fun z => absurd (by decide) z⟩⟩, fun z => absurd z q27⟩)⟩))))), fun z => absurd z (by decide)⟩⟩⟩)⟩⟩⟩))))))⟩⟩⟩))), fun z => absurd (by decide) z⟩⟩, fun q28 => pm_mkO (pm_shO ((((h.2 q1).1 q2).2 q3).1 q4).2.1) (⟨fun q38 => ⟨Or.inl rfl, ⟨fun _ => pm_mkO (pm_shO ((((h.2 q1).1 q2).2 q3).1 q4).1) (u_Sh_isRow (43 + 2 * a1.toNatClampNeg) (pm_mkO (pm_shO ((((h.2 q1).1 q2).2 q3).1 q4).1) (⟨fun z => absurd z q27, fun _ => ⟨Or.inr rfl, ⟨fun z => absurd z (by decide), fun _ => pm_mkO (pm_shO ((((h.2 q1).1 q2).2 q3).1 q4).1) (pm_mkO (pm_shO ((((h.2 q1).1 q2).2 q3).1 q4).2.1) (u_Sh_isRowOf (43 + 2 * a3.toNatClampNeg) (H.1 (43 + 2 * a1.toNatClampNeg) 1) (pm_mkO (pm_shO ((((h.2 q1).1 q2).2 q3).1 q4).2.1) (u_Sh_isRow (43 + 2 * a3.toNatClampNeg) (pm_mkO (pm_shO ((((h.2 q1).1 q2).2 q3).1 q4).2.1) (⟨fun z => absurd z q38, fun _ => ⟨Or.inr rfl, ⟨fun z => absurd z (by decide), fun _ => pm_mkO (pm_shO ((((h.2 q1).1 q2).2 q3).1 q4).2.1) (⟨fun q39 => ⟨Or.inl rfl, ⟨fun z => absurd (by decide) z, fun _ => (((((((((h.2 q1).1 q2).2 q3).1 q4).2.2.2 q5).1 q27).2 q28).1 q38).1 q39)⟩⟩, fun q39 => ⟨Or.inr rfl, ⟨fun _ => pm_mkO (pm_shO ((((h.2 q1).1 q2).2 q3).1 q4).1) (u_Sh_refusalOfPlaces (43 + 2 * a1.toNatClampNeg) a2 a5 (pm_mkO (pm_shO ((((h.2 q1).1 q2).2 q3).1 q4).1) (u_Sh_isEmpty (43 + 2 * a1.toNatClampNeg) (pm_mkO (pm_shO ((((h.2 q1).1 q2).2 q3).1 q4).1) (⟨fun z => absurd z q5, fun _ => pm_mkO (pm_shO ((((h.2 q1).1 q2).2 q3).1 q4).1) (⟨fun _ => ⟨Or.inl rfl, ⟨fun _ => pm_mkO (pm_shO ((((h.2 q1).1 q2).2 q3).1 q4).1) (u_Sh_isRow (43 + 2 * a1.toNatClampNeg) (pm_mkO (pm_shO ((((h.2 q1).1 q2).2 q3).1 q4).1) (⟨fun z => absurd z q27, fun _ => ⟨Or.inr rfl, ⟨fun _ => ⟨fun q40 => ⟨fun _ => ((((((((((h.2 q1).1 q2).2 q3).1 q4).2.2.2 q5).1 q27).2 q28).1 q38).2 q39).1 q40), fun z => absurd z (by decide)⟩, fun q40 => pm_mkO (pm_shO ((((h.2 q1).1 q2).2 q3).1 q4).1) (⟨fun q41 => ⟨fun _ => (((((((((((h.2 q1).1 q2).2 q3).1 q4).2.2.2 q5).1 q27).2 q28).1 q38).2 q39).2 q40).1 q41), fun z => absurd z (by decide)⟩, fun q41 => ⟨fun q42 => ⟨fun _ => ((((((((((((h.2 q1).1 q2).2 q3).1 q4).2.2.2 q5).1 q27).2 q28).1 q38).2 q39).2 q40).2 q41).1 q42), fun z => absurd z (by decide)⟩, fun q42 => pm_mkO (pm_shO ((((h.2 q1).1 q2).2 q3).1 q4).1) (⟨fun q43 => ⟨fun z => absurd (by decide) z, fun _ => pm_mkO (pm_shO ((((h.2 q1).1 q2).2 q3).1 q4).2.1) (u_Sh_refusalOfPlaces (43 + 2 * a3.toNatClampNeg) a4 a5 (pm_mkO (pm_shO ((((h.2 q1).1 q2).2 q3).1 q4).2.1) (u_Sh_isEmpty (43 + 2 * a3.toNatClampNeg) (pm_mkO (pm_shO ((((h.2 q1).1 q2).2 q3).1 q4).2.1) (⟨fun z => absurd z q28, fun _ => pm_mkO (pm_shO ((((h.2 q1).1 q2).2 q3).1 q4).2.1) (⟨fun _ => ⟨Or.inl rfl, ⟨fun _ => pm_mkO (pm_shO ((((h.2 q1).1 q2).2 q3).1 q4).2.1) (u_Sh_isRow (43 + 2 * a3.toNatClampNeg) (pm_mkO (pm_shO ((((h.2 q1).1 q2).2 q3).1 q4).2.1) (⟨fun z => absurd z q38, fun _ => ⟨Or.inr rfl, ⟨fun _ => ⟨fun q44 => ⟨fun z => absurd z (by decide), fun _ => ((((((((((((((h.2 q1).1 q2).2 q3).1 q4).2.2.2 q5).1 q27).2 q28).1 q38).2 q39).2 q40).2 q41).2 q42).1 q43).1 q44)⟩, fun q44 => pm_mkO (pm_shO ((((h.2 q1).1 q2).2 q3).1 q4).2.1) (⟨fun q45 => ⟨fun z => absurd z (by decide), fun _ => (((((((((((((((h.2 q1).1 q2).2 q3).1 q4).2.2.2 q5).1 q27).2 q28).1 q38).2 q39).2 q40).2 q41).2 q42).1 q43).2 q44).1 q45)⟩, fun q45 => ⟨fun z => absurd z q42, fun _ => pm_mkO (pm_shO ((((h.2 q1).1 q2).2 q3).1 q4).2.1) (⟨fun q46 => ⟨fun _ => pm_mkO (pm_shO ((((h.2 q1).1 q2).2 q3).1 q4).1) (pm_mkO (pm_shO ((((h.2 q1).1 q2).2 q3).1 q4).2.1) (pm_mkA (pm_shA ((((h.2 q1).1 q2).2 q3).1 q4).1) (pm_mkA (pm_shA ((((h.2 q1).1 q2).2 q3).1 q4).2.1) (⟨((((((((((((((((h.2 q1).1 q2).2 q3).1 q4).2.2.2 q5).1 q27).2 q28).1 q38).2 q39).2 q40).2 q41).2 q42).1 q43).2 q44).2 q45).1 q46).1, ((((((((((((((((h.2 q1).1 q2).2 q3).1 q4).2.2.2 q5).1 q27).2 q28).1 q38).2 q39).2 q40).2 q41).2 q42).1 q43).2 q44).2 q45).1 q46).2⟩)))), fun z => absurd (by decide) z⟩, fun q46 => ⟨fun z => absurd z (by decide), fun _ => ((((((((((((((((h.2 q1).1 q2).2 q3).1 q4).2.2.2 q5).1 q27).2 q28).1 q38).2 q39).2 q40).2 q41).2 q42).1 q43).2 q44).2 q45).2 q46)⟩⟩)⟩⟩)⟩, fun z => absurd z (by decide)⟩⟩⟩))), fun z => absurd (by decide) z⟩⟩, fun z => absurd z q38⟩)⟩)))))⟩, fun q43 => ⟨fun _ => (((((((((((((h.2 q1).1 q2).2 q3).1 q4).2.2.2 q5).1 q27).2 q28).1 q38).2 q39).2 q40).2 q41).2 q42).2 q43), fun z => absurd z (by decide)⟩⟩)⟩⟩)⟩, fun z => absurd z (by decide)⟩⟩⟩))), fun z => absurd (by decide) z⟩⟩, fun z => absurd z q27⟩)⟩))))), fun z => absurd z (by decide)⟩⟩⟩)⟩⟩⟩))))))⟩⟩⟩))), fun z => absurd (by decide) z⟩⟩, fun q38 => ⟨Or.inr rfl, ⟨fun z => absurd z (by decide), fun _ => ((((((((h.2 q1).1 q2).2 q3).1 q4).2.2.2 q5).1 q27).2 q28).2 q38)⟩⟩⟩)⟩)))⟩⟩, fun q27 => ⟨Or.inr rfl, ⟨fun _ => ((((((h.2 q1).1 q2).2 q3).1 q4).2.2.2 q5).2 q27), fun z => absurd z (by decide)⟩⟩⟩)⟩)))⟩⟩, fun z => absurd (by decide) z⟩⟩⟩, fun q4 => ⟨Or.inr rfl, ⟨Or.inr rfl, ⟨fun z => absurd z (by decide), fun _ => ((((h.2 q1).1 q2).2 q3).2 q4)⟩⟩⟩⟩⟩))⟩⟩⟩, fun q2 => ⟨Or.inr rfl, ⟨Or.inr rfl, ⟨fun _ => ((h.2 q1).2 q2), fun z => absurd z (by decide)⟩⟩⟩⟩⟩)))
def T_PW_taken : List pmE := [
  (0, [], .iload 1, 0, 0, 0),
  (1, [], .invokeinterface 137 5, 1, 81, 396),
  (4, [], .ifCond .ne 17, 0, 0, 0),
  (7, [], .iload 2, 0, 0, 0),
  (8, [], .iconst 0, 0, 0, 0),
  (9, [], .iconst 7, 1, 0, 0),
  (11, [], .invokeinterface 135 13, 1, 73, 385),
  (14, [], .ifCond .eq 19, 0, 0, 0),
  (17, [], .iconst (-1), 0, 0, 0),
  (18, [], .ireturn, 0, 0, 0),
  (19, [], .aload 0, 0, 0, 0),
  (20, [], .getfield 518, 0, 51, 353),
  (23, [], .iload 1, 0, 0, 0),
  (24, [], .aaload, 0, 0, 0),
  (25, [], .astore 3, 0, 0, 0),
  (26, [], .aload 3, 0, 0, 0),
  (27, [], .invokeinterface 82 517, 0, 85, 399),
  (30, [], .ifCond .eq 36, 0, 0, 0),
  (33, [], .iconst (-11), 1, 0, 0),
  (35, [], .ireturn, 0, 0, 0),
  (36, [], .aload 3, 0, 0, 0),
  (37, [], .invokeinterface 83 517, 0, 348, 959),
  (40, [], .ifCond .eq 47, 0, 0, 0),
  (43, [], .iconst (-1), 0, 0, 0),
  (44, [], .goto 58, 0, 0, 0),
  (47, [], .aload 0, 0, 0, 0),
  (48, [], .getfield 517, 0, 45, 352),
  (51, [], .aload 3, 0, 0, 0),
  (52, [], .getfield 448, 0, 358, 328),
  (55, [], .invokeinterface 2 73, 0, 361, 964),
  (58, [], .istore 4, 1, 0, 0),
  (60, [], .iload 4, 1, 0, 0),
  (62, [], .iload 2, 0, 0, 0),
  (63, [], .invokeinterface 3 9, 1, 364, 965),
  (66, [], .ifCond .eq 74, 0, 0, 0),
  (69, [], .iload 4, 1, 0, 0),
  (71, [], .goto 76, 0, 0, 0),
  (74, [], .iconst (-12), 1, 0, 0),
  (76, [], .ireturn, 0, 0, 0)]
theorem tk_PW_taken : pm_okT M_PW_taken T_PW_taken = true := by decide +kernel
theorem ok_PW_taken : pm_okm M_PW_taken := pm_okm_of _ 963 76 961 962 (by decide +kernel)
set_option maxRecDepth 100000 in
set_option maxHeartbeats 4000000 in
theorem m_PW_taken {d : Nat} {H : pmT} {Q : pmQ} (a1 : Int32) (a2 : Int32)
    (h : (a1 < (0 : Int32) → Q (some (.int (-1 : Int32))) H) ∧ (¬ a1 < (0 : Int32) → (a1 ≤ (5 : Int32) → (a2 < (0 : Int32) → Q (some (.int (-1 : Int32))) H) ∧ (¬ a2 < (0 : Int32) → (a2 ≤ (7 : Int32) → vp_in a1 6 ∧ ((0 ≤ (H.1 (43 + 2 * a1.toNatClampNeg) 0) → ((H.1 (43 + 2 * a1.toNatClampNeg) 1) = (-1 : Int32) → ((H.1 (43 + 2 * a1.toNatClampNeg) 0) < (0 : Int32) → pm_R (d + 1) M_Bo_isUnder [.int (-1 : Int32), .int a2] H (pm_i (fun x340 H339 => (x340 = 0 → Q (some (.int (-12 : Int32))) H339) ∧ (¬ x340 = 0 → Q (some (.int (-1 : Int32))) H339)))) ∧ (¬ (H.1 (43 + 2 * a1.toNatClampNeg) 0) < (0 : Int32) → ((H.1 (43 + 2 * a1.toNatClampNeg) 0) ≤ ((H.1 31 1) - (1 : Int32)) → vp_in (H.1 (43 + 2 * a1.toNatClampNeg) 0) 50 ∧ (pm_R (d + 1) M_Bo_isUnder [.int (H.1 32 ((H.1 (43 + 2 * a1.toNatClampNeg) 0).toNatClampNeg)), .int a2] H (pm_i (fun x342 H341 => (x342 = 0 → Q (some (.int (-12 : Int32))) H341) ∧ (¬ x342 = 0 → Q (some (.int (H.1 32 ((H.1 (43 + 2 * a1.toNatClampNeg) 0).toNatClampNeg)))) H341))))) ∧ (¬ (H.1 (43 + 2 * a1.toNatClampNeg) 0) ≤ ((H.1 31 1) - (1 : Int32)) → pm_R (d + 1) M_Bo_isUnder [.int (-1 : Int32), .int a2] H (pm_i (fun x348 H347 => (x348 = 0 → Q (some (.int (-12 : Int32))) H347) ∧ (¬ x348 = 0 → Q (some (.int (-1 : Int32))) H347)))))) ∧ (¬ (H.1 (43 + 2 * a1.toNatClampNeg) 1) = (-1 : Int32) → pm_R (d + 1) M_Bo_isUnder [.int (-1 : Int32), .int a2] H (pm_i (fun x364 H363 => (x364 = 0 → Q (some (.int (-12 : Int32))) H363) ∧ (¬ x364 = 0 → Q (some (.int (-1 : Int32))) H363))))) ∧ (¬ 0 ≤ (H.1 (43 + 2 * a1.toNatClampNeg) 0) → (¬ (H.1 (43 + 2 * a1.toNatClampNeg) 1) = (-1 : Int32) → pm_R (d + 1) M_Bo_isUnder [.int (-1 : Int32), .int a2] H (pm_i (fun x392 H391 => (x392 = 0 → Q (some (.int (-12 : Int32))) H391) ∧ (¬ x392 = 0 → Q (some (.int (-1 : Int32))) H391)))) ∧ ((H.1 (43 + 2 * a1.toNatClampNeg) 1) = (-1 : Int32) → Q (some (.int (-11 : Int32))) H)))) ∧ (¬ a2 ≤ (7 : Int32) → Q (some (.int (-1 : Int32))) H))) ∧ (¬ a1 ≤ (5 : Int32) → Q (some (.int (-1 : Int32))) H))) : pm_R (d + 2) M_PW_taken [.ref 0, .int a1, .int a2] H Q :=
  pm_walk (n := 32) ok_PW_taken tk_PW_taken rfl (Nat.le_of_ble_eq_true rfl) (show pm_R (d + 1) M_PW_noShelf [.int a1] H (pm_i (fun x2 H1 => (¬ x2 = 0 → Q (some (.int (-1 : Int32))) H1) ∧ (x2 = 0 → pm_R (d + 1) M_PW_outside [.int a2, .int (0 : Int32), .int (7 : Int32)] H1 (pm_i (fun x4 H3 => (x4 = 0 → vp_in a1 6 ∧ (pm_chkO (43 + 2 * a1.toNatClampNeg) 7 (pm_R (d + 1) M_Sh_isEmpty [.ref (43 + 2 * a1.toNatClampNeg)] H3 (pm_i (fun x6 H5 => (x6 = 0 → pm_chkO (43 + 2 * a1.toNatClampNeg) 7 (pm_R (d + 1) M_Sh_isRow [.ref (43 + 2 * a1.toNatClampNeg)] H5 (pm_i (fun x8 H7 => (x8 = 0 → pm_chkO (43 + 2 * a1.toNatClampNeg) 7 (pm_R (d + 1) M_Bo_kindOf [.ref 31, .int (H7.1 (43 + 2 * a1.toNatClampNeg) 0)] H7 (pm_i (fun x10 H9 => pm_R (d + 1) M_Bo_isUnder [.int x10, .int a2] H9 (pm_i (fun x12 H11 => (x12 = 0 → Q (some (.int (-12 : Int32))) H11) ∧ (¬ x12 = 0 → Q (some (.int x10)) H11))))))) ∧ (¬ x8 = 0 → pm_R (d + 1) M_Bo_isUnder [.int (-1 : Int32), .int a2] H7 (pm_i (fun x14 H13 => (x14 = 0 → Q (some (.int (-12 : Int32))) H13) ∧ (¬ x14 = 0 → Q (some (.int (-1 : Int32))) H13)))))))) ∧ (¬ x6 = 0 → Q (some (.int (-11 : Int32))) H5)))))) ∧ (¬ x4 = 0 → Q (some (.int (-1 : Int32))) H3)))))) from u_PW_noShelf a1 (u_PW_outside a1 (0 : Int32) (5 : Int32) (⟨fun q1 => ⟨Or.inr rfl, ⟨Or.inr rfl, ⟨fun _ => (h.1 q1), fun z => absurd z (by decide)⟩⟩⟩, fun q1 => ⟨fun q2 => ⟨Or.inl rfl, ⟨Or.inl rfl, ⟨fun z => absurd (by decide) z, fun _ => u_PW_outside a2 (0 : Int32) (7 : Int32) (⟨fun q3 => ⟨Or.inr rfl, ⟨fun z => absurd z (by decide), fun _ => (((h.2 q1).1 q2).1 q3)⟩⟩, fun q3 => ⟨fun q4 => ⟨Or.inl rfl, ⟨fun _ => ⟨((((h.2 q1).1 q2).2 q3).1 q4).1, pm_mkO (pm_shO ((((h.2 q1).1 q2).2 q3).1 q4).1) (u_Sh_isEmpty (43 + 2 * a1.toNatClampNeg) (pm_mkO (pm_shO ((((h.2 q1).1 q2).2 q3).1 q4).1) (⟨fun q5 => ⟨Or.inl rfl, ⟨fun _ => pm_mkO (pm_shO ((((h.2 q1).1 q2).2 q3).1 q4).1) (u_Sh_isRow (43 + 2 * a1.toNatClampNeg) (pm_mkO (pm_shO ((((h.2 q1).1 q2).2 q3).1 q4).1) (⟨fun q6 => ⟨Or.inl rfl, ⟨fun _ => pm_mkO (pm_shO ((((h.2 q1).1 q2).2 q3).1 q4).1) (u_Bo_kindOf (H.1 (43 + 2 * a1.toNatClampNeg) 0) (u_PW_outside (H.1 (43 + 2 * a1.toNatClampNeg) 0) (0 : Int32) ((H.1 31 1) - (1 : Int32)) (⟨fun q7 => ⟨Or.inr rfl, ⟨fun z => absurd z (by decide), fun _ => pm_mi (((((((h.2 q1).1 q2).2 q3).1 q4).2.1 q5).1 q6).1 q7) (fun x340 H339 z8 => ⟨fun q9 => (z8.1 q9), fun q9 => (z8.2 q9)⟩)⟩⟩, fun q7 => ⟨fun q10 => ⟨Or.inl rfl, ⟨fun _ => ⟨((((((((h.2 q1).1 q2).2 q3).1 q4).2.1 q5).1 q6).2 q7).1 q10).1, pm_mi ((((((((h.2 q1).1 q2).2 q3).1 q4).2.1 q5).1 q6).2 q7).1 q10).2 (fun x342 H341 z11 => ⟨fun q12 => (z11.1 q12), fun q12 => (z11.2 q12)⟩)⟩, fun z => absurd (by decide) z⟩⟩, fun q10 => ⟨Or.inr rfl, ⟨fun z => absurd z (by decide), fun _ => pm_mi ((((((((h.2 q1).1 q2).2 q3).1 q4).2.1 q5).1 q6).2 q7).2 q10) (fun x348 H347 z13 => ⟨fun q14 => (z13.1 q14), fun q14 => (z13.2 q14)⟩)⟩⟩⟩⟩))), fun z => absurd (by decide) z⟩⟩, fun q6 => ⟨Or.inr rfl, ⟨fun z => absurd z (by decide), fun _ => pm_mi ((((((h.2 q1).1 q2).2 q3).1 q4).2.1 q5).2 q6) (fun x364 H363 z15 => ⟨fun q16 => (z15.1 q16), fun q16 => (z15.2 q16)⟩)⟩⟩⟩))), fun z => absurd (by decide) z⟩⟩, fun q5 => pm_mkO (pm_shO ((((h.2 q1).1 q2).2 q3).1 q4).1) (⟨fun q17 => ⟨Or.inl rfl, ⟨fun _ => pm_mkO (pm_shO ((((h.2 q1).1 q2).2 q3).1 q4).1) (u_Sh_isRow (43 + 2 * a1.toNatClampNeg) (pm_mkO (pm_shO ((((h.2 q1).1 q2).2 q3).1 q4).1) (⟨fun z => absurd z q17, fun _ => ⟨Or.inr rfl, ⟨fun z => absurd z (by decide), fun _ => pm_mi ((((((h.2 q1).1 q2).2 q3).1 q4).2.2 q5).1 q17) (fun x392 H391 z18 => ⟨fun q19 => (z18.1 q19), fun q19 => (z18.2 q19)⟩)⟩⟩⟩))), fun z => absurd (by decide) z⟩⟩, fun q17 => ⟨Or.inr rfl, ⟨fun z => absurd z (by decide), fun _ => ((((((h.2 q1).1 q2).2 q3).1 q4).2.2 q5).2 q17)⟩⟩⟩)⟩)))⟩, fun z => absurd (by decide) z⟩⟩, fun q4 => ⟨Or.inr rfl, ⟨fun z => absurd z (by decide), fun _ => ((((h.2 q1).1 q2).2 q3).2 q4)⟩⟩⟩⟩)⟩⟩⟩, fun q2 => ⟨Or.inr rfl, ⟨Or.inr rfl, ⟨fun _ => ((h.2 q1).2 q2), fun z => absurd z (by decide)⟩⟩⟩⟩⟩)))
def T_PW_count : List pmE := [
  (0, [], .iload 1, 0, 0, 0),
  (1, [], .lookupswitch 79 #[(0, 36), (1, 44), (2, 55), (3, 63), (4, 71)], 1, 35, 0),
  (36, [], .aload 0, 0, 0, 0),
  (37, [], .getfield 513, 0, 20, 348),
  (40, [], .getfield 192, 0, 242, 113),
  (43, [], .ireturn, 0, 0, 0),
  (44, [], .aload 0, 0, 0, 0),
  (45, [], .getfield 512, 0, 10, 347),
  (48, [], .getfield 386, 0, 129, 190),
  (51, [], .getfield 257, 0, 367, 154),
  (54, [], .ireturn, 0, 0, 0),
  (55, [], .aload 0, 0, 0, 0),
  (56, [], .getfield 516, 0, 38, 351),
  (59, [], .getfield 68, 0, 311, 278),
  (62, [], .ireturn, 0, 0, 0),
  (63, [], .aload 0, 0, 0, 0),
  (64, [], .getfield 517, 0, 45, 352),
  (67, [], .getfield 1, 0, 332, 302),
  (70, [], .ireturn, 0, 0, 0),
  (71, [], .aload 0, 0, 0, 0),
  (72, [], .getfield 517, 0, 45, 352),
  (75, [], .getfield 3, 0, 370, 305),
  (78, [], .ireturn, 0, 0, 0),
  (79, [], .iconst (-1), 0, 0, 0),
  (80, [], .ireturn, 0, 0, 0)]
theorem tk_PW_count : pm_okT M_PW_count T_PW_count = true := by decide +kernel
theorem ok_PW_count : pm_okm M_PW_count := pm_okm_of _ 971 76 969 970 (by decide +kernel)
set_option maxRecDepth 100000 in
set_option maxHeartbeats 4000000 in
theorem m_PW_count {d : Nat} {H : pmT} {Q : pmQ} (a1 : Int32)
    (h : (a1 = (0 : Int32) → Q (some (.int (H.1 2 0))) H) ∧ (¬ a1 = (0 : Int32) → (a1 = (1 : Int32) → Q (some (.int (H.1 14 1))) H) ∧ (¬ a1 = (1 : Int32) → (a1 = (2 : Int32) → Q (some (.int (H.1 26 4))) H) ∧ (¬ a1 = (2 : Int32) → (a1 = (3 : Int32) → Q (some (.int (H.1 31 1))) H) ∧ (¬ a1 = (3 : Int32) → (a1 = (4 : Int32) → Q (some (.int (H.1 31 3))) H) ∧ (¬ a1 = (4 : Int32) → Q (some (.int (-1 : Int32))) H)))))) : pm_R d M_PW_count [.ref 0, .int a1] H Q :=
  pm_walk (n := 7) ok_PW_count tk_PW_count rfl (Nat.le_of_ble_eq_true rfl) (show (a1 = (0 : Int32) → Q (some (.int (H.1 2 0))) H) ∧ (¬ a1 = (0 : Int32) → (a1 = (1 : Int32) → Q (some (.int (H.1 14 1))) H) ∧ (¬ a1 = (1 : Int32) → (a1 = (2 : Int32) → Q (some (.int (H.1 26 4))) H) ∧ (¬ a1 = (2 : Int32) → (a1 = (3 : Int32) → Q (some (.int (H.1 31 1))) H) ∧ (¬ a1 = (3 : Int32) → (a1 = (4 : Int32) → Q (some (.int (H.1 31 3))) H) ∧ (¬ a1 = (4 : Int32) → Q (some (.int (-1 : Int32))) H))))) from ⟨fun q1 => (h.1 q1), fun q1 => ⟨fun q2 => ((h.2 q1).1 q2), fun q2 => ⟨fun q3 => (((h.2 q1).2 q2).1 q3), fun q3 => ⟨fun q4 => ((((h.2 q1).2 q2).2 q3).1 q4), fun q4 => ⟨fun q5 => (((((h.2 q1).2 q2).2 q3).2 q4).1 q5), fun q5 => (((((h.2 q1).2 q2).2 q3).2 q4).2 q5)⟩⟩⟩⟩⟩)
def T_PW_greatestDivisor : List pmE := [
  (0, [], .iload 1, 0, 0, 0),
  (1, [], .istore 2, 0, 0, 0),
  (2, [], .iload 0, 0, 0, 0),
  (3, [], .istore 3, 0, 0, 0),
  (4, [], .iconst 0, 0, 0, 0),
  (5, [], .istore 4, 1, 0, 0),
  (7, [2, 3, 4], .iload 4, 1, 0, 0),
  (9, [], .iconst 64, 1, 0, 0),
  (11, [], .if_icmp .ge 34, 0, 0, 0),
  (14, [], .iload 3, 0, 0, 0),
  (15, [], .ifCond .eq 34, 0, 0, 0),
  (18, [], .iload 2, 0, 0, 0),
  (19, [], .iload 3, 0, 0, 0),
  (20, [], .irem, 0, 0, 0),
  (21, [], .istore 5, 1, 0, 0),
  (23, [], .iload 3, 0, 0, 0),
  (24, [], .istore 2, 0, 0, 0),
  (25, [], .iload 5, 1, 0, 0),
  (27, [], .istore 3, 0, 0, 0),
  (28, [], .iinc 4 1, 0, 0, 0),
  (31, [], .goto 7, 0, 0, 0),
  (34, [], .iload 2, 0, 0, 0),
  (35, [], .ireturn, 0, 0, 0)]
theorem tk_PW_greatestDivisor : pm_okT M_PW_greatestDivisor T_PW_greatestDivisor = true := by decide +kernel
theorem ok_PW_greatestDivisor : pm_okm M_PW_greatestDivisor := pm_okm_of _ 748 76 747 0 (by decide +kernel)
set_option maxRecDepth 100000 in
set_option maxHeartbeats 4000000 in
theorem m_PW_greatestDivisor {d : Nat} {H : pmT} {Q : pmQ} (a1 : Int32) (a2 : Int32)
    (h : pm_RW none d M_PW_greatestDivisor Q 7 [(2, .int a2), (3, .int a1), (4, .int (0 : Int32))] [] H) : pm_R d M_PW_greatestDivisor [.int a1, .int a2] H Q :=
  pm_walk (n := 7) ok_PW_greatestDivisor tk_PW_greatestDivisor rfl (Nat.le_of_ble_eq_true rfl) (show pm_RW none d M_PW_greatestDivisor Q 7 [(2, .int a2), (3, .int a1), (4, .int (0 : Int32))] [] H from h)
set_option maxRecDepth 100000 in
set_option maxHeartbeats 4000000 in
theorem b_PW_greatestDivisor_7 {d : Nat} {H : pmT} {Q : pmQ} (v2 : Int32) (v3 : Int32) (v4 : Int32)
    (h : ((64 : Int32) ≤ v4 → Q (some (.int v2)) H) ∧ (¬ (64 : Int32) ≤ v4 → (v3 = 0 → Q (some (.int v2)) H) ∧ (¬ v3 = 0 → pm_RW none d M_PW_greatestDivisor Q 7 [(2, .int v3), (3, .int (v2 - v2 / v3 * v3)), (4, .int (v4 + (1 : Int32)))] [] H))) : pm_RW none d M_PW_greatestDivisor Q 7 [(2, .int v2), (3, .int v3), (4, .int v4)] [] H :=
  pm_body tk_PW_greatestDivisor 15 7 (show ((64 : Int32) ≤ v4 → Q (some (.int v2)) H) ∧ (¬ (64 : Int32) ≤ v4 → (v3 = 0 → Q (some (.int v2)) H) ∧ (¬ v3 = 0 → ¬ v3 = 0 ∧ (pm_RW none d M_PW_greatestDivisor Q 7 [(2, .int v3), (3, .int (v2 - v2 / v3 * v3)), (4, .int (v4 + (1 : Int32)))] [] H))) from ⟨fun q1 => (h.1 q1), fun q1 => ⟨fun q2 => ((h.2 q1).1 q2), fun q2 => ⟨q2, ((h.2 q1).2 q2)⟩⟩⟩)
