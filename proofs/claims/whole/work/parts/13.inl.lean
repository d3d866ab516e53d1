/-! tables and walks, by program: 13.inl -/
def T_Bo_add : List pmE := [
  (0, [], .aload 0, 0, 0, 0),
  (1, [], .getfield 1, 0, 15, 301),
  (4, [], .iconst 50, 1, 0, 0),
  (6, [], .if_icmp .lt 12, 0, 0, 0),
  (9, [], .iconst (-3), 1, 0, 0),
  (11, [], .ireturn, 0, 0, 0),
  (12, [], .aload 0, 0, 0, 0),
  (13, [], .getfield 0, 0, 11, 300),
  (16, [], .aload 0, 0, 0, 0),
  (17, [], .getfield 1, 0, 15, 301),
  (20, [], .iload 1, 0, 0, 0),
  (21, [], .iastore, 0, 0, 0),
  (22, [], .aload 0, 0, 0, 0),
  (23, [], .dup, 0, 0, 0),
  (24, [], .getfield 1, 0, 15, 301),
  (27, [], .iconst 1, 0, 0, 0),
  (28, [], .iadd, 0, 0, 0),
  (29, [], .putfield 1, 0, 15, 301),
  (32, [], .aload 0, 0, 0, 0),
  (33, [], .getfield 1, 0, 15, 301),
  (36, [], .iconst 1, 0, 0, 0),
  (37, [], .isub, 0, 0, 0),
  (38, [], .ireturn, 0, 0, 0)]
theorem tk_Bo_add : pm_okT M_Bo_add T_Bo_add = true := by decide +kernel
theorem ok_Bo_add : pm_okm M_Bo_add := pm_okm_of _ 880 83 878 879 (by decide +kernel)
set_option maxRecDepth 100000 in
set_option maxHeartbeats 4000000 in
theorem u_Bo_add {d : Nat} {H : pmT} {Q : pmQ} (a1 : Int32)
    (h : ((H.1 31 1) < (50 : Int32) → vp_in (H.1 31 1) 50 ∧ (Q (some (.int (((H.1 31 1) + (1 : Int32)) - (1 : Int32)))) ((pm_up (pm_up H.1 32 ((H.1 31 1).toNatClampNeg) a1) 31 1 ((H.1 31 1) + (1 : Int32))), H.2))) ∧ (¬ (H.1 31 1) < (50 : Int32) → Q (some (.int (-3 : Int32))) H)) : pm_R d M_Bo_add [.ref 31, .int a1] H Q :=
  pm_walk (n := 21) ok_Bo_add tk_Bo_add rfl (Nat.le_of_ble_eq_true rfl) h
def T_PW_outside : List pmE := [
  (0, [], .iload 0, 0, 0, 0),
  (1, [], .iload 1, 0, 0, 0),
  (2, [], .if_icmp .lt 10, 0, 0, 0),
  (5, [], .iload 0, 0, 0, 0),
  (6, [], .iload 2, 0, 0, 0),
  (7, [], .if_icmp .le 14, 0, 0, 0),
  (10, [], .iconst 1, 0, 0, 0),
  (11, [], .goto 15, 0, 0, 0),
  (14, [], .iconst 0, 0, 0, 0),
  (15, [], .areturn, 0, 0, 0)]
theorem tk_PW_outside : pm_okT M_PW_outside T_PW_outside = true := by decide +kernel
theorem ok_PW_outside : pm_okm M_PW_outside := pm_okm_of _ 387 76 386 0 (by decide +kernel)
set_option maxRecDepth 100000 in
set_option maxHeartbeats 4000000 in
theorem u_PW_outside {d : Nat} {H : pmT} {Q : pmQ} (a1 : Int32) (a2 : Int32) (a3 : Int32)
    (h : (a1 < a2 → ((1 : Int32) = 0 ∨ (1 : Int32) = 1) ∧ (Q (some (.int (1 : Int32))) H)) ∧ (¬ a1 < a2 → (a1 ≤ a3 → ((0 : Int32) = 0 ∨ (0 : Int32) = 1) ∧ (Q (some (.int (0 : Int32))) H)) ∧ (¬ a1 ≤ a3 → ((1 : Int32) = 0 ∨ (1 : Int32) = 1) ∧ (Q (some (.int (1 : Int32))) H)))) : pm_R d M_PW_outside [.int a1, .int a2, .int a3] H Q :=
  pm_walk (n := 9) ok_PW_outside tk_PW_outside rfl (Nat.le_of_ble_eq_true rfl) h
def T_Bo_kindOf : List pmE := [
  (0, [], .iload 1, 0, 0, 0),
  (1, [], .iconst 0, 0, 0, 0),
  (2, [], .aload 0, 0, 0, 0),
  (3, [], .getfield 1, 0, 15, 301),
  (6, [], .iconst 1, 0, 0, 0),
  (7, [], .isub, 0, 0, 0),
  (8, [], .invokeinterface 135 13, 3, 28, 893),
  (11, [], .ifCond .eq 18, 0, 0, 0),
  (14, [], .iconst (-1), 0, 0, 0),
  (15, [], .goto 24, 0, 0, 0),
  (18, [], .aload 0, 0, 0, 0),
  (19, [], .getfield 0, 0, 11, 300),
  (22, [], .iload 1, 0, 0, 0),
  (23, [], .iaload, 0, 0, 0),
  (24, [], .ireturn, 0, 0, 0)]
theorem tk_Bo_kindOf : pm_okT M_Bo_kindOf T_Bo_kindOf = true := by decide +kernel
theorem ok_Bo_kindOf : pm_okm M_Bo_kindOf := pm_okm_of _ 892 83 890 891 (by decide +kernel)
set_option maxRecDepth 100000 in
set_option maxHeartbeats 4000000 in
theorem u_Bo_kindOf {d : Nat} {H : pmT} {Q : pmQ} (a1 : Int32)
    (h : pm_R d M_PW_outside [.int a1, .int (0 : Int32), .int ((H.1 31 1) - (1 : Int32))] H (pm_i (fun x2 H1 => (x2 = 0 → vp_in a1 50 ∧ (Q (some (.int (H1.1 32 a1.toNatClampNeg))) H1)) ∧ (¬ x2 = 0 → Q (some (.int (-1 : Int32))) H1)))) : pm_R (d + 1) M_Bo_kindOf [.ref 31, .int a1] H Q :=
  pm_walk (n := 13) ok_Bo_kindOf tk_Bo_kindOf rfl (Nat.le_of_ble_eq_true rfl) h
def T_Bo_traced : List pmE := [
  (0, [], .iload 1, 0, 0, 0),
  (1, [], .iconst 0, 0, 0, 0),
  (2, [], .aload 0, 0, 0, 0),
  (3, [], .getfield 3, 0, 22, 304),
  (6, [], .iconst 24, 1, 0, 0),
  (8, [], .fsub, 0, 35, 917),
  (11, [], .iconst 1, 0, 0, 0),
  (12, [], .isub, 0, 0, 0),
  (13, [], .invokeinterface 135 13, 3, 28, 893),
  (16, [], .ifCond .eq 23, 0, 0, 0),
  (19, [], .iconst (-1), 0, 0, 0),
  (20, [], .goto 29, 0, 0, 0),
  (23, [], .aload 0, 0, 0, 0),
  (24, [], .getfield 2, 0, 19, 303),
  (27, [], .iload 1, 0, 0, 0),
  (28, [], .iaload, 0, 0, 0),
  (29, [], .ireturn, 0, 0, 0)]
theorem tk_Bo_traced : pm_okT M_Bo_traced T_Bo_traced = true := by decide +kernel
theorem ok_Bo_traced : pm_okm M_Bo_traced := pm_okm_of _ 916 83 914 915 (by decide +kernel)
set_option maxRecDepth 100000 in
set_option maxHeartbeats 4000000 in
theorem u_Bo_traced {d : Nat} {H : pmT} {Q : pmQ} (a1 : Int32)
    (h : pm_R d M_PW_outside [.int a1, .int (0 : Int32), .int ((pm_min (H.1 31 3) (24 : Int32)) - (1 : Int32))] H (pm_i (fun x2 H1 => (x2 = 0 → vp_in a1 24 ∧ (Q (some (.int (H1.1 33 a1.toNatClampNeg))) H1)) ∧ (¬ x2 = 0 → Q (some (.int (-1 : Int32))) H1)))) : pm_R (d + 1) M_Bo_traced [.ref 31, .int a1] H Q :=
  pm_walk (n := 15) ok_Bo_traced tk_Bo_traced rfl (Nat.le_of_ble_eq_true rfl) h
def T_Bo_note : List pmE := [
  (0, [], .aload 0, 0, 0, 0),
  (1, [], .getfield 3, 0, 22, 304),
  (4, [], .iconst 24, 1, 0, 0),
  (6, [], .if_icmp .ge 19, 0, 0, 0),
  (9, [], .aload 0, 0, 0, 0),
  (10, [], .getfield 2, 0, 19, 303),
  (13, [], .aload 0, 0, 0, 0),
  (14, [], .getfield 3, 0, 22, 304),
  (17, [], .iload 1, 0, 0, 0),
  (18, [], .iastore, 0, 0, 0),
  (19, [], .aload 0, 0, 0, 0),
  (20, [], .dup, 0, 0, 0),
  (21, [], .getfield 3, 0, 22, 304),
  (24, [], .iconst 1, 0, 0, 0),
  (25, [], .iadd, 0, 0, 0),
  (26, [], .putfield 3, 0, 22, 304),
  (29, [], .return_, 0, 0, 0)]
theorem tk_Bo_note : pm_okT M_Bo_note T_Bo_note = true := by decide +kernel
theorem ok_Bo_note : pm_okm M_Bo_note := pm_okm_of _ 908 83 907 25 (by decide +kernel)
set_option maxRecDepth 100000 in
set_option maxHeartbeats 4000000 in
theorem u_Bo_note {d : Nat} {H : pmT} {Q : pmQ} (a1 : Int32)
    (h : ((24 : Int32) ≤ (H.1 31 3) → Q none ((pm_up H.1 31 3 ((H.1 31 3) + (1 : Int32))), H.2)) ∧ (¬ (24 : Int32) ≤ (H.1 31 3) → vp_in (H.1 31 3) 24 ∧ (Q none ((pm_up (pm_up H.1 33 ((H.1 31 3).toNatClampNeg) a1) 31 3 ((H.1 31 3) + (1 : Int32))), H.2)))) : pm_R d M_Bo_note [.ref 31, .int a1] H Q :=
  pm_walk (n := 17) ok_Bo_note tk_Bo_note rfl (Nat.le_of_ble_eq_true rfl) h
def T_Ch_takeBack : List pmE := [
  (0, [], .aload 0, 0, 0, 0),
  (1, [], .getfield 68, 0, 22, 277),
  (4, [], .ifCond .gt 9, 0, 0, 0),
  (7, [], .iconst (-1), 0, 0, 0),
  (8, [], .ireturn, 0, 0, 0),
  (9, [], .aload 0, 0, 0, 0),
  (10, [], .dup, 0, 0, 0),
  (11, [], .getfield 68, 0, 22, 277),
  (14, [], .iconst 1, 0, 0, 0),
  (15, [], .isub, 0, 0, 0),
  (16, [], .putfield 68, 0, 22, 277),
  (19, [], .aload 0, 0, 0, 0),
  (20, [], .getfield 68, 0, 22, 277),
  (23, [], .ireturn, 0, 0, 0)]
theorem tk_Ch_takeBack : pm_okT M_Ch_takeBack T_Ch_takeBack = true := by decide +kernel
theorem ok_Ch_takeBack : pm_okm M_Ch_takeBack := pm_okm_of _ 864 82 862 863 (by decide +kernel)
set_option maxRecDepth 100000 in
set_option maxHeartbeats 4000000 in
theorem u_Ch_takeBack {d : Nat} {H : pmT} {Q : pmQ} 
    (h : (0 < (H.1 26 4) → Q (some (.int ((H.1 26 4) - (1 : Int32)))) ((pm_up H.1 26 4 ((H.1 26 4) - (1 : Int32))), H.2)) ∧ (¬ 0 < (H.1 26 4) → Q (some (.int (-1 : Int32))) H)) : pm_R d M_Ch_takeBack [.ref 26] H Q :=
  pm_walk (n := 12) ok_Ch_takeBack tk_Ch_takeBack rfl (Nat.le_of_ble_eq_true rfl) h
def T_Ch_takeAgain : List pmE := [
  (0, [], .aload 0, 0, 0, 0),
  (1, [], .getfield 68, 0, 22, 277),
  (4, [], .aload 0, 0, 0, 0),
  (5, [], .getfield 69, 0, 26, 279),
  (8, [], .if_icmp .lt 13, 0, 0, 0),
  (11, [], .iconst (-1), 0, 0, 0),
  (12, [], .ireturn, 0, 0, 0),
  (13, [], .aload 0, 0, 0, 0),
  (14, [], .dup, 0, 0, 0),
  (15, [], .getfield 68, 0, 22, 277),
  (18, [], .iconst 1, 0, 0, 0),
  (19, [], .iadd, 0, 0, 0),
  (20, [], .putfield 68, 0, 22, 277),
  (23, [], .aload 0, 0, 0, 0),
  (24, [], .getfield 68, 0, 22, 277),
  (27, [], .iconst 1, 0, 0, 0),
  (28, [], .isub, 0, 0, 0),
  (29, [], .ireturn, 0, 0, 0)]
theorem tk_Ch_takeAgain : pm_okT M_Ch_takeAgain T_Ch_takeAgain = true := by decide +kernel
theorem ok_Ch_takeAgain : pm_okm M_Ch_takeAgain := pm_okm_of _ 872 82 870 871 (by decide +kernel)
set_option maxRecDepth 100000 in
set_option maxHeartbeats 4000000 in
theorem u_Ch_takeAgain {d : Nat} {H : pmT} {Q : pmQ} 
    (h : ((H.1 26 4) < (H.1 26 5) → Q (some (.int (((H.1 26 4) + (1 : Int32)) - (1 : Int32)))) ((pm_up H.1 26 4 ((H.1 26 4) + (1 : Int32))), H.2)) ∧ (¬ (H.1 26 4) < (H.1 26 5) → Q (some (.int (-1 : Int32))) H)) : pm_R d M_Ch_takeAgain [.ref 26] H Q :=
  pm_walk (n := 16) ok_Ch_takeAgain tk_Ch_takeAgain rfl (Nat.le_of_ble_eq_true rfl) h
def T_Ha_takeFingers : List pmE := [
  (0, [], .aload 0, 0, 0, 0),
  (1, [], .getfield 193, 0, 15, 114),
  (4, [], .iload 1, 0, 0, 0),
  (5, [], .aload 2, 0, 0, 0),
  (6, [], .getfield 193, 0, 15, 114),
  (9, [], .iload 3, 0, 0, 0),
  (10, [], .iaload, 0, 0, 0),
  (11, [], .iastore, 0, 0, 0),
  (12, [], .aload 0, 0, 0, 0),
  (13, [], .getfield 194, 0, 19, 118),
  (16, [], .iload 1, 0, 0, 0),
  (17, [], .aload 2, 0, 0, 0),
  (18, [], .getfield 194, 0, 19, 118),
  (21, [], .iload 3, 0, 0, 0),
  (22, [], .iaload, 0, 0, 0),
  (23, [], .iastore, 0, 0, 0),
  (24, [], .aload 0, 0, 0, 0),
  (25, [], .getfield 196, 0, 25, 126),
  (28, [], .iload 1, 0, 0, 0),
  (29, [], .aload 2, 0, 0, 0),
  (30, [], .getfield 196, 0, 25, 126),
  (33, [], .iload 3, 0, 0, 0),
  (34, [], .iaload, 0, 0, 0),
  (35, [], .iastore, 0, 0, 0),
  (36, [], .aload 0, 0, 0, 0),
  (37, [], .getfield 197, 0, 28, 129),
  (40, [], .iload 1, 0, 0, 0),
  (41, [], .aload 2, 0, 0, 0),
  (42, [], .getfield 197, 0, 28, 129),
  (45, [], .iload 3, 0, 0, 0),
  (46, [], .iaload, 0, 0, 0),
  (47, [], .iastore, 0, 0, 0),
  (48, [], .return_, 0, 0, 0)]
theorem tk_Ha_takeFingers : pm_okT M_Ha_takeFingers T_Ha_takeFingers = true := by decide +kernel
theorem ok_Ha_takeFingers : pm_okm M_Ha_takeFingers := pm_okm_of _ 567 78 566 14 (by decide +kernel)
set_option maxRecDepth 100000 in
set_option maxHeartbeats 4000000 in
theorem u_Ha_takeFingers_2_36 {d : Nat} {H : pmT} {Q : pmQ} (a1 : Int32) (a3 : Int32)
    (h : vp_in a3 12 ∧ (vp_in a1 12 ∧ (vp_in a3 12 ∧ (vp_in a1 12 ∧ (vp_in a3 12 ∧ (vp_in a1 12 ∧ (vp_in a3 12 ∧ (vp_in a1 12 ∧ (Q none ((pm_up (pm_up (pm_up (pm_up H.1 3 a1.toNatClampNeg (H.1 37 a3.toNatClampNeg)) 4 a1.toNatClampNeg (H.1 38 a3.toNatClampNeg)) 6 a1.toNatClampNeg (H.1 40 a3.toNatClampNeg)) 7 a1.toNatClampNeg (H.1 41 a3.toNatClampNeg)), H.2)))))))))) : pm_R d M_Ha_takeFingers [.ref 2, .int a1, .ref 36, .int a3] H Q :=
  pm_walk (n := 33) ok_Ha_takeFingers tk_Ha_takeFingers rfl (Nat.le_of_ble_eq_true rfl) h
set_option maxRecDepth 100000 in
set_option maxHeartbeats 4000000 in
theorem u_Ha_takeFingers_8_2 {d : Nat} {H : pmT} {Q : pmQ} (a1 : Int32) (a3 : Int32)
    (h : vp_in a3 12 ∧ (vp_in a1 12 ∧ (vp_in a3 12 ∧ (vp_in a1 12 ∧ (vp_in a3 12 ∧ (vp_in a1 12 ∧ (vp_in a3 12 ∧ (vp_in a1 12 ∧ (Q none ((pm_up (pm_up (pm_up (pm_up H.1 9 a1.toNatClampNeg (H.1 3 a3.toNatClampNeg)) 10 a1.toNatClampNeg (H.1 4 a3.toNatClampNeg)) 12 a1.toNatClampNeg (H.1 6 a3.toNatClampNeg)) 13 a1.toNatClampNeg (H.1 7 a3.toNatClampNeg)), H.2)))))))))) : pm_R d M_Ha_takeFingers [.ref 8, .int a1, .ref 2, .int a3] H Q :=
  pm_walk (n := 33) ok_Ha_takeFingers tk_Ha_takeFingers rfl (Nat.le_of_ble_eq_true rfl) h
set_option maxRecDepth 100000 in
set_option maxHeartbeats 4000000 in
theorem u_Ha_takeFingers_36_2 {d : Nat} {H : pmT} {Q : pmQ} (a1 : Int32) (a3 : Int32)
    (h : vp_in a3 12 ∧ (vp_in a1 12 ∧ (vp_in a3 12 ∧ (vp_in a1 12 ∧ (vp_in a3 12 ∧ (vp_in a1 12 ∧ (vp_in a3 12 ∧ (vp_in a1 12 ∧ (Q none ((pm_up (pm_up (pm_up (pm_up H.1 37 a1.toNatClampNeg (H.1 3 a3.toNatClampNeg)) 38 a1.toNatClampNeg (H.1 4 a3.toNatClampNeg)) 40 a1.toNatClampNeg (H.1 6 a3.toNatClampNeg)) 41 a1.toNatClampNeg (H.1 7 a3.toNatClampNeg)), H.2)))))))))) : pm_R d M_Ha_takeFingers [.ref 36, .int a1, .ref 2, .int a3] H Q :=
  pm_walk (n := 33) ok_Ha_takeFingers tk_Ha_takeFingers rfl (Nat.le_of_ble_eq_true rfl) h
set_option maxRecDepth 100000 in
set_option maxHeartbeats 4000000 in
theorem u_Ha_takeFingers_8_8 {d : Nat} {H : pmT} {Q : pmQ} (a1 : Int32) (a3 : Int32)
    (h : vp_in a3 12 ∧ (vp_in a1 12 ∧ (vp_in a3 12 ∧ (vp_in a1 12 ∧ (vp_in a3 12 ∧ (vp_in a1 12 ∧ (vp_in a3 12 ∧ (vp_in a1 12 ∧ (Q none ((pm_up (pm_up (pm_up (pm_up H.1 9 a1.toNatClampNeg (H.1 9 a3.toNatClampNeg)) 10 a1.toNatClampNeg (H.1 10 a3.toNatClampNeg)) 12 a1.toNatClampNeg (H.1 12 a3.toNatClampNeg)) 13 a1.toNatClampNeg (H.1 13 a3.toNatClampNeg)), H.2)))))))))) : pm_R d M_Ha_takeFingers [.ref 8, .int a1, .ref 8, .int a3] H Q :=
  pm_walk (n := 33) ok_Ha_takeFingers tk_Ha_takeFingers rfl (Nat.le_of_ble_eq_true rfl) h
def T_Ha_lead : List pmE := [
  (0, [], .aload 0, 0, 0, 0),
  (1, [], .getfield 193, 0, 15, 114),
  (4, [], .iload 1, 0, 0, 0),
  (5, [], .iaload, 0, 0, 0),
  (6, [], .aload 0, 0, 0, 0),
  (7, [], .getfield 194, 0, 19, 118),
  (10, [], .iload 1, 0, 0, 0),
  (11, [], .iaload, 0, 0, 0),
  (12, [], .isub, 0, 0, 0),
  (13, [], .ireturn, 0, 0, 0)]
theorem tk_Ha_lead : pm_okT M_Ha_lead T_Ha_lead = true := by decide +kernel
theorem ok_Ha_lead : pm_okm M_Ha_lead := pm_okm_of _ 624 78 622 623 (by decide +kernel)
set_option maxRecDepth 100000 in
set_option maxHeartbeats 4000000 in
theorem u_Ha_lead_8 {d : Nat} {H : pmT} {Q : pmQ} (a1 : Int32)
    (h : vp_in a1 12 ∧ (vp_in a1 12 ∧ (Q (some (.int ((H.1 9 a1.toNatClampNeg) - (H.1 10 a1.toNatClampNeg)))) H))) : pm_R d M_Ha_lead [.ref 8, .int a1] H Q :=
  pm_walk (n := 10) ok_Ha_lead tk_Ha_lead rfl (Nat.le_of_ble_eq_true rfl) h
set_option maxRecDepth 100000 in
set_option maxHeartbeats 4000000 in
theorem u_Ha_lead_2 {d : Nat} {H : pmT} {Q : pmQ} (a1 : Int32)
    (h : vp_in a1 12 ∧ (vp_in a1 12 ∧ (Q (some (.int ((H.1 3 a1.toNatClampNeg) - (H.1 4 a1.toNatClampNeg)))) H))) : pm_R d M_Ha_lead [.ref 2, .int a1] H Q :=
  pm_walk (n := 10) ok_Ha_lead tk_Ha_lead rfl (Nat.le_of_ble_eq_true rfl) h
def T_La_write : List pmE := [
  (0, [], .aload 0, 0, 0, 0),
  (1, [], .getfield 257, 0, 15, 153),
  (4, [], .iconst 120, 1, 0, 0),
  (6, [], .if_icmp .lt 12, 0, 0, 0),
  (9, [], .iconst (-3), 1, 0, 0),
  (11, [], .ireturn, 0, 0, 0),
  (12, [], .aload 0, 0, 0, 0),
  (13, [], .getfield 256, 0, 11, 152),
  (16, [], .aload 0, 0, 0, 0),
  (17, [], .getfield 257, 0, 15, 153),
  (20, [], .iload 1, 0, 0, 0),
  (21, [], .iastore, 0, 0, 0),
  (22, [], .aload 0, 0, 0, 0),
  (23, [], .dup, 0, 0, 0),
  (24, [], .getfield 257, 0, 15, 153),
  (27, [], .iconst 1, 0, 0, 0),
  (28, [], .iadd, 0, 0, 0),
  (29, [], .putfield 257, 0, 15, 153),
  (32, [], .aload 0, 0, 0, 0),
  (33, [], .getfield 257, 0, 15, 153),
  (36, [], .ireturn, 0, 0, 0)]
theorem tk_La_write : pm_okT M_La_write T_La_write = true := by decide +kernel
theorem ok_La_write : pm_okm M_La_write := pm_okm_of _ 461 79 459 460 (by decide +kernel)
set_option maxRecDepth 100000 in
set_option maxHeartbeats 4000000 in
theorem u_La_write {d : Nat} {H : pmT} {Q : pmQ} (a1 : Int32)
    (h : ((H.1 14 1) < (120 : Int32) → vp_in (H.1 14 1) 120 ∧ (Q (some (.int ((H.1 14 1) + (1 : Int32)))) ((pm_up (pm_up H.1 15 ((H.1 14 1).toNatClampNeg) a1) 14 1 ((H.1 14 1) + (1 : Int32))), H.2))) ∧ (¬ (H.1 14 1) < (120 : Int32) → Q (some (.int (-3 : Int32))) H)) : pm_R d M_La_write [.ref 14, .int a1] H Q :=
  pm_walk (n := 19) ok_La_write tk_La_write rfl (Nat.le_of_ble_eq_true rfl) h
def T_La_peek : List pmE := [
  (0, [], .aload 0, 0, 0, 0),
  (1, [], .getfield 258, 0, 19, 155),
  (4, [], .aload 0, 0, 0, 0),
  (5, [], .getfield 257, 0, 15, 153),
  (8, [], .if_icmp .ge 23, 0, 0, 0),
  (11, [], .aload 0, 0, 0, 0),
  (12, [], .getfield 256, 0, 11, 152),
  (15, [], .aload 0, 0, 0, 0),
  (16, [], .getfield 258, 0, 19, 155),
  (19, [], .iaload, 0, 0, 0),
  (20, [], .goto 24, 0, 0, 0),
  (23, [], .iconst (-1), 0, 0, 0),
  (24, [], .ireturn, 0, 0, 0)]
theorem tk_La_peek : pm_okT M_La_peek T_La_peek = true := by decide +kernel
theorem ok_La_peek : pm_okm M_La_peek := pm_okm_of _ 489 79 488 9 (by decide +kernel)
set_option maxRecDepth 100000 in
set_option maxHeartbeats 4000000 in
theorem u_La_peek {d : Nat} {H : pmT} {Q : pmQ} 
    (h : ((H.1 14 1) ≤ (H.1 14 2) → Q (some (.int (-1 : Int32))) H) ∧ (¬ (H.1 14 1) ≤ (H.1 14 2) → vp_in (H.1 14 2) 120 ∧ (Q (some (.int (H.1 15 ((H.1 14 2).toNatClampNeg)))) H))) : pm_R d M_La_peek [.ref 14] H Q :=
  pm_walk (n := 12) ok_La_peek tk_La_peek rfl (Nat.le_of_ble_eq_true rfl) h
def T_La_isDigit : List pmE := [
  (0, [], .iload 0, 0, 0, 0),
  (1, [], .iconst 48, 1, 0, 0),
  (3, [], .if_icmp .lt 16, 0, 0, 0),
  (6, [], .iload 0, 0, 0, 0),
  (7, [], .iconst 57, 1, 0, 0),
  (9, [], .if_icmp .gt 16, 0, 0, 0),
  (12, [], .iconst 1, 0, 0, 0),
  (13, [], .goto 17, 0, 0, 0),
  (16, [], .iconst 0, 0, 0, 0),
  (17, [], .areturn, 0, 0, 0)]
theorem tk_La_isDigit : pm_okT M_La_isDigit T_La_isDigit = true := by decide +kernel
theorem ok_La_isDigit : pm_okm M_La_isDigit := pm_okm_of _ 492 79 491 0 (by decide +kernel)
set_option maxRecDepth 100000 in
set_option maxHeartbeats 4000000 in
theorem u_La_isDigit {d : Nat} {H : pmT} {Q : pmQ} (a1 : Int32)
    (h : (a1 < (48 : Int32) → ((0 : Int32) = 0 ∨ (0 : Int32) = 1) ∧ (Q (some (.int (0 : Int32))) H)) ∧ (¬ a1 < (48 : Int32) → ((57 : Int32) < a1 → ((0 : Int32) = 0 ∨ (0 : Int32) = 1) ∧ (Q (some (.int (0 : Int32))) H)) ∧ (¬ (57 : Int32) < a1 → ((1 : Int32) = 0 ∨ (1 : Int32) = 1) ∧ (Q (some (.int (1 : Int32))) H)))) : pm_R d M_La_isDigit [.int a1] H Q :=
  pm_walk (n := 9) ok_La_isDigit tk_La_isDigit rfl (Nat.le_of_ble_eq_true rfl) h
def T_La_isTold : List pmE := [
  (0, [], .aload 0, 0, 0, 0),
  (1, [], .getfield 262, 0, 31, 159),
  (4, [], .ifCond .le 11, 0, 0, 0),
  (7, [], .iconst 1, 0, 0, 0),
  (8, [], .goto 12, 0, 0, 0),
  (11, [], .iconst 0, 0, 0, 0),
  (12, [], .areturn, 0, 0, 0)]
theorem tk_La_isTold : pm_okT M_La_isTold T_La_isTold = true := by decide +kernel
theorem ok_La_isTold : pm_okm M_La_isTold := pm_okm_of _ 526 79 524 525 (by decide +kernel)
set_option maxRecDepth 100000 in
set_option maxHeartbeats 4000000 in
theorem u_La_isTold {d : Nat} {H : pmT} {Q : pmQ} 
    (h : ((H.1 14 6) ≤ 0 → ((0 : Int32) = 0 ∨ (0 : Int32) = 1) ∧ (Q (some (.int (0 : Int32))) H)) ∧ (¬ (H.1 14 6) ≤ 0 → ((1 : Int32) = 0 ∨ (1 : Int32) = 1) ∧ (Q (some (.int (1 : Int32))) H))) : pm_R d M_La_isTold [.ref 14] H Q :=
  pm_walk (n := 6) ok_La_isTold tk_La_isTold rfl (Nat.le_of_ble_eq_true rfl) h
def T_La_nameAll : List pmE := [
  (0, [], .aload 0, 0, 0, 0),
  (1, [], .getfield 264, 0, 37, 161),
  (4, [], .iconst 0, 0, 0, 0),
  (5, [], .iload 1, 0, 0, 0),
  (6, [], .iastore, 0, 0, 0),
  (7, [], .aload 0, 0, 0, 0),
  (8, [], .getfield 264, 0, 37, 161),
  (11, [], .iconst 1, 0, 0, 0),
  (12, [], .iload 2, 0, 0, 0),
  (13, [], .iastore, 0, 0, 0),
  (14, [], .aload 0, 0, 0, 0),
  (15, [], .getfield 264, 0, 37, 161),
  (18, [], .iconst 2, 0, 0, 0),
  (19, [], .iload 3, 0, 0, 0),
  (20, [], .iastore, 0, 0, 0),
  (21, [], .aload 0, 0, 0, 0),
  (22, [], .getfield 264, 0, 37, 161),
  (25, [], .iconst 3, 0, 0, 0),
  (26, [], .iload 4, 1, 0, 0),
  (28, [], .iastore, 0, 0, 0),
  (29, [], .aload 0, 0, 0, 0),
  (30, [], .getfield 264, 0, 37, 161),
  (33, [], .iconst 4, 0, 0, 0),
  (34, [], .iload 5, 1, 0, 0),
  (36, [], .iastore, 0, 0, 0),
  (37, [], .aload 0, 0, 0, 0),
  (38, [], .getfield 264, 0, 37, 161),
  (41, [], .iconst 5, 0, 0, 0),
  (42, [], .iload 6, 1, 0, 0),
  (44, [], .iastore, 0, 0, 0),
  (45, [], .return_, 0, 0, 0)]
theorem tk_La_nameAll : pm_okT M_La_nameAll T_La_nameAll = true := by decide +kernel
theorem ok_La_nameAll : pm_okm M_La_nameAll := pm_okm_of _ 533 79 531 532 (by decide +kernel)
set_option maxRecDepth 100000 in
set_option maxHeartbeats 4000000 in
theorem u_La_nameAll {d : Nat} {H : pmT} {Q : pmQ} (a1 : Int32) (a2 : Int32) (a3 : Int32) (a4 : Int32) (a5 : Int32) (a6 : Int32)
    (h : vp_in (0 : Int32) 6 ∧ (vp_in (1 : Int32) 6 ∧ (vp_in (2 : Int32) 6 ∧ (vp_in (3 : Int32) 6 ∧ (vp_in (4 : Int32) 6 ∧ (vp_in (5 : Int32) 6 ∧ (Q none ((pm_up (pm_up (pm_up (pm_up (pm_up (pm_up H.1 19 0 a1) 19 1 a2) 19 2 a3) 19 3 a4) 19 4 a5) 19 5 a6), H.2)))))))) : pm_R d M_La_nameAll [.ref 14, .int a1, .int a2, .int a3, .int a4, .int a5, .int a6] H Q :=
  pm_walk (n := 31) ok_La_nameAll tk_La_nameAll rfl (Nat.le_of_ble_eq_true rfl) h
def T_Pl_orNever : List pmE := [
  (0, [], .iload 0, 0, 0, 0),
  (1, [], .iconst (-2), 1, 0, 0),
  (3, [], .if_icmp .ne 12, 0, 0, 0),
  (6, [], .iconst 1000, 2, 0, 0),
  (9, [], .goto 13, 0, 0, 0),
  (12, [], .iload 0, 0, 0, 0),
  (13, [], .ireturn, 0, 0, 0)]
theorem tk_Pl_orNever : pm_okT M_Pl_orNever T_Pl_orNever = true := by decide +kernel
theorem ok_Pl_orNever : pm_okm M_Pl_orNever := pm_okm_of _ 722 80 721 0 (by decide +kernel)
set_option maxRecDepth 100000 in
set_option maxHeartbeats 4000000 in
theorem u_Pl_orNever {d : Nat} {H : pmT} {Q : pmQ} (a1 : Int32)
    (h : (¬ a1 = (-2 : Int32) → Q (some (.int a1)) H) ∧ (a1 = (-2 : Int32) → Q (some (.int (1000 : Int32))) H)) : pm_R d M_Pl_orNever [.int a1] H Q :=
  pm_walk (n := 6) ok_Pl_orNever tk_Pl_orNever rfl (Nat.le_of_ble_eq_true rfl) h
def T_Pr_fades : List pmE := [
  (0, [], .aload 0, 0, 0, 0),
  (1, [], .getfield 387, 0, 28, 191),
  (4, [], .iconst 2, 0, 0, 0),
  (5, [], .iaload, 0, 0, 0),
  (6, [], .ireturn, 0, 0, 0)]
theorem tk_Pr_fades : pm_okT M_Pr_fades T_Pr_fades = true := by decide +kernel
theorem ok_Pr_fades : pm_okm M_Pr_fades := pm_okm_of _ 572 77 570 571 (by decide +kernel)
set_option maxRecDepth 100000 in
set_option maxHeartbeats 4000000 in
theorem u_Pr_fades {d : Nat} {H : pmT} {Q : pmQ} 
    (h : vp_in (2 : Int32) 5 ∧ (Q (some (.int (H.1 20 2))) H)) : pm_R d M_Pr_fades [.ref 1] H Q :=
  pm_walk (n := 5) ok_Pr_fades tk_Pr_fades rfl (Nat.le_of_ble_eq_true rfl) h
def T_Sh_isEmpty : List pmE := [
  (0, [], .aload 0, 0, 0, 0),
  (1, [], .getfield 448, 0, 9, 327),
  (4, [], .ifCond .ge 19, 0, 0, 0),
  (7, [], .aload 0, 0, 0, 0),
  (8, [], .getfield 449, 0, 15, 329),
  (11, [], .iconst (-1), 0, 0, 0),
  (12, [], .if_icmp .ne 19, 0, 0, 0),
  (15, [], .iconst 1, 0, 0, 0),
  (16, [], .goto 20, 0, 0, 0),
  (19, [], .iconst 0, 0, 0, 0),
  (20, [], .areturn, 0, 0, 0)]
theorem tk_Sh_isEmpty : pm_okT M_Sh_isEmpty T_Sh_isEmpty = true := by decide +kernel
theorem ok_Sh_isEmpty : pm_okm M_Sh_isEmpty := pm_okm_of _ 402 84 400 401 (by decide +kernel)
set_option maxRecDepth 100000 in
set_option maxHeartbeats 4000000 in
theorem u_Sh_isEmpty {d : Nat} {H : pmT} {Q : pmQ} (s : Nat)
    (h : pm_chkO s 7 ((0 ≤ (H.1 s 0) → ((0 : Int32) = 0 ∨ (0 : Int32) = 1) ∧ (Q (some (.int (0 : Int32))) H)) ∧ (¬ 0 ≤ (H.1 s 0) → pm_chkO s 7 ((¬ (H.1 s 1) = (-1 : Int32) → ((0 : Int32) = 0 ∨ (0 : Int32) = 1) ∧ (Q (some (.int (0 : Int32))) H)) ∧ ((H.1 s 1) = (-1 : Int32) → ((1 : Int32) = 0 ∨ (1 : Int32) = 1) ∧ (Q (some (.int (1 : Int32))) H)))))) : pm_R d M_Sh_isEmpty [.ref s] H Q :=
  pm_walk (n := 10) ok_Sh_isEmpty tk_Sh_isEmpty rfl (Nat.le_of_ble_eq_true rfl) h
def T_Sh_isRow : List pmE := [
  (0, [], .aload 0, 0, 0, 0),
  (1, [], .getfield 449, 0, 15, 329),
  (4, [], .iconst (-1), 0, 0, 0),
  (5, [], .if_icmp .eq 12, 0, 0, 0),
  (8, [], .iconst 1, 0, 0, 0),
  (9, [], .goto 13, 0, 0, 0),
  (12, [], .iconst 0, 0, 0, 0),
  (13, [], .areturn, 0, 0, 0)]
theorem tk_Sh_isRow : pm_okT M_Sh_isRow T_Sh_isRow = true := by decide +kernel
theorem ok_Sh_isRow : pm_okm M_Sh_isRow := pm_okm_of _ 410 84 408 409 (by decide +kernel)
set_option maxRecDepth 100000 in
set_option maxHeartbeats 4000000 in
theorem u_Sh_isRow {d : Nat} {H : pmT} {Q : pmQ} (s : Nat)
    (h : pm_chkO s 7 (((H.1 s 1) = (-1 : Int32) → ((0 : Int32) = 0 ∨ (0 : Int32) = 1) ∧ (Q (some (.int (0 : Int32))) H)) ∧ (¬ (H.1 s 1) = (-1 : Int32) → ((1 : Int32) = 0 ∨ (1 : Int32) = 1) ∧ (Q (some (.int (1 : Int32))) H)))) : pm_R d M_Sh_isRow [.ref s] H Q :=
  pm_walk (n := 7) ok_Sh_isRow tk_Sh_isRow rfl (Nat.le_of_ble_eq_true rfl) h
def T_Sh_isRowOf : List pmE := [
  (0, [], .aload 0, 0, 0, 0),
  (1, [], .invokeinterface 83 517, 0, 25, 407),
  (4, [], .ifCond .eq 19, 0, 0, 0),
  (7, [], .aload 0, 0, 0, 0),
  (8, [], .getfield 449, 0, 15, 329),
  (11, [], .iload 1, 0, 0, 0),
  (12, [], .if_icmp .ne 19, 0, 0, 0),
  (15, [], .iconst 1, 0, 0, 0),
  (16, [], .goto 20, 0, 0, 0),
  (19, [], .iconst 0, 0, 0, 0),
  (20, [], .areturn, 0, 0, 0)]
theorem tk_Sh_isRowOf : pm_okT M_Sh_isRowOf T_Sh_isRowOf = true := by decide +kernel
theorem ok_Sh_isRowOf : pm_okm M_Sh_isRowOf := pm_okm_of _ 406 84 404 405 (by decide +kernel)
set_option maxRecDepth 100000 in
set_option maxHeartbeats 4000000 in
theorem u_Sh_isRowOf {d : Nat} {H : pmT} {Q : pmQ} (s : Nat) (a1 : Int32)
    (h : pm_chkO s 7 (pm_R d M_Sh_isRow [.ref s] H (pm_i (fun x2 H1 => (x2 = 0 → ((0 : Int32) = 0 ∨ (0 : Int32) = 1) ∧ (Q (some (.int (0 : Int32))) H1)) ∧ (¬ x2 = 0 → pm_chkO s 7 ((¬ (H1.1 s 1) = a1 → ((0 : Int32) = 0 ∨ (0 : Int32) = 1) ∧ (Q (some (.int (0 : Int32))) H1)) ∧ ((H1.1 s 1) = a1 → ((1 : Int32) = 0 ∨ (1 : Int32) = 1) ∧ (Q (some (.int (1 : Int32))) H1)))))))) : pm_R (d + 1) M_Sh_isRowOf [.ref s, .int a1] H Q :=
  pm_walk (n := 10) ok_Sh_isRowOf tk_Sh_isRowOf rfl (Nat.le_of_ble_eq_true rfl) h
def T_Sh_holdBody : List pmE := [
  (0, [], .aload 0, 0, 0, 0),
  (1, [], .iload 1, 0, 0, 0),
  (2, [], .putfield 448, 0, 9, 327),
  (5, [], .aload 0, 0, 0, 0),
  (6, [], .iconst (-1), 0, 0, 0),
  (7, [], .putfield 449, 0, 15, 329),
  (10, [], .aload 0, 0, 0, 0),
  (11, [], .iconst 0, 0, 0, 0),
  (12, [], .putfield 450, 0, 18, 331),
  (15, [], .return_, 0, 0, 0)]
theorem tk_Sh_holdBody : pm_okT M_Sh_holdBody T_Sh_holdBody = true := by decide +kernel
theorem ok_Sh_holdBody : pm_okm M_Sh_holdBody := pm_okm_of _ 925 84 923 924 (by decide +kernel)
set_option maxRecDepth 100000 in
set_option maxHeartbeats 4000000 in
theorem u_Sh_holdBody {d : Nat} {H : pmT} {Q : pmQ} (s : Nat) (a1 : Int32)
    (h : pm_chkO s 7 (pm_chkO s 7 (pm_chkO s 7 (Q none ((pm_up (pm_up (pm_up H.1 s 0 a1) s 1 (-1 : Int32)) s 2 (0 : Int32)), H.2))))) : pm_R d M_Sh_holdBody [.ref s, .int a1] H Q :=
  pm_walk (n := 10) ok_Sh_holdBody tk_Sh_holdBody rfl (Nat.le_of_ble_eq_true rfl) h
def T_Sh_refusalOfPlaces : List pmE := [
  (0, [], .aload 0, 0, 0, 0),
  (1, [], .invokeinterface 82 517, 0, 29, 942),
  (4, [], .ifCond .eq 10, 0, 0, 0),
  (7, [], .iconst (-11), 1, 0, 0),
  (9, [], .ireturn, 0, 0, 0),
  (10, [], .aload 0, 0, 0, 0),
  (11, [], .invokeinterface 83 517, 0, 25, 407),
  (14, [], .ifCond .ne 20, 0, 0, 0),
  (17, [], .iconst (-12), 1, 0, 0),
  (19, [], .ireturn, 0, 0, 0),
  (20, [], .iload 1, 0, 0, 0),
  (21, [], .ifCond .lt 46, 0, 0, 0),
  (24, [], .iload 1, 0, 0, 0),
  (25, [], .aload 0, 0, 0, 0),
  (26, [], .getfield 450, 0, 18, 331),
  (29, [], .if_icmp .gt 46, 0, 0, 0),
  (32, [], .iload 2, 0, 0, 0),
  (33, [], .ifCond .lt 46, 0, 0, 0),
  (36, [], .iload 2, 0, 0, 0),
  (37, [], .aload 0, 0, 0, 0),
  (38, [], .getfield 450, 0, 18, 331),
  (41, [], .iload 1, 0, 0, 0),
  (42, [], .isub, 0, 0, 0),
  (43, [], .if_icmp .le 51, 0, 0, 0),
  (46, [], .iconst (-13), 1, 0, 0),
  (48, [], .goto 52, 0, 0, 0),
  (51, [], .iconst 0, 0, 0, 0),
  (52, [], .ireturn, 0, 0, 0)]
theorem tk_Sh_refusalOfPlaces : pm_okT M_Sh_refusalOfPlaces T_Sh_refusalOfPlaces = true := by decide +kernel
theorem ok_Sh_refusalOfPlaces : pm_okm M_Sh_refusalOfPlaces := pm_okm_of _ 941 84 939 940 (by decide +kernel)
set_option maxRecDepth 100000 in
set_option maxHeartbeats 4000000 in
theorem u_Sh_refusalOfPlaces {d : Nat} {H : pmT} {Q : pmQ} (s : Nat) (a1 : Int32) (a2 : Int32)
    (h : pm_chkO s 7 (pm_R d M_Sh_isEmpty [.ref s] H (pm_i (fun x2 H1 => (x2 = 0 → pm_chkO s 7 (pm_R d M_Sh_isRow [.ref s] H1 (pm_i (fun x4 H3 => (¬ x4 = 0 → (a1 < 0 → Q (some (.int (-13 : Int32))) H3) ∧ (¬ a1 < 0 → pm_chkO s 7 (((H3.1 s 2) < a1 → Q (some (.int (-13 : Int32))) H3) ∧ (¬ (H3.1 s 2) < a1 → (a2 < 0 → Q (some (.int (-13 : Int32))) H3) ∧ (¬ a2 < 0 → pm_chkO s 7 ((a2 ≤ ((H3.1 s 2) - a1) → Q (some (.int (0 : Int32))) H3) ∧ (¬ a2 ≤ ((H3.1 s 2) - a1) → Q (some (.int (-13 : Int32))) H3))))))) ∧ (x4 = 0 → Q (some (.int (-12 : Int32))) H3))))) ∧ (¬ x2 = 0 → Q (some (.int (-11 : Int32))) H1))))) : pm_R (d + 1) M_Sh_refusalOfPlaces [.ref s, .int a1, .int a2] H Q :=
  pm_walk (n := 23) ok_Sh_refusalOfPlaces tk_Sh_refusalOfPlaces rfl (Nat.le_of_ble_eq_true rfl) h
def T_Sh_lowestBits : List pmE := [
  (0, [], .aload 0, 0, 0, 0),
  (1, [], .getfield 449, 0, 15, 329),
  (4, [], .lookupswitch 66 #[(0, 40), (1, 45), (2, 50), (3, 66), (4, 54)], 1, 36, 0),
  (40, [], .lload 1, 0, 0, 0),
  (41, [], .l2i, 0, 0, 0),
  (42, [], .i2b, 0, 0, 0),
  (43, [], .i2l, 0, 0, 0),
  (44, [], .lreturn, 0, 0, 0),
  (45, [], .lload 1, 0, 0, 0),
  (46, [], .l2i, 0, 0, 0),
  (47, [], .i2s, 0, 0, 0),
  (48, [], .i2l, 0, 0, 0),
  (49, [], .lreturn, 0, 0, 0),
  (50, [], .lload 1, 0, 0, 0),
  (51, [], .l2i, 0, 0, 0),
  (52, [], .i2l, 0, 0, 0),
  (53, [], .lreturn, 0, 0, 0),
  (54, [], .lload 1, 0, 0, 0),
  (55, [], .jsr 0, 0, 0, 0),
  (56, [], .lcmp, 0, 0, 0),
  (57, [], .ifCond .eq 64, 0, 0, 0),
  (60, [], .jsr 1, 0, 0, 0),
  (61, [], .goto 65, 0, 0, 0),
  (64, [], .jsr 0, 0, 0, 0),
  (65, [], .lreturn, 0, 0, 0),
  (66, [], .lload 1, 0, 0, 0),
  (67, [], .lreturn, 0, 0, 0)]
theorem tk_Sh_lowestBits : pm_okT M_Sh_lowestBits T_Sh_lowestBits = true := by decide +kernel
theorem ok_Sh_lowestBits : pm_okm M_Sh_lowestBits := pm_okm_of _ 950 84 949 26 (by decide +kernel)
set_option maxRecDepth 100000 in
set_option maxHeartbeats 4000000 in
theorem u_Sh_lowestBits {d : Nat} {H : pmT} {Q : pmQ} (s : Nat) (a1 : Int64)
    (h : pm_chkO s 7 (((H.1 s 1) = (0 : Int32) → Q (some (.long a1.toInt32.toInt8.toInt32.toInt64)) H) ∧ (¬ (H.1 s 1) = (0 : Int32) → ((H.1 s 1) = (1 : Int32) → Q (some (.long a1.toInt32.toInt16.toInt32.toInt64)) H) ∧ (¬ (H.1 s 1) = (1 : Int32) → ((H.1 s 1) = (2 : Int32) → Q (some (.long a1.toInt32.toInt64)) H) ∧ (¬ (H.1 s 1) = (2 : Int32) → ((H.1 s 1) = (3 : Int32) → Q (some (.long a1)) H) ∧ (¬ (H.1 s 1) = (3 : Int32) → ((H.1 s 1) = (4 : Int32) → ((lg_cmp a1 (0 : Int64)) = 0 → Q (some (.long (0 : Int64))) H) ∧ (¬ (lg_cmp a1 (0 : Int64)) = 0 → Q (some (.long (1 : Int64))) H)) ∧ (¬ (H.1 s 1) = (4 : Int32) → Q (some (.long a1)) H))))))) : pm_R d M_Sh_lowestBits [.ref s, .long a1] H Q :=
  pm_walk (n := 10) ok_Sh_lowestBits tk_Sh_lowestBits rfl (Nat.le_of_ble_eq_true rfl) h
def T_Sh_set : List pmE := [
  (0, [], .iload 1, 0, 0, 0),
  (1, [], .iconst 0, 0, 0, 0),
  (2, [], .aload 0, 0, 0, 0),
  (3, [], .getfield 450, 0, 18, 331),
  (6, [], .iconst 1, 0, 0, 0),
  (7, [], .isub, 0, 0, 0),
  (8, [], .invokeinterface 135 13, 3, 32, 415),
  (11, [], .ifCond .ne 25, 0, 0, 0),
  (14, [], .aload 0, 0, 0, 0),
  (15, [], .getfield 451, 0, 21, 335),
  (18, [], .iload 1, 0, 0, 0),
  (19, [], .aload 0, 0, 0, 0),
  (20, [], .lload 2, 0, 0, 0),
  (21, [], .invokeinterface 90 522, 0, 36, 947),
  (24, [], .lastore, 0, 0, 0),
  (25, [], .return_, 0, 0, 0)]
theorem tk_Sh_set : pm_okT M_Sh_set T_Sh_set = true := by decide +kernel
theorem ok_Sh_set : pm_okm M_Sh_set := pm_okm_of _ 946 84 944 945 (by decide +kernel)
set_option maxRecDepth 100000 in
set_option maxHeartbeats 4000000 in
theorem u_Sh_set {d : Nat} {H : pmT} {Q : pmQ} (s : Nat) (a1 : Int32) (a2 : Int64)
    (h : pm_chkO s 7 (pm_R d M_PW_outside [.int a1, .int (0 : Int32), .int ((H.1 s 2) - (1 : Int32))] H (pm_i (fun x2 H1 => (¬ x2 = 0 → Q none H1) ∧ (x2 = 0 → pm_chkO s 7 (pm_chkO s 7 (pm_R d M_Sh_lowestBits [.ref s, .long a2] H1 (pm_l (fun x4 H3 => pm_chkA (s + 1) 1 (fun n => vp_in a1 n ∧ (Q none (H3.1, (pm_upL H3.2.1 (s + 1) a1.toNatClampNeg x4), H3.2.2)))))))))))) : pm_R (d + 1) M_Sh_set [.ref s, .int a1, .long a2] H Q :=
  pm_walk (n := 16) ok_Sh_set tk_Sh_set rfl (Nat.le_of_ble_eq_true rfl) h
def T_PW_noBar : List pmE := [
  (0, [], .iload 1, 0, 0, 0),
  (1, [], .iconst 0, 0, 0, 0),
  (2, [], .aload 0, 0, 0, 0),
  (3, [], .getfield 513, 0, 20, 348),
  (6, [], .getfield 192, 0, 242, 113),
  (9, [], .iconst 1, 0, 0, 0),
  (10, [], .isub, 0, 0, 0),
  (11, [], .invokeinterface 135 13, 1, 73, 385),
  (14, [], .areturn, 0, 0, 0)]
theorem tk_PW_noBar : pm_okT M_PW_noBar T_PW_noBar = true := by decide +kernel
theorem ok_PW_noBar : pm_okm M_PW_noBar := pm_okm_of _ 430 76 429 1 (by decide +kernel)
set_option maxRecDepth 100000 in
set_option maxHeartbeats 4000000 in
theorem u_PW_noBar {d : Nat} {H : pmT} {Q : pmQ} (a1 : Int32)
    (h : pm_R d M_PW_outside [.int a1, .int (0 : Int32), .int ((H.1 2 0) - (1 : Int32))] H (pm_i (fun x2 H1 => (x2 = 0 ∨ x2 = 1) ∧ (Q (some (.int x2)) H1)))) : pm_R (d + 1) M_PW_noBar [.ref 0, .int a1] H Q :=
  pm_walk (n := 9) ok_PW_noBar tk_PW_noBar rfl (Nat.le_of_ble_eq_true rfl) h
def T_PW_noShelf : List pmE := [
  (0, [], .iload 0, 0, 0, 0),
  (1, [], .iconst 0, 0, 0, 0),
  (2, [], .iconst 5, 0, 0, 0),
  (3, [], .invokeinterface 135 13, 1, 73, 385),
  (6, [], .areturn, 0, 0, 0)]
theorem tk_PW_noShelf : pm_okT M_PW_noShelf T_PW_noShelf = true := by decide +kernel
theorem ok_PW_noShelf : pm_okm M_PW_noShelf := pm_okm_of _ 398 76 397 0 (by decide +kernel)
set_option maxRecDepth 100000 in
set_option maxHeartbeats 4000000 in
theorem u_PW_noShelf {d : Nat} {H : pmT} {Q : pmQ} (a1 : Int32)
    (h : pm_R d M_PW_outside [.int a1, .int (0 : Int32), .int (5 : Int32)] H (pm_i (fun x2 H1 => (x2 = 0 ∨ x2 = 1) ∧ (Q (some (.int x2)) H1)))) : pm_R (d + 1) M_PW_noShelf [.int a1] H Q :=
  pm_walk (n := 5) ok_PW_noShelf tk_PW_noShelf rfl (Nat.le_of_ble_eq_true rfl) h
def T_PW_nothingToMend : List pmE := [
  (0, [], .iload 2, 0, 0, 0),
  (1, [], .iconst 0, 0, 0, 0),
  (2, [], .getstatic 0, 0, 107, 425),
  (5, [], .arraylength, 0, 0, 0),
  (6, [], .iconst 1, 0, 0, 0),
  (7, [], .isub, 0, 0, 0),
  (8, [], .invokeinterface 135 13, 1, 73, 385),
  (11, [], .ifCond .eq 16, 0, 0, 0),
  (14, [], .iconst 1, 0, 0, 0),
  (15, [], .areturn, 0, 0, 0),
  (16, [], .iload 2, 0, 0, 0),
  (17, [], .iconst 3, 0, 0, 0),
  (18, [], .if_icmp .ge 29, 0, 0, 0),
  (21, [], .aload 0, 0, 0, 0),
  (22, [], .iload 1, 0, 0, 0),
  (23, [], .invokeinterface 136 585, 0, 120, 427),
  (26, [], .goto 38, 0, 0, 0),
  (29, [], .iload 1, 0, 0, 0),
  (30, [], .ifCond .eq 37, 0, 0, 0),
  (33, [], .iconst 1, 0, 0, 0),
  (34, [], .goto 38, 0, 0, 0),
  (37, [], .iconst 0, 0, 0, 0),
  (38, [], .areturn, 0, 0, 0)]
theorem tk_PW_nothingToMend : pm_okT M_PW_nothingToMend T_PW_nothingToMend = true := by decide +kernel
theorem ok_PW_nothingToMend : pm_okm M_PW_nothingToMend := pm_okm_of _ 424 76 423 0 (by decide +kernel)
set_option maxRecDepth 100000 in
set_option maxHeartbeats 4000000 in
theorem u_PW_nothingToMend {d : Nat} {H : pmT} {Q : pmQ} (a1 : Int32) (a2 : Int32)
    (h : pm_R (d + 1) M_PW_outside [.int a2, .int (0 : Int32), .int ((8 : Int32) - (1 : Int32))] H (pm_i (fun x2 H1 => (x2 = 0 → ((3 : Int32) ≤ a2 → (a1 = 0 → ((0 : Int32) = 0 ∨ (0 : Int32) = 1) ∧ (Q (some (.int (0 : Int32))) H1)) ∧ (¬ a1 = 0 → ((1 : Int32) = 0 ∨ (1 : Int32) = 1) ∧ (Q (some (.int (1 : Int32))) H1))) ∧ (¬ (3 : Int32) ≤ a2 → pm_R (d + 1) M_PW_noBar [.ref 0, .int a1] H1 (pm_i (fun x4 H3 => (x4 = 0 ∨ x4 = 1) ∧ (Q (some (.int x4)) H3))))) ∧ (¬ x2 = 0 → ((1 : Int32) = 0 ∨ (1 : Int32) = 1) ∧ (Q (some (.int (1 : Int32))) H1))))) : pm_R (d + 2) M_PW_nothingToMend [.ref 0, .int a1, .int a2] H Q :=
  pm_walk (n := 16) ok_PW_nothingToMend tk_PW_nothingToMend rfl (Nat.le_of_ble_eq_true rfl) h
def T_PW_read : List pmE := [
  (0, [], .iload 2, 0, 0, 0),
  (1, [], .lookupswitch 58 #[(0, 28), (1, 38), (2, 48)], 1, 27, 0),
  (28, [], .aload 0, 0, 0, 0),
  (29, [], .getfield 513, 0, 20, 348),
  (32, [], .getfield 193, 0, 160, 116),
  (35, [], .iload 1, 0, 0, 0),
  (36, [], .iaload, 0, 0, 0),
  (37, [], .ireturn, 0, 0, 0),
  (38, [], .aload 0, 0, 0, 0),
  (39, [], .getfield 513, 0, 20, 348),
  (42, [], .getfield 194, 0, 163, 121),
  (45, [], .iload 1, 0, 0, 0),
  (46, [], .iaload, 0, 0, 0),
  (47, [], .ireturn, 0, 0, 0),
  (48, [], .aload 0, 0, 0, 0),
  (49, [], .getfield 513, 0, 20, 348),
  (52, [], .getfield 195, 0, 373, 125),
  (55, [], .iload 1, 0, 0, 0),
  (56, [], .iaload, 0, 0, 0),
  (57, [], .ireturn, 0, 0, 0),
  (58, [], .aload 0, 0, 0, 0),
  (59, [], .getfield 512, 0, 10, 347),
  (62, [], .getfield 387, 0, 376, 193),
  (65, [], .iload 2, 0, 0, 0),
  (66, [], .iconst 3, 0, 0, 0),
  (67, [], .isub, 0, 0, 0),
  (68, [], .iaload, 0, 0, 0),
  (69, [], .ireturn, 0, 0, 0)]
theorem tk_PW_read : pm_okT M_PW_read T_PW_read = true := by decide +kernel
theorem ok_PW_read : pm_okm M_PW_read := pm_okm_of _ 434 76 433 2 (by decide +kernel)
set_option maxRecDepth 100000 in
set_option maxHeartbeats 4000000 in
theorem u_PW_read {d : Nat} {H : pmT} {Q : pmQ} (a1 : Int32) (a2 : Int32)
    (h : (a2 = (0 : Int32) → vp_in a1 12 ∧ (Q (some (.int (H.1 3 a1.toNatClampNeg))) H)) ∧ (¬ a2 = (0 : Int32) → (a2 = (1 : Int32) → vp_in a1 12 ∧ (Q (some (.int (H.1 4 a1.toNatClampNeg))) H)) ∧ (¬ a2 = (1 : Int32) → (a2 = (2 : Int32) → vp_in a1 12 ∧ (Q (some (.int (H.1 5 a1.toNatClampNeg))) H)) ∧ (¬ a2 = (2 : Int32) → vp_in (a2 - (3 : Int32)) 5 ∧ (Q (some (.int (H.1 20 ((a2 - (3 : Int32)).toNatClampNeg)))) H))))) : pm_R d M_PW_read [.ref 0, .int a1, .int a2] H Q :=
  pm_walk (n := 10) ok_PW_read tk_PW_read rfl (Nat.le_of_ble_eq_true rfl) h
def T_PW_write : List pmE := [
  (0, [], .iload 2, 0, 0, 0),
  (1, [], .lookupswitch 67 #[(0, 28), (1, 41), (2, 54)], 1, 27, 0),
  (28, [], .aload 0, 0, 0, 0),
  (29, [], .getfield 513, 0, 20, 348),
  (32, [], .getfield 193, 0, 160, 116),
  (35, [], .iload 1, 0, 0, 0),
  (36, [], .iload 3, 0, 0, 0),
  (37, [], .iastore, 0, 0, 0),
  (38, [], .goto 79, 0, 0, 0),
  (41, [], .aload 0, 0, 0, 0),
  (42, [], .getfield 513, 0, 20, 348),
  (45, [], .getfield 194, 0, 163, 121),
  (48, [], .iload 1, 0, 0, 0),
  (49, [], .iload 3, 0, 0, 0),
  (50, [], .iastore, 0, 0, 0),
  (51, [], .goto 79, 0, 0, 0),
  (54, [], .aload 0, 0, 0, 0),
  (55, [], .getfield 513, 0, 20, 348),
  (58, [], .getfield 195, 0, 373, 125),
  (61, [], .iload 1, 0, 0, 0),
  (62, [], .iload 3, 0, 0, 0),
  (63, [], .iastore, 0, 0, 0),
  (64, [], .goto 79, 0, 0, 0),
  (67, [], .aload 0, 0, 0, 0),
  (68, [], .getfield 512, 0, 10, 347),
  (71, [], .getfield 387, 0, 376, 193),
  (74, [], .iload 2, 0, 0, 0),
  (75, [], .iconst 3, 0, 0, 0),
  (76, [], .isub, 0, 0, 0),
  (77, [], .iload 3, 0, 0, 0),
  (78, [], .iastore, 0, 0, 0),
  (79, [], .return_, 0, 0, 0)]
theorem tk_PW_write : pm_okT M_PW_write T_PW_write = true := by decide +kernel
theorem ok_PW_write : pm_okm M_PW_write := pm_okm_of _ 438 76 437 3 (by decide +kernel)
set_option maxRecDepth 100000 in
set_option maxHeartbeats 4000000 in
theorem u_PW_write {d : Nat} {H : pmT} {Q : pmQ} (a1 : Int32) (a2 : Int32) (a3 : Int32)
    (h : (a2 = (0 : Int32) → vp_in a1 12 ∧ (Q none ((pm_up H.1 3 a1.toNatClampNeg a3), H.2))) ∧ (¬ a2 = (0 : Int32) → (a2 = (1 : Int32) → vp_in a1 12 ∧ (Q none ((pm_up H.1 4 a1.toNatClampNeg a3), H.2))) ∧ (¬ a2 = (1 : Int32) → (a2 = (2 : Int32) → vp_in a1 12 ∧ (Q none ((pm_up H.1 5 a1.toNatClampNeg a3), H.2))) ∧ (¬ a2 = (2 : Int32) → vp_in (a2 - (3 : Int32)) 5 ∧ (Q none ((pm_up H.1 20 ((a2 - (3 : Int32)).toNatClampNeg) a3), H.2)))))) : pm_R d M_PW_write [.ref 0, .int a1, .int a2, .int a3] H Q :=
  pm_walk (n := 11) ok_PW_write tk_PW_write rfl (Nat.le_of_ble_eq_true rfl) h
def T_PW_refusalOfBytes : List pmE := [
  (0, [], .aload 0, 0, 0, 0),
  (1, [], .getfield 518, 0, 51, 353),
  (4, [], .iload 1, 0, 0, 0),
  (5, [], .aaload, 0, 0, 0),
  (6, [], .astore 2, 0, 0, 0),
  (7, [], .aload 2, 0, 0, 0),
  (8, [], .invokeinterface 82 517, 0, 85, 399),
  (11, [], .ifCond .eq 17, 0, 0, 0),
  (14, [], .iconst (-11), 1, 0, 0),
  (16, [], .ireturn, 0, 0, 0),
  (17, [], .aload 2, 0, 0, 0),
  (18, [], .iconst 0, 0, 0, 0),
  (19, [], .invokeinterface 84 521, 0, 89, 403),
  (22, [], .ifCond .eq 29, 0, 0, 0),
  (25, [], .iconst 0, 0, 0, 0),
  (26, [], .goto 31, 0, 0, 0),
  (29, [], .iconst (-12), 1, 0, 0),
  (31, [], .ireturn, 0, 0, 0)]
theorem tk_PW_refusalOfBytes : pm_okT M_PW_refusalOfBytes T_PW_refusalOfBytes = true := by decide +kernel
theorem ok_PW_refusalOfBytes : pm_okm M_PW_refusalOfBytes := pm_okm_of _ 551 76 550 13 (by decide +kernel)
set_option maxRecDepth 100000 in
set_option maxHeartbeats 4000000 in
theorem u_PW_refusalOfBytes {d : Nat} {H : pmT} {Q : pmQ} (a1 : Int32)
    (h : vp_in a1 6 ∧ (pm_chkO (43 + 2 * a1.toNatClampNeg) 7 (pm_R (d + 1) M_Sh_isEmpty [.ref (43 + 2 * a1.toNatClampNeg)] H (pm_i (fun x2 H1 => (x2 = 0 → pm_chkO (43 + 2 * a1.toNatClampNeg) 7 (pm_R (d + 1) M_Sh_isRowOf [.ref (43 + 2 * a1.toNatClampNeg), .int (0 : Int32)] H1 (pm_i (fun x4 H3 => (x4 = 0 → Q (some (.int (-12 : Int32))) H3) ∧ (¬ x4 = 0 → Q (some (.int (0 : Int32))) H3))))) ∧ (¬ x2 = 0 → Q (some (.int (-11 : Int32))) H1)))))) : pm_R (d + 2) M_PW_refusalOfBytes [.ref 0, .int a1] H Q :=
  pm_walk (n := 15) ok_PW_refusalOfBytes tk_PW_refusalOfBytes rfl (Nat.le_of_ble_eq_true rfl) h
def T_Mo_within : List pmE := [
  (0, [], .lload 0, 0, 0, 0),
  (1, [], .lload 2, 0, 0, 0),
  (2, [], .lcmp, 0, 0, 0),
  (3, [], .ifCond .lt 17, 0, 0, 0),
  (6, [], .lload 0, 0, 0, 0),
  (7, [], .lload 4, 1, 0, 0),
  (9, [], .lcmp, 0, 0, 0),
  (10, [], .ifCond .gt 17, 0, 0, 0),
  (13, [], .iconst 1, 0, 0, 0),
  (14, [], .goto 18, 0, 0, 0),
  (17, [], .iconst 0, 0, 0, 0),
  (18, [], .areturn, 0, 0, 0)]
theorem tk_Mo_within : pm_okT M_Mo_within T_Mo_within = true := by decide +kernel
theorem ok_Mo_within : pm_okm M_Mo_within := pm_okm_of _ 1154 85 1153 0 (by decide +kernel)
set_option maxRecDepth 100000 in
set_option maxHeartbeats 4000000 in
theorem u_Mo_within {d : Nat} {H : pmT} {Q : pmQ} (a1 : Int64) (a2 : Int64) (a3 : Int64)
    (h : ((lg_cmp a1 a2) < 0 → ((0 : Int32) = 0 ∨ (0 : Int32) = 1) ∧ (Q (some (.int (0 : Int32))) H)) ∧ (¬ (lg_cmp a1 a2) < 0 → (0 < (lg_cmp a1 a3) → ((0 : Int32) = 0 ∨ (0 : Int32) = 1) ∧ (Q (some (.int (0 : Int32))) H)) ∧ (¬ 0 < (lg_cmp a1 a3) → ((1 : Int32) = 0 ∨ (1 : Int32) = 1) ∧ (Q (some (.int (1 : Int32))) H)))) : pm_R d M_Mo_within [.long a1, .long a2, .long a3] H Q :=
  pm_walk (n := 11) ok_Mo_within tk_Mo_within rfl (Nat.le_of_ble_eq_true rfl) h
def T_Mo_isIn : List pmE := [
  (0, [], .iload 0, 0, 0, 0),
  (1, [], .iload 1, 0, 0, 0),
  (2, [], .ishr, 0, 0, 0),
  (3, [], .iconst 1, 0, 0, 0),
  (4, [], .iand, 0, 0, 0),
  (5, [], .iconst 1, 0, 0, 0),
  (6, [], .if_icmp .ne 13, 0, 0, 0),
  (9, [], .iconst 1, 0, 0, 0),
  (10, [], .goto 14, 0, 0, 0),
  (13, [], .iconst 0, 0, 0, 0),
  (14, [], .areturn, 0, 0, 0)]
theorem tk_Mo_isIn : pm_okT M_Mo_isIn T_Mo_isIn = true := by decide +kernel
theorem ok_Mo_isIn : pm_okm M_Mo_isIn := pm_okm_of _ 1358 85 1357 0 (by decide +kernel)
set_option maxRecDepth 100000 in
set_option maxHeartbeats 4000000 in
theorem u_Mo_isIn {d : Nat} {H : pmT} {Q : pmQ} (a1 : Int32) (a2 : Int32)
    (h : (¬ ((a1 >>> (a2 &&& 31)) &&& (1 : Int32)) = (1 : Int32) → ((0 : Int32) = 0 ∨ (0 : Int32) = 1) ∧ (Q (some (.int (0 : Int32))) H)) ∧ (((a1 >>> (a2 &&& 31)) &&& (1 : Int32)) = (1 : Int32) → ((1 : Int32) = 0 ∨ (1 : Int32) = 1) ∧ (Q (some (.int (1 : Int32))) H))) : pm_R d M_Mo_isIn [.int a1, .int a2] H Q :=
  pm_walk (n := 10) ok_Mo_isIn tk_Mo_isIn rfl (Nat.le_of_ble_eq_true rfl) h
def T_Mo_isBar : List pmE := [
  (0, [], .lload 1, 0, 0, 0),
  (1, [], .jsr 0, 0, 0, 0),
  (2, [], .aload 0, 0, 0, 0),
  (3, [], .getfield 582, 0, 111, 984),
  (6, [], .iconst 1, 0, 0, 0),
  (7, [], .isub, 0, 0, 0),
  (8, [], .i2l, 0, 0, 0),
  (9, [], .invokeinterface 143 13, 1, 114, 1152),
  (12, [], .areturn, 0, 0, 0)]
theorem tk_Mo_isBar : pm_okT M_Mo_isBar T_Mo_isBar = true := by decide +kernel
theorem ok_Mo_isBar : pm_okm M_Mo_isBar := pm_okm_of _ 1180 85 1179 29 (by decide +kernel)
set_option maxRecDepth 100000 in
set_option maxHeartbeats 4000000 in
theorem u_Mo_isBar {d : Nat} {H : pmT} {Q : pmQ} (a1 : Int64)
    (h : pm_R d M_Mo_within [.long a1, .long (0 : Int64), .long (((H.1 55 6) - (1 : Int32)).toInt64)] H (pm_i (fun x2 H1 => (x2 = 0 ∨ x2 = 1) ∧ (Q (some (.int x2)) H1)))) : pm_R (d + 1) M_Mo_isBar [.ref 55, .long a1] H Q :=
  pm_walk (n := 9) ok_Mo_isBar tk_Mo_isBar rfl (Nat.le_of_ble_eq_true rfl) h
def T_Mo_adds : List pmE := [
  (0, [], .aload 0, 0, 0, 0),
  (1, [], .getfield 576, 0, 11, 978),
  (4, [], .aload 0, 0, 0, 0),
  (5, [], .getfield 582, 0, 111, 984),
  (8, [], .iload 1, 0, 0, 0),
  (9, [], .iastore, 0, 0, 0),
  (10, [], .aload 0, 0, 0, 0),
  (11, [], .getfield 576, 0, 11, 978),
  (14, [], .iconst 12, 1, 0, 0),
  (16, [], .aload 0, 0, 0, 0),
  (17, [], .getfield 582, 0, 111, 984),
  (20, [], .iadd, 0, 0, 0),
  (21, [], .iload 2, 0, 0, 0),
  (22, [], .iastore, 0, 0, 0),
  (23, [], .aload 0, 0, 0, 0),
  (24, [], .getfield 576, 0, 11, 978),
  (27, [], .iconst 24, 1, 0, 0),
  (29, [], .aload 0, 0, 0, 0),
  (30, [], .getfield 582, 0, 111, 984),
  (33, [], .iadd, 0, 0, 0),
  (34, [], .iconst 0, 0, 0, 0),
  (35, [], .iastore, 0, 0, 0),
  (36, [], .aload 0, 0, 0, 0),
  (37, [], .getfield 583, 0, 24, 985),
  (40, [], .aload 0, 0, 0, 0),
  (41, [], .getfield 582, 0, 111, 984),
  (44, [], .iconst 0, 0, 0, 0),
  (45, [], .iastore, 0, 0, 0),
  (46, [], .aload 0, 0, 0, 0),
  (47, [], .getfield 584, 0, 27, 986),
  (50, [], .aload 0, 0, 0, 0),
  (51, [], .getfield 582, 0, 111, 984),
  (54, [], .iconst 0, 0, 0, 0),
  (55, [], .iastore, 0, 0, 0),
  (56, [], .aload 0, 0, 0, 0),
  (57, [], .dup, 0, 0, 0),
  (58, [], .getfield 582, 0, 111, 984),
  (61, [], .iconst 1, 0, 0, 0),
  (62, [], .iadd, 0, 0, 0),
  (63, [], .putfield 582, 0, 111, 984),
  (66, [], .return_, 0, 0, 0)]
theorem tk_Mo_adds : pm_okT M_Mo_adds T_Mo_adds = true := by decide +kernel
theorem ok_Mo_adds : pm_okm M_Mo_adds := pm_okm_of _ 1158 85 1157 27 (by decide +kernel)
set_option maxRecDepth 100000 in
set_option maxHeartbeats 4000000 in
theorem u_Mo_adds {d : Nat} {H : pmT} {Q : pmQ} (a1 : Int32) (a2 : Int32)
    (h : vp_in (H.1 55 6) 41 ∧ (vp_in ((12 : Int32) + (H.1 55 6)) 41 ∧ (vp_in ((24 : Int32) + (H.1 55 6)) 41 ∧ (vp_in (H.1 55 6) 12 ∧ (vp_in (H.1 55 6) 12 ∧ (Q none ((pm_up (pm_up (pm_up (pm_up (pm_up (pm_up H.1 56 ((H.1 55 6).toNatClampNeg) a1) 56 (((12 : Int32) + (H.1 55 6)).toNatClampNeg) a2) 56 (((24 : Int32) + (H.1 55 6)).toNatClampNeg) (0 : Int32)) 60 ((H.1 55 6).toNatClampNeg) (0 : Int32)) 61 ((H.1 55 6).toNatClampNeg) (0 : Int32)) 55 6 ((H.1 55 6) + (1 : Int32))), H.2))))))) : pm_R d M_Mo_adds [.ref 55, .int a1, .int a2] H Q :=
  pm_walk (n := 41) ok_Mo_adds tk_Mo_adds rfl (Nat.le_of_ble_eq_true rfl) h
def T_Mo_isOne : List pmE := [
  (0, [], .lload 0, 0, 0, 0),
  (1, [], .jsr 0, 0, 0, 0),
  (2, [], .jsr 999, 1, 118, 1151),
  (5, [], .invokeinterface 143 13, 1, 114, 1152),
  (8, [], .ifCond .eq 26, 0, 0, 0),
  (11, [], .lload 2, 0, 0, 0),
  (12, [], .jsr 0, 0, 0, 0),
  (13, [], .jsr 999, 1, 118, 1151),
  (16, [], .invokeinterface 143 13, 1, 114, 1152),
  (19, [], .ifCond .eq 26, 0, 0, 0),
  (22, [], .iconst 1, 0, 0, 0),
  (23, [], .goto 27, 0, 0, 0),
  (26, [], .iconst 0, 0, 0, 0),
  (27, [], .areturn, 0, 0, 0)]
theorem tk_Mo_isOne : pm_okT M_Mo_isOne T_Mo_isOne = true := by decide +kernel
theorem ok_Mo_isOne : pm_okm M_Mo_isOne := pm_okm_of _ 1150 85 1149 0 (by decide +kernel)
set_option maxRecDepth 100000 in
set_option maxHeartbeats 4000000 in
theorem u_Mo_isOne {d : Nat} {H : pmT} {Q : pmQ} (a1 : Int64) (a2 : Int64)
    (h : pm_R d M_Mo_within [.long a1, .long (0 : Int64), .long (999 : Int64)] H (pm_i (fun x2 H1 => (x2 = 0 → ((0 : Int32) = 0 ∨ (0 : Int32) = 1) ∧ (Q (some (.int (0 : Int32))) H1)) ∧ (¬ x2 = 0 → pm_R d M_Mo_within [.long a2, .long (0 : Int64), .long (999 : Int64)] H1 (pm_i (fun x4 H3 => (x4 = 0 → ((0 : Int32) = 0 ∨ (0 : Int32) = 1) ∧ (Q (some (.int (0 : Int32))) H3)) ∧ (¬ x4 = 0 → ((1 : Int32) = 0 ∨ (1 : Int32) = 1) ∧ (Q (some (.int (1 : Int32))) H3)))))))) : pm_R (d + 1) M_Mo_isOne [.long a1, .long a2] H Q :=
  pm_walk (n := 13) ok_Mo_isOne tk_Mo_isOne rfl (Nat.le_of_ble_eq_true rfl) h
def T_Mo_greatest : List pmE := [
  (0, [], .iload 0, 0, 0, 0),
  (1, [], .lookupswitch 56 #[(0, 44), (1, 44), (2, 48), (3, 56), (4, 56), (5, 50), (6, 53)], 1, 43, 0),
  (44, [], .iconst 999, 2, 0, 0),
  (47, [], .ireturn, 0, 0, 0),
  (48, [], .iconst 1, 0, 0, 0),
  (49, [], .ireturn, 0, 0, 0),
  (50, [], .iconst 12, 1, 0, 0),
  (52, [], .ireturn, 0, 0, 0),
  (53, [], .iconst 9, 1, 0, 0),
  (55, [], .ireturn, 0, 0, 0),
  (56, [], .iconst 99, 1, 0, 0),
  (58, [], .ireturn, 0, 0, 0)]
theorem tk_Mo_greatest : pm_okT M_Mo_greatest T_Mo_greatest = true := by decide +kernel
theorem ok_Mo_greatest : pm_okm M_Mo_greatest := pm_okm_of _ 1185 85 1184 0 (by decide +kernel)
set_option maxRecDepth 100000 in
set_option maxHeartbeats 4000000 in
theorem u_Mo_greatest {d : Nat} {H : pmT} {Q : pmQ} (a1 : Int32)
    (h : (a1 = (0 : Int32) → Q (some (.int (999 : Int32))) H) ∧ (¬ a1 = (0 : Int32) → (a1 = (1 : Int32) → Q (some (.int (999 : Int32))) H) ∧ (¬ a1 = (1 : Int32) → (a1 = (2 : Int32) → Q (some (.int (1 : Int32))) H) ∧ (¬ a1 = (2 : Int32) → (a1 = (3 : Int32) → Q (some (.int (99 : Int32))) H) ∧ (¬ a1 = (3 : Int32) → (a1 = (4 : Int32) → Q (some (.int (99 : Int32))) H) ∧ (¬ a1 = (4 : Int32) → (a1 = (5 : Int32) → Q (some (.int (12 : Int32))) H) ∧ (¬ a1 = (5 : Int32) → (a1 = (6 : Int32) → Q (some (.int (9 : Int32))) H) ∧ (¬ a1 = (6 : Int32) → Q (some (.int (99 : Int32))) H)))))))) : pm_R d M_Mo_greatest [.int a1] H Q :=
  pm_walk (n := 4) ok_Mo_greatest tk_Mo_greatest rfl (Nat.le_of_ble_eq_true rfl) h
def T_Mo_wrongAt : List pmE := [
  (0, [], .aload 0, 0, 0, 0),
  (1, [], .aload 0, 0, 0, 0),
  (2, [], .getfield 592, 0, 169, 994),
  (5, [], .ifCond .ge 15, 0, 0, 0),
  (8, [], .aload 0, 0, 0, 0),
  (9, [], .getfield 590, 0, 160, 992),
  (12, [], .goto 19, 0, 0, 0),
  (15, [], .aload 0, 0, 0, 0),
  (16, [], .getfield 592, 0, 169, 994),
  (19, [], .putfield 592, 0, 169, 994),
  (22, [], .iconst 0, 0, 0, 0),
  (23, [], .ireturn, 0, 0, 0)]
theorem tk_Mo_wrongAt : pm_okT M_Mo_wrongAt T_Mo_wrongAt = true := by decide +kernel
theorem ok_Mo_wrongAt : pm_okm M_Mo_wrongAt := pm_okm_of _ 1238 85 1237 39 (by decide +kernel)
set_option maxRecDepth 100000 in
set_option maxHeartbeats 4000000 in
theorem u_Mo_wrongAt {d : Nat} {H : pmT} {Q : pmQ} 
    (h : (0 ≤ (H.1 55 16) → Q (some (.int (0 : Int32))) ((pm_up H.1 55 16 (H.1 55 16)), H.2)) ∧ (¬ 0 ≤ (H.1 55 16) → Q (some (.int (0 : Int32))) ((pm_up H.1 55 16 (H.1 55 14)), H.2))) : pm_R d M_Mo_wrongAt [.ref 55] H Q :=
  pm_walk (n := 10) ok_Mo_wrongAt tk_Mo_wrongAt rfl (Nat.le_of_ble_eq_true rfl) h
def T_Mo_beginsBar : List pmE := [
  (0, [], .aload 0, 0, 0, 0),
  (1, [], .getfield 595, 0, 39, 997),
  (4, [], .iload 1, 0, 0, 0),
  (5, [], .aload 0, 0, 0, 0),
  (6, [], .getfield 576, 0, 11, 978),
  (9, [], .iload 1, 0, 0, 0),
  (10, [], .iaload, 0, 0, 0),
  (11, [], .iastore, 0, 0, 0),
  (12, [], .aload 0, 0, 0, 0),
  (13, [], .getfield 596, 0, 42, 998),
  (16, [], .iload 1, 0, 0, 0),
  (17, [], .aload 0, 0, 0, 0),
  (18, [], .getfield 576, 0, 11, 978),
  (21, [], .iconst 12, 1, 0, 0),
  (23, [], .iload 1, 0, 0, 0),
  (24, [], .iadd, 0, 0, 0),
  (25, [], .iaload, 0, 0, 0),
  (26, [], .iastore, 0, 0, 0),
  (27, [], .aload 0, 0, 0, 0),
  (28, [], .getfield 597, 0, 45, 999),
  (31, [], .iload 1, 0, 0, 0),
  (32, [], .aload 0, 0, 0, 0),
  (33, [], .getfield 583, 0, 24, 985),
  (36, [], .iload 1, 0, 0, 0),
  (37, [], .iaload, 0, 0, 0),
  (38, [], .iastore, 0, 0, 0),
  (39, [], .aload 0, 0, 0, 0),
  (40, [], .getfield 598, 0, 48, 1000),
  (43, [], .iload 1, 0, 0, 0),
  (44, [], .aload 0, 0, 0, 0),
  (45, [], .getfield 584, 0, 27, 986),
  (48, [], .iload 1, 0, 0, 0),
  (49, [], .iaload, 0, 0, 0),
  (50, [], .iastore, 0, 0, 0),
  (51, [], .return_, 0, 0, 0)]
theorem tk_Mo_beginsBar : pm_okT M_Mo_beginsBar T_Mo_beginsBar = true := by decide +kernel
theorem ok_Mo_beginsBar : pm_okm M_Mo_beginsBar := pm_okm_of _ 1257 85 1256 42 (by decide +kernel)
set_option maxRecDepth 100000 in
set_option maxHeartbeats 4000000 in
theorem u_Mo_beginsBar {d : Nat} {H : pmT} {Q : pmQ} (a1 : Int32)
    (h : vp_in a1 41 ∧ (vp_in a1 12 ∧ (vp_in ((12 : Int32) + a1) 41 ∧ (vp_in a1 12 ∧ (vp_in a1 12 ∧ (vp_in a1 12 ∧ (vp_in a1 12 ∧ (vp_in a1 12 ∧ (Q none ((pm_up (pm_up (pm_up (pm_up H.1 65 a1.toNatClampNeg (H.1 56 a1.toNatClampNeg)) 66 a1.toNatClampNeg (H.1 56 (((12 : Int32) + a1).toNatClampNeg))) 67 a1.toNatClampNeg (H.1 60 a1.toNatClampNeg)) 68 a1.toNatClampNeg (H.1 61 a1.toNatClampNeg)), H.2)))))))))) : pm_R d M_Mo_beginsBar [.ref 55, .int a1] H Q :=
  pm_walk (n := 35) ok_Mo_beginsBar tk_Mo_beginsBar rfl (Nat.le_of_ble_eq_true rfl) h
def T_Mo_isRight : List pmE := [
  (0, [], .aload 0, 0, 0, 0),
  (1, [], .getfield 595, 0, 39, 997),
  (4, [], .iload 1, 0, 0, 0),
  (5, [], .iaload, 0, 0, 0),
  (6, [], .aload 0, 0, 0, 0),
  (7, [], .getfield 596, 0, 42, 998),
  (10, [], .iload 1, 0, 0, 0),
  (11, [], .iaload, 0, 0, 0),
  (12, [], .if_icmp .le 19, 0, 0, 0),
  (15, [], .iconst 1, 0, 0, 0),
  (16, [], .goto 20, 0, 0, 0),
  (19, [], .iconst 0, 0, 0, 0),
  (20, [], .areturn, 0, 0, 0)]
theorem tk_Mo_isRight : pm_okT M_Mo_isRight T_Mo_isRight = true := by decide +kernel
theorem ok_Mo_isRight : pm_okm M_Mo_isRight := pm_okm_of _ 1324 85 1323 55 (by decide +kernel)
set_option maxRecDepth 100000 in
set_option maxHeartbeats 4000000 in
theorem u_Mo_isRight {d : Nat} {H : pmT} {Q : pmQ} (a1 : Int32)
    (h : vp_in a1 12 ∧ (vp_in a1 12 ∧ (((H.1 65 a1.toNatClampNeg) ≤ (H.1 66 a1.toNatClampNeg) → ((0 : Int32) = 0 ∨ (0 : Int32) = 1) ∧ (Q (some (.int (0 : Int32))) H)) ∧ (¬ (H.1 65 a1.toNatClampNeg) ≤ (H.1 66 a1.toNatClampNeg) → ((1 : Int32) = 0 ∨ (1 : Int32) = 1) ∧ (Q (some (.int (1 : Int32))) H))))) : pm_R d M_Mo_isRight [.ref 55, .int a1] H Q :=
  pm_walk (n := 12) ok_Mo_isRight tk_Mo_isRight rfl (Nat.le_of_ble_eq_true rfl) h
def T_Mo_isShelf : List pmE := [
  (0, [], .iload 0, 0, 0, 0),
  (1, [], .i2l, 0, 0, 0),
  (2, [], .jsr 0, 0, 0, 0),
  (3, [], .jsr 5, 1, 294, 1166),
  (6, [], .invokeinterface 143 13, 1, 114, 1152),
  (9, [], .areturn, 0, 0, 0)]
theorem tk_Mo_isShelf : pm_okT M_Mo_isShelf T_Mo_isShelf = true := by decide +kernel
theorem ok_Mo_isShelf : pm_okm M_Mo_isShelf := pm_okm_of _ 1165 85 1164 0 (by decide +kernel)
set_option maxRecDepth 100000 in
set_option maxHeartbeats 4000000 in
theorem u_Mo_isShelf {d : Nat} {H : pmT} {Q : pmQ} (a1 : Int32)
    (h : pm_R d M_Mo_within [.long a1.toInt64, .long (0 : Int64), .long (5 : Int64)] H (pm_i (fun x2 H1 => (x2 = 0 ∨ x2 = 1) ∧ (Q (some (.int x2)) H1)))) : pm_R (d + 1) M_Mo_isShelf [.int a1] H Q :=
  pm_walk (n := 6) ok_Mo_isShelf tk_Mo_isShelf rfl (Nat.le_of_ble_eq_true rfl) h
def T_Mo_bytesIs : List pmE := [
  (0, [], .iload 1, 0, 0, 0),
  (1, [], .invokeinterface 235 5, 1, 128, 1163),
  (4, [], .ifCond .ne 11, 0, 0, 0),
  (7, [], .iconst (-1), 0, 0, 0),
  (8, [], .goto 42, 0, 0, 0),
  (11, [], .aload 0, 0, 0, 0),
  (12, [], .getfield 624, 0, 88, 1026),
  (15, [], .iload 1, 0, 0, 0),
  (16, [], .iaload, 0, 0, 0),
  (17, [], .ifCond .ge 25, 0, 0, 0),
  (20, [], .iconst (-11), 1, 0, 0),
  (22, [], .goto 42, 0, 0, 0),
  (25, [], .aload 0, 0, 0, 0),
  (26, [], .getfield 624, 0, 88, 1026),
  (29, [], .iload 1, 0, 0, 0),
  (30, [], .iaload, 0, 0, 0),
  (31, [], .iconst 50, 1, 0, 0),
  (33, [], .if_icmp .ne 40, 0, 0, 0),
  (36, [], .iconst 1, 0, 0, 0),
  (37, [], .goto 42, 0, 0, 0),
  (40, [], .iconst (-12), 1, 0, 0),
  (42, [], .ireturn, 0, 0, 0)]
theorem tk_Mo_bytesIs : pm_okT M_Mo_bytesIs T_Mo_bytesIs = true := by decide +kernel
theorem ok_Mo_bytesIs : pm_okm M_Mo_bytesIs := pm_okm_of _ 1273 85 1272 45 (by decide +kernel)
set_option maxRecDepth 100000 in
set_option maxHeartbeats 4000000 in
theorem u_Mo_bytesIs {d : Nat} {H : pmT} {Q : pmQ} (a1 : Int32)
    (h : pm_R (d + 1) M_Mo_isShelf [.int a1] H (pm_i (fun x2 H1 => (¬ x2 = 0 → vp_in a1 6 ∧ ((0 ≤ (H1.1 81 a1.toNatClampNeg) → vp_in a1 6 ∧ ((¬ (H1.1 81 a1.toNatClampNeg) = (50 : Int32) → Q (some (.int (-12 : Int32))) H1) ∧ ((H1.1 81 a1.toNatClampNeg) = (50 : Int32) → Q (some (.int (1 : Int32))) H1))) ∧ (¬ 0 ≤ (H1.1 81 a1.toNatClampNeg) → Q (some (.int (-11 : Int32))) H1))) ∧ (x2 = 0 → Q (some (.int (-1 : Int32))) H1)))) : pm_R (d + 2) M_Mo_bytesIs [.ref 55, .int a1] H Q :=
  pm_walk (n := 17) ok_Mo_bytesIs tk_Mo_bytesIs rfl (Nat.le_of_ble_eq_true rfl) h
def T_Mo_itemAt : List pmE := [
  (0, [], .aload 0, 0, 0, 0),
  (1, [], .getfield 626, 0, 94, 1028),
  (4, [], .iconst 60, 1, 0, 0),
  (6, [], .iload 1, 0, 0, 0),
  (7, [], .imul, 0, 0, 0),
  (8, [], .iload 2, 0, 0, 0),
  (9, [], .iadd, 0, 0, 0),
  (10, [], .laload, 0, 0, 0),
  (11, [], .lreturn, 0, 0, 0)]
theorem tk_Mo_itemAt : pm_okT M_Mo_itemAt T_Mo_itemAt = true := by decide +kernel
theorem ok_Mo_itemAt : pm_okm M_Mo_itemAt := pm_okm_of _ 1281 85 1280 47 (by decide +kernel)
set_option maxRecDepth 100000 in
set_option maxHeartbeats 4000000 in
theorem u_Mo_itemAt {d : Nat} {H : pmT} {Q : pmQ} (a1 : Int32) (a2 : Int32)
    (h : vp_in (((60 : Int32) * a1) + a2) 360 ∧ (Q (some (.long (H.2.1 83 ((((60 : Int32) * a1) + a2).toNatClampNeg)))) H)) : pm_R d M_Mo_itemAt [.ref 55, .int a1, .int a2] H Q :=
  pm_walk (n := 9) ok_Mo_itemAt tk_Mo_itemAt rfl (Nat.le_of_ble_eq_true rfl) h
def T_Mo_loads : List pmE := [
  (0, [], .aload 0, 0, 0, 0),
  (1, [], .getfield 595, 0, 39, 997),
  (4, [], .iload 2, 0, 0, 0),
  (5, [], .aload 0, 0, 0, 0),
  (6, [], .getfield 604, 0, 60, 1006),
  (9, [], .iload 1, 0, 0, 0),
  (10, [], .iaload, 0, 0, 0),
  (11, [], .iastore, 0, 0, 0),
  (12, [], .aload 0, 0, 0, 0),
  (13, [], .getfield 596, 0, 42, 998),
  (16, [], .iload 2, 0, 0, 0),
  (17, [], .aload 0, 0, 0, 0),
  (18, [], .getfield 605, 0, 63, 1007),
  (21, [], .iload 1, 0, 0, 0),
  (22, [], .iaload, 0, 0, 0),
  (23, [], .iastore, 0, 0, 0),
  (24, [], .aload 0, 0, 0, 0),
  (25, [], .getfield 597, 0, 45, 999),
  (28, [], .iload 2, 0, 0, 0),
  (29, [], .aload 0, 0, 0, 0),
  (30, [], .getfield 606, 0, 66, 1008),
  (33, [], .iload 1, 0, 0, 0),
  (34, [], .iaload, 0, 0, 0),
  (35, [], .iastore, 0, 0, 0),
  (36, [], .aload 0, 0, 0, 0),
  (37, [], .getfield 598, 0, 48, 1000),
  (40, [], .iload 2, 0, 0, 0),
  (41, [], .aload 0, 0, 0, 0),
  (42, [], .getfield 607, 0, 69, 1009),
  (45, [], .iload 1, 0, 0, 0),
  (46, [], .iaload, 0, 0, 0),
  (47, [], .iastore, 0, 0, 0),
  (48, [], .return_, 0, 0, 0)]
theorem tk_Mo_loads : pm_okT M_Mo_loads T_Mo_loads = true := by decide +kernel
theorem ok_Mo_loads : pm_okm M_Mo_loads := pm_okm_of _ 1434 85 1433 65 (by decide +kernel)
set_option maxRecDepth 100000 in
set_option maxHeartbeats 4000000 in
theorem u_Mo_loads {d : Nat} {H : pmT} {Q : pmQ} (a1 : Int32) (a2 : Int32)
    (h : vp_in a1 2 ∧ (vp_in a2 12 ∧ (vp_in a1 2 ∧ (vp_in a2 12 ∧ (vp_in a1 2 ∧ (vp_in a2 12 ∧ (vp_in a1 2 ∧ (vp_in a2 12 ∧ (Q none ((pm_up (pm_up (pm_up (pm_up H.1 65 a2.toNatClampNeg (H.1 72 a1.toNatClampNeg)) 66 a2.toNatClampNeg (H.1 73 a1.toNatClampNeg)) 67 a2.toNatClampNeg (H.1 74 a1.toNatClampNeg)) 68 a2.toNatClampNeg (H.1 75 a1.toNatClampNeg)), H.2)))))))))) : pm_R d M_Mo_loads [.ref 55, .int a1, .int a2] H Q :=
  pm_walk (n := 33) ok_Mo_loads tk_Mo_loads rfl (Nat.le_of_ble_eq_true rfl) h
def T_Mo_keeps : List pmE := [
  (0, [], .aload 0, 0, 0, 0),
  (1, [], .getfield 604, 0, 60, 1006),
  (4, [], .iload 1, 0, 0, 0),
  (5, [], .aload 0, 0, 0, 0),
  (6, [], .getfield 595, 0, 39, 997),
  (9, [], .iload 2, 0, 0, 0),
  (10, [], .iaload, 0, 0, 0),
  (11, [], .iastore, 0, 0, 0),
  (12, [], .aload 0, 0, 0, 0),
  (13, [], .getfield 605, 0, 63, 1007),
  (16, [], .iload 1, 0, 0, 0),
  (17, [], .aload 0, 0, 0, 0),
  (18, [], .getfield 596, 0, 42, 998),
  (21, [], .iload 2, 0, 0, 0),
  (22, [], .iaload, 0, 0, 0),
  (23, [], .iastore, 0, 0, 0),
  (24, [], .aload 0, 0, 0, 0),
  (25, [], .getfield 606, 0, 66, 1008),
  (28, [], .iload 1, 0, 0, 0),
  (29, [], .aload 0, 0, 0, 0),
  (30, [], .getfield 597, 0, 45, 999),
  (33, [], .iload 2, 0, 0, 0),
  (34, [], .iaload, 0, 0, 0),
  (35, [], .iastore, 0, 0, 0),
  (36, [], .aload 0, 0, 0, 0),
  (37, [], .getfield 607, 0, 69, 1009),
  (40, [], .iload 1, 0, 0, 0),
  (41, [], .aload 0, 0, 0, 0),
  (42, [], .getfield 598, 0, 48, 1000),
  (45, [], .iload 2, 0, 0, 0),
  (46, [], .iaload, 0, 0, 0),
  (47, [], .iastore, 0, 0, 0),
  (48, [], .return_, 0, 0, 0)]
theorem tk_Mo_keeps : pm_okT M_Mo_keeps T_Mo_keeps = true := by decide +kernel
theorem ok_Mo_keeps : pm_okm M_Mo_keeps := pm_okm_of _ 1426 85 1425 63 (by decide +kernel)
set_option maxRecDepth 100000 in
set_option maxHeartbeats 4000000 in
theorem u_Mo_keeps {d : Nat} {H : pmT} {Q : pmQ} (a1 : Int32) (a2 : Int32)
    (h : vp_in a2 12 ∧ (vp_in a1 2 ∧ (vp_in a2 12 ∧ (vp_in a1 2 ∧ (vp_in a2 12 ∧ (vp_in a1 2 ∧ (vp_in a2 12 ∧ (vp_in a1 2 ∧ (Q none ((pm_up (pm_up (pm_up (pm_up H.1 72 a1.toNatClampNeg (H.1 65 a2.toNatClampNeg)) 73 a1.toNatClampNeg (H.1 66 a2.toNatClampNeg)) 74 a1.toNatClampNeg (H.1 67 a2.toNatClampNeg)) 75 a1.toNatClampNeg (H.1 68 a2.toNatClampNeg)), H.2)))))))))) : pm_R d M_Mo_keeps [.ref 55, .int a1, .int a2] H Q :=
  pm_walk (n := 33) ok_Mo_keeps tk_Mo_keeps rfl (Nat.le_of_ble_eq_true rfl) h
def T_Mo_isBody : List pmE := [
  (0, [], .iload 1, 0, 0, 0),
  (1, [], .i2l, 0, 0, 0),
  (2, [], .jsr 0, 0, 0, 0),
  (3, [], .aload 0, 0, 0, 0),
  (4, [], .getfield 618, 0, 352, 1020),
  (7, [], .iconst 1, 0, 0, 0),
  (8, [], .isub, 0, 0, 0),
  (9, [], .i2l, 0, 0, 0),
  (10, [], .invokeinterface 143 13, 1, 114, 1152),
  (13, [], .areturn, 0, 0, 0)]
theorem tk_Mo_isBody : pm_okT M_Mo_isBody T_Mo_isBody = true := by decide +kernel
theorem ok_Mo_isBody : pm_okm M_Mo_isBody := pm_okm_of _ 1480 85 1479 67 (by decide +kernel)
set_option maxRecDepth 100000 in
set_option maxHeartbeats 4000000 in
theorem u_Mo_isBody {d : Nat} {H : pmT} {Q : pmQ} (a1 : Int32)
    (h : pm_R d M_Mo_within [.long a1.toInt64, .long (0 : Int64), .long (((H.1 55 42) - (1 : Int32)).toInt64)] H (pm_i (fun x2 H1 => (x2 = 0 ∨ x2 = 1) ∧ (Q (some (.int x2)) H1)))) : pm_R (d + 1) M_Mo_isBody [.ref 55, .int a1] H Q :=
  pm_walk (n := 10) ok_Mo_isBody tk_Mo_isBody rfl (Nat.le_of_ble_eq_true rfl) h
def T_Mo_kindOf : List pmE := [
  (0, [], .aload 0, 0, 0, 0),
  (1, [], .getfield 619, 0, 82, 1021),
  (4, [], .iload 1, 0, 0, 0),
  (5, [], .iaload, 0, 0, 0),
  (6, [], .ireturn, 0, 0, 0)]
theorem tk_Mo_kindOf : pm_okT M_Mo_kindOf T_Mo_kindOf = true := by decide +kernel
theorem ok_Mo_kindOf : pm_okm M_Mo_kindOf := pm_okm_of _ 1539 85 1538 74 (by decide +kernel)
set_option maxRecDepth 100000 in
set_option maxHeartbeats 4000000 in
theorem u_Mo_kindOf {d : Nat} {H : pmT} {Q : pmQ} (a1 : Int32)
    (h : vp_in a1 50 ∧ (Q (some (.int (H.1 79 a1.toNatClampNeg))) H)) : pm_R d M_Mo_kindOf [.ref 55, .int a1] H Q :=
  pm_walk (n := 5) ok_Mo_kindOf tk_Mo_kindOf rfl (Nat.le_of_ble_eq_true rfl) h
def T_Mo_begins : List pmE := [
  (0, [], .aload 0, 0, 0, 0),
  (1, [], .getfield 621, 0, 355, 1023),
  (4, [], .iconst 24, 1, 0, 0),
  (6, [], .if_icmp .ge 19, 0, 0, 0),
  (9, [], .aload 0, 0, 0, 0),
  (10, [], .getfield 620, 0, 85, 1022),
  (13, [], .aload 0, 0, 0, 0),
  (14, [], .getfield 621, 0, 355, 1023),
  (17, [], .iload 1, 0, 0, 0),
  (18, [], .iastore, 0, 0, 0),
  (19, [], .aload 0, 0, 0, 0),
  (20, [], .dup, 0, 0, 0),
  (21, [], .getfield 621, 0, 355, 1023),
  (24, [], .iconst 1, 0, 0, 0),
  (25, [], .iadd, 0, 0, 0),
  (26, [], .putfield 621, 0, 355, 1023),
  (29, [], .return_, 0, 0, 0)]
theorem tk_Mo_begins : pm_okT M_Mo_begins T_Mo_begins = true := by decide +kernel
theorem ok_Mo_begins : pm_okm M_Mo_begins := pm_okm_of _ 1488 85 1487 69 (by decide +kernel)
set_option maxRecDepth 100000 in
set_option maxHeartbeats 4000000 in
theorem u_Mo_begins {d : Nat} {H : pmT} {Q : pmQ} (a1 : Int32)
    (h : ((24 : Int32) ≤ (H.1 55 45) → Q none ((pm_up H.1 55 45 ((H.1 55 45) + (1 : Int32))), H.2)) ∧ (¬ (24 : Int32) ≤ (H.1 55 45) → vp_in (H.1 55 45) 24 ∧ (Q none ((pm_up (pm_up H.1 80 ((H.1 55 45).toNatClampNeg) a1) 55 45 ((H.1 55 45) + (1 : Int32))), H.2)))) : pm_R d M_Mo_begins [.ref 55, .int a1] H Q :=
  pm_walk (n := 17) ok_Mo_begins tk_Mo_begins rfl (Nat.le_of_ble_eq_true rfl) h
def T_Mo_refusal : List pmE := [
  (0, [], .iload 1, 0, 0, 0),
  (1, [], .invokeinterface 235 5, 1, 128, 1163),
  (4, [], .ifCond .ne 9, 0, 0, 0),
  (7, [], .iconst (-1), 0, 0, 0),
  (8, [], .ireturn, 0, 0, 0),
  (9, [], .aload 0, 0, 0, 0),
  (10, [], .getfield 624, 0, 88, 1026),
  (13, [], .iload 1, 0, 0, 0),
  (14, [], .iaload, 0, 0, 0),
  (15, [], .ifCond .ge 21, 0, 0, 0),
  (18, [], .iconst (-11), 1, 0, 0),
  (20, [], .ireturn, 0, 0, 0),
  (21, [], .aload 0, 0, 0, 0),
  (22, [], .getfield 624, 0, 88, 1026),
  (25, [], .iload 1, 0, 0, 0),
  (26, [], .iaload, 0, 0, 0),
  (27, [], .iconst 50, 1, 0, 0),
  (29, [], .if_icmp .ge 35, 0, 0, 0),
  (32, [], .iconst (-12), 1, 0, 0),
  (34, [], .ireturn, 0, 0, 0),
  (35, [], .iload 2, 0, 0, 0),
  (36, [], .ifCond .lt 53, 0, 0, 0),
  (39, [], .iload 2, 0, 0, 0),
  (40, [], .aload 0, 0, 0, 0),
  (41, [], .getfield 625, 0, 91, 1027),
  (44, [], .iload 1, 0, 0, 0),
  (45, [], .iaload, 0, 0, 0),
  (46, [], .if_icmp .ge 53, 0, 0, 0),
  (49, [], .iconst 0, 0, 0, 0),
  (50, [], .goto 55, 0, 0, 0),
  (53, [], .iconst (-13), 1, 0, 0),
  (55, [], .ireturn, 0, 0, 0)]
theorem tk_Mo_refusal : pm_okT M_Mo_refusal T_Mo_refusal = true := by decide +kernel
theorem ok_Mo_refusal : pm_okm M_Mo_refusal := pm_okm_of _ 1520 85 1519 73 (by decide +kernel)
set_option maxRecDepth 100000 in
set_option maxHeartbeats 4000000 in
theorem u_Mo_refusal {d : Nat} {H : pmT} {Q : pmQ} (a1 : Int32) (a2 : Int32)
    (h : pm_R (d + 1) M_Mo_isShelf [.int a1] H (pm_i (fun x2 H1 => (¬ x2 = 0 → vp_in a1 6 ∧ ((0 ≤ (H1.1 81 a1.toNatClampNeg) → vp_in a1 6 ∧ (((50 : Int32) ≤ (H1.1 81 a1.toNatClampNeg) → (a2 < 0 → Q (some (.int (-13 : Int32))) H1) ∧ (¬ a2 < 0 → vp_in a1 6 ∧ (((H1.1 82 a1.toNatClampNeg) ≤ a2 → Q (some (.int (-13 : Int32))) H1) ∧ (¬ (H1.1 82 a1.toNatClampNeg) ≤ a2 → Q (some (.int (0 : Int32))) H1)))) ∧ (¬ (50 : Int32) ≤ (H1.1 81 a1.toNatClampNeg) → Q (some (.int (-12 : Int32))) H1))) ∧ (¬ 0 ≤ (H1.1 81 a1.toNatClampNeg) → Q (some (.int (-11 : Int32))) H1))) ∧ (x2 = 0 → Q (some (.int (-1 : Int32))) H1)))) : pm_R (d + 2) M_Mo_refusal [.ref 55, .int a1, .int a2] H Q :=
  pm_walk (n := 25) ok_Mo_refusal tk_Mo_refusal rfl (Nat.le_of_ble_eq_true rfl) h
def T_Mo_asSort : List pmE := [
  (0, [], .iload 0, 0, 0, 0),
  (1, [], .ifCond .ne 11, 0, 0, 0),
  (4, [], .lload 1, 0, 0, 0),
  (5, [], .l2i, 0, 0, 0),
  (6, [], .i2b, 0, 0, 0),
  (7, [], .i2l, 0, 0, 0),
  (8, [], .goto 54, 0, 0, 0),
  (11, [], .iload 0, 0, 0, 0),
  (12, [], .iconst 1, 0, 0, 0),
  (13, [], .if_icmp .ne 23, 0, 0, 0),
  (16, [], .lload 1, 0, 0, 0),
  (17, [], .l2i, 0, 0, 0),
  (18, [], .i2s, 0, 0, 0),
  (19, [], .i2l, 0, 0, 0),
  (20, [], .goto 54, 0, 0, 0),
  (23, [], .iload 0, 0, 0, 0),
  (24, [], .iconst 2, 0, 0, 0),
  (25, [], .if_icmp .ne 34, 0, 0, 0),
  (28, [], .lload 1, 0, 0, 0),
  (29, [], .l2i, 0, 0, 0),
  (30, [], .i2l, 0, 0, 0),
  (31, [], .goto 54, 0, 0, 0),
  (34, [], .iload 0, 0, 0, 0),
  (35, [], .iconst 4, 0, 0, 0),
  (36, [], .if_icmp .ne 53, 0, 0, 0),
  (39, [], .lload 1, 0, 0, 0),
  (40, [], .jsr 0, 0, 0, 0),
  (41, [], .lcmp, 0, 0, 0),
  (42, [], .ifCond .eq 49, 0, 0, 0),
  (45, [], .jsr 1, 0, 0, 0),
  (46, [], .goto 54, 0, 0, 0),
  (49, [], .jsr 0, 0, 0, 0),
  (50, [], .goto 54, 0, 0, 0),
  (53, [], .lload 1, 0, 0, 0),
  (54, [], .lreturn, 0, 0, 0)]
theorem tk_Mo_asSort : pm_okT M_Mo_asSort T_Mo_asSort = true := by decide +kernel
theorem ok_Mo_asSort : pm_okm M_Mo_asSort := pm_okm_of _ 1523 85 1522 0 (by decide +kernel)
set_option maxRecDepth 100000 in
set_option maxHeartbeats 4000000 in
theorem u_Mo_asSort {d : Nat} {H : pmT} {Q : pmQ} (a1 : Int32) (a2 : Int64)
    (h : (¬ a1 = 0 → (¬ a1 = (1 : Int32) → (¬ a1 = (2 : Int32) → (¬ a1 = (4 : Int32) → Q (some (.long a2)) H) ∧ (a1 = (4 : Int32) → ((lg_cmp a2 (0 : Int64)) = 0 → Q (some (.long (0 : Int64))) H) ∧ (¬ (lg_cmp a2 (0 : Int64)) = 0 → Q (some (.long (1 : Int64))) H))) ∧ (a1 = (2 : Int32) → Q (some (.long a2.toInt32.toInt64)) H)) ∧ (a1 = (1 : Int32) → Q (some (.long a2.toInt32.toInt16.toInt32.toInt64)) H)) ∧ (a1 = 0 → Q (some (.long a2.toInt32.toInt8.toInt32.toInt64)) H)) : pm_R d M_Mo_asSort [.int a1, .long a2] H Q :=
  pm_walk (n := 18) ok_Mo_asSort tk_Mo_asSort rfl (Nat.le_of_ble_eq_true rfl) h
