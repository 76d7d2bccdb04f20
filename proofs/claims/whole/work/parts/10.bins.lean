set_option maxHeartbeats 4000000 in
set_option maxRecDepth 100000 in
theorem c_B_has (M : KM) (h g dm us n : Nat) (fg fd fu : Nat → Int) (b : Int) (hn : n ≤ 6) (hb : zR b) : kCI M yX0_has cX0_has 2 .boolean 0 0 0 [cO 0 h [.int (zI (n : Int)), .ref g, .ref dm, .ref us], cI M g 6 fg, cI M dm 6 fd, cZ M us 6 fu] [.ref h, .int (zI b)] (fun z (u : Unit) => (z = 1 ∧ 0 ≤ b ∧ b < n) ∨ (z = 0 ∧ (b < 0 ∨ (n : Int) ≤ b))) (fun u => [cO 0 h [.int (zI (n : Int)), .ref g, .ref dm, .ref us], cI M g 6 fg, cI M dm 6 fd, cZ M us 6 fu]) := by
  refine kCI.of [(0, .ref h), (1, .int (zI b))] (by decide) (Nat.le_of_ble_eq_true rfl) rfl (fun E gg hret => ?_)
  have hb1 := hb.1
  have hb2 := hb.2
  refine z_iload_n (pc := 0) 1 gg dX0_has_0 rfl rfl ?_
  refine z_if_lt (pc := 1) 16 gg dX0_has_1 (by decide) ⟨by omega, by omega⟩ (fun h1 => ?_) (fun h1 => ?_)
  · refine z_iconst (pc := 16) gg dX0_has_16 ?_
    exact hret 0 () 17 _ _ _ (Nat.le_of_ble_eq_true rfl) (Nat.le_of_ble_eq_true rfl) dX0_has_17 (zB01 (by omega)) (by omega)
  · refine z_iload_n (pc := 4) 1 gg dX0_has_4 rfl rfl ?_
    refine z_aload_n (pc := 5) 0 gg dX0_has_5 rfl rfl ?_
    refine z_get (pc := 6) 0 gg fl_X0_9 dX0_has_6 rfl rfl ?_
    refine z_icmp_ge (pc := 9) 16 gg dX0_has_9 (by decide) ⟨by omega, by omega⟩ ⟨by omega, by omega⟩ (fun h9 => ?_) (fun h9 => ?_)
    · refine z_iconst (pc := 16) gg dX0_has_16 ?_
      exact hret 0 () 17 _ _ _ (Nat.le_of_ble_eq_true rfl) (Nat.le_of_ble_eq_true rfl) dX0_has_17 (zB01 (by omega)) (by omega)
    · refine z_iconst (pc := 12) gg dX0_has_12 ?_
      refine z_goto (pc := 13) 17 gg dX0_has_13 (by decide) ?_
      exact hret 1 () 17 _ _ _ (Nat.le_of_ble_eq_true rfl) (Nat.le_of_ble_eq_true rfl) dX0_has_17 (zB01 (by omega)) (by omega)
set_option maxHeartbeats 4000000 in
set_option maxRecDepth 100000 in
theorem c_B_add_ok (M : KM) (h g dm us n : Nat) (fg fd fu : Nat → Int) (dp us1 : Int) (hn : n < 6) (hd : 0 ≤ dp ∧ dp ≤ 20) (hu : us1 = 0 ∨ us1 = 1) : kCI M yX0_add cX0_add 3 .int 0 0 0 [cO 0 h [.int (zI (n : Int)), .ref g, .ref dm, .ref us], cI M g 6 fg, cI M dm 6 fd, cZ M us 6 fu] [.ref h, .int (zI dp), .int (zI us1)] (fun z (u : Unit) => z = n) (fun u => [cO 0 h [.int (zI ((n : Int) + 1)), .ref g, .ref dm, .ref us], cI M g 6 (zU fg n 0), cI M dm 6 (zU fd n dp), cZ M us 6 (zU fu n us1)]) := by
  refine kCI.of [(0, .ref h), (1, .int (zI dp)), (2, .int (zI us1))] (by decide) (Nat.le_of_ble_eq_true rfl) rfl (fun E gg hret => ?_)
  refine z_aload_n (pc := 0) 0 gg dX0_add_0 rfl rfl ?_
  refine z_get (pc := 1) 0 gg fl_X0_9 dX0_add_1 rfl rfl ?_
  refine z_bipush (pc := 4) gg dX0_add_4 (by decide +kernel) ?_
  refine z_icmp_ge (pc := 6) 19 gg dX0_add_6 (by decide) ⟨by omega, by omega⟩ ⟨by omega, by omega⟩ (fun h6 => ?_) (fun h6 => ?_)
  · exfalso; omega
  · refine z_iload_n (pc := 9) 1 gg dX0_add_9 rfl rfl ?_
    refine z_if_lt (pc := 10) 19 gg dX0_add_10 (by decide) ⟨by omega, by omega⟩ (fun h10 => ?_) (fun h10 => ?_)
    · exfalso; omega
    · refine z_iload_n (pc := 13) 1 gg dX0_add_13 rfl rfl ?_
      refine z_bipush (pc := 14) gg dX0_add_14 (by decide +kernel) ?_
      refine z_icmp_le (pc := 16) 21 gg dX0_add_16 (by decide) ⟨by omega, by omega⟩ ⟨by omega, by omega⟩ (fun h16 => ?_) (fun h16 => ?_)
      · refine z_aload_n (pc := 21) 0 gg dX0_add_21 rfl rfl ?_
        refine z_get (pc := 22) 0 gg fl_X0_15 dX0_add_22 rfl rfl ?_
        refine z_aload_n (pc := 25) 0 gg dX0_add_25 rfl rfl ?_
        refine z_get (pc := 26) 0 gg fl_X0_9 dX0_add_26 rfl rfl ?_
        refine z_iconst (pc := 29) gg dX0_add_29 ?_
        refine z_iast (pc := 30) 1 n [cO 0 h [.int (zI (n : Int)), .ref g, .ref dm, .ref us], cI M g 6 (zU fg n 0), cI M dm 6 fd, cZ M us 6 fu] gg dX0_add_30 rfl (by omega) (by omega) (by decide) rfl ?_
        refine z_aload_n (pc := 31) 0 gg dX0_add_31 rfl rfl ?_
        refine z_get (pc := 32) 0 gg fl_X0_19 dX0_add_32 rfl rfl ?_
        refine z_aload_n (pc := 35) 0 gg dX0_add_35 rfl rfl ?_
        refine z_get (pc := 36) 0 gg fl_X0_9 dX0_add_36 rfl rfl ?_
        refine z_iload_n (pc := 39) 1 gg dX0_add_39 rfl rfl ?_
        refine z_iast (pc := 40) 2 n [cO 0 h [.int (zI (n : Int)), .ref g, .ref dm, .ref us], cI M g 6 (zU fg n 0), cI M dm 6 (zU fd n dp), cZ M us 6 fu] gg dX0_add_40 rfl (by omega) (by omega) (by decide) rfl ?_
        refine z_aload_n (pc := 41) 0 gg dX0_add_41 rfl rfl ?_
        refine z_get (pc := 42) 0 gg fl_X0_22 dX0_add_42 rfl rfl ?_
        refine z_aload_n (pc := 45) 0 gg dX0_add_45 rfl rfl ?_
        refine z_get (pc := 46) 0 gg fl_X0_9 dX0_add_46 rfl rfl ?_
        refine z_iload_n (pc := 49) 2 gg dX0_add_49 rfl rfl ?_
        refine z_zast (pc := 50) 3 n [cO 0 h [.int (zI (n : Int)), .ref g, .ref dm, .ref us], cI M g 6 (zU fg n 0), cI M dm 6 (zU fd n dp), cZ M us 6 (zU fu n us1)] gg dX0_add_50 rfl (by omega) (by omega) (by decide) (by omega) rfl ?_
        refine z_aload_n (pc := 51) 0 gg dX0_add_51 rfl rfl ?_
        refine z_dup (pc := 52) gg dX0_add_52 rfl ?_
        refine z_get (pc := 53) 0 gg fl_X0_9 dX0_add_53 rfl rfl ?_
        refine z_iconst (pc := 56) gg dX0_add_56 ?_
        refine z_iadd (pc := 57) gg dX0_add_57 ?_
        refine z_put (pc := 58) 0 [cO 0 h [.int (zI ((n : Int) + 1)), .ref g, .ref dm, .ref us], cI M g 6 (zU fg n 0), cI M dm 6 (zU fd n dp), cZ M us 6 (zU fu n us1)] gg fp_X0_9 dX0_add_58 rfl rfl rfl (Nat.le_of_ble_eq_true rfl) rfl ?_
        refine z_aload_n (pc := 61) 0 gg dX0_add_61 rfl rfl ?_
        refine z_get (pc := 62) 0 gg fl_X0_9 dX0_add_62 rfl rfl ?_
        refine z_iconst (pc := 65) gg dX0_add_65 ?_
        refine z_isub (pc := 66) gg dX0_add_66 ?_
        exact hret (((n : Int) + 1) - 1) () 67 _ _ _ (Nat.le_of_ble_eq_true rfl) (Nat.le_of_ble_eq_true rfl) dX0_add_67 rfl (by omega)
      · exfalso; omega
set_option maxHeartbeats 4000000 in
set_option maxRecDepth 100000 in
theorem c_B_add_no (M : KM) (h g dm us n : Nat) (fg fd fu : Nat → Int) (dp us1 : Int) (hn : n ≤ 6) (hd : n = 6 ∨ dp < 0 ∨ 20 < dp) (hr : zR dp) : kCI M yX0_add cX0_add 3 .int 0 0 0 [cO 0 h [.int (zI (n : Int)), .ref g, .ref dm, .ref us], cI M g 6 fg, cI M dm 6 fd, cZ M us 6 fu] [.ref h, .int (zI dp), .int (zI us1)] (fun z (u : Unit) => z = -1) (fun u => [cO 0 h [.int (zI (n : Int)), .ref g, .ref dm, .ref us], cI M g 6 fg, cI M dm 6 fd, cZ M us 6 fu]) := by
  refine kCI.of [(0, .ref h), (1, .int (zI dp)), (2, .int (zI us1))] (by decide) (Nat.le_of_ble_eq_true rfl) rfl (fun E gg hret => ?_)
  have hb1 := hr.1
  have hb2 := hr.2
  refine z_aload_n (pc := 0) 0 gg dX0_add_0 rfl rfl ?_
  refine z_get (pc := 1) 0 gg fl_X0_9 dX0_add_1 rfl rfl ?_
  refine z_bipush (pc := 4) gg dX0_add_4 (by decide +kernel) ?_
  refine z_icmp_ge (pc := 6) 19 gg dX0_add_6 (by decide) ⟨by omega, by omega⟩ ⟨by omega, by omega⟩ (fun h6 => ?_) (fun h6 => ?_)
  · refine z_iconst (pc := 19) gg dX0_add_19 ?_
    exact hret (-1) () 20 _ _ _ (Nat.le_of_ble_eq_true rfl) (Nat.le_of_ble_eq_true rfl) dX0_add_20 rfl (by omega)
  · refine z_iload_n (pc := 9) 1 gg dX0_add_9 rfl rfl ?_
    refine z_if_lt (pc := 10) 19 gg dX0_add_10 (by decide) ⟨by omega, by omega⟩ (fun h10 => ?_) (fun h10 => ?_)
    · refine z_iconst (pc := 19) gg dX0_add_19 ?_
      exact hret (-1) () 20 _ _ _ (Nat.le_of_ble_eq_true rfl) (Nat.le_of_ble_eq_true rfl) dX0_add_20 rfl (by omega)
    · refine z_iload_n (pc := 13) 1 gg dX0_add_13 rfl rfl ?_
      refine z_bipush (pc := 14) gg dX0_add_14 (by decide +kernel) ?_
      refine z_icmp_le (pc := 16) 21 gg dX0_add_16 (by decide) ⟨by omega, by omega⟩ ⟨by omega, by omega⟩ (fun h16 => ?_) (fun h16 => ?_)
      · exfalso; omega
      · refine z_iconst (pc := 19) gg dX0_add_19 ?_
        exact hret (-1) () 20 _ _ _ (Nat.le_of_ble_eq_true rfl) (Nat.le_of_ble_eq_true rfl) dX0_add_20 rfl (by omega)
set_option maxHeartbeats 4000000 in
set_option maxRecDepth 100000 in
theorem c_B_pour_ok (M : KM) (h g dm us n : Nat) (fg fd fu : Nat → Int) (b x : Int) (hn : n ≤ 6) (hb : 0 ≤ b ∧ b < n) (hx : 0 < x ∧ x ≤ 1000000 - fg b.toNat) (hf : ∀ j, j < 6 → 0 ≤ fg j ∧ fg j ≤ 1000000) : kCI M yX0_pour cX0_pour 3 .int 1 0 0 [cO 0 h [.int (zI (n : Int)), .ref g, .ref dm, .ref us], cI M g 6 fg, cI M dm 6 fd, cZ M us 6 fu] [.ref h, .int (zI b), .int (zI x)] (fun z (u : Unit) => z = fg b.toNat + x) (fun u => [cO 0 h [.int (zI (n : Int)), .ref g, .ref dm, .ref us], cI M g 6 (zU fg b.toNat (fg b.toNat + x)), cI M dm 6 fd, cZ M us 6 fu]) := by
  refine kCI.of [(0, .ref h), (1, .int (zI b)), (2, .int (zI x))] (by decide) (Nat.le_of_ble_eq_true rfl) rfl (fun E gg hret => ?_)
  have hx2 := hf b.toNat (by omega)
  refine z_aload_n (pc := 0) 0 gg dX0_pour_0 rfl rfl ?_
  refine z_iload_n (pc := 1) 1 gg dX0_pour_1 rfl rfl ?_
  refine z_callWi (pc := 2) (As := [.int (zI b)]) (st := []) gg (c_B_has M h g dm us n fg fd fu b (by first | assumption | omega | exact ⟨by omega, by omega⟩) (by first | assumption | omega | exact ⟨by omega, by omega⟩)) yv_0_has ml_X0_26 dX0_pour_2 (by decide) (Nat.le_of_ble_eq_true rfl) (Nat.le_of_ble_eq_true rfl) (Nat.le_of_ble_eq_true rfl) rfl rfl rfl (fun z2 u2 hz2 => ?_)
  refine z_if_eq (pc := 5) 25 gg dX0_pour_5 (by decide) ⟨by omega, by omega⟩ (fun h5 => ?_) (fun h5 => ?_)
  · exfalso; omega
  · refine z_iload_n (pc := 8) 2 gg dX0_pour_8 rfl rfl ?_
    refine z_if_le (pc := 9) 25 gg dX0_pour_9 (by decide) ⟨by omega, by omega⟩ (fun h9 => ?_) (fun h9 => ?_)
    · exfalso; omega
    · refine z_iload_n (pc := 12) 2 gg dX0_pour_12 rfl rfl ?_
      refine z_ldc (pc := 13) (n := 1000000) gg dX0_pour_13 kc_X0_30 (by decide +kernel) ?_
      refine z_aload_n (pc := 15) 0 gg dX0_pour_15 rfl rfl ?_
      refine z_get (pc := 16) 0 gg fl_X0_15 dX0_pour_16 rfl rfl ?_
      refine z_iload_n (pc := 19) 1 gg dX0_pour_19 rfl rfl ?_
      refine z_iald (pc := 20) 1 b.toNat gg dX0_pour_20 rfl (by omega) (by omega) (by decide) ?_
      have hf20 := hf b.toNat (by omega)
      refine z_isub (pc := 21) gg dX0_pour_21 ?_
      refine z_icmp_le (pc := 22) 27 gg dX0_pour_22 (by decide) ⟨by omega, by omega⟩ ⟨by omega, by omega⟩ (fun h22 => ?_) (fun h22 => ?_)
      · refine z_aload_n (pc := 27) 0 gg dX0_pour_27 rfl rfl ?_
        refine z_get (pc := 28) 0 gg fl_X0_15 dX0_pour_28 rfl rfl ?_
        refine z_iload_n (pc := 31) 1 gg dX0_pour_31 rfl rfl ?_
        refine z_dup2 (pc := 32) gg dX0_pour_32 rfl rfl ?_
        refine z_iald (pc := 33) 1 b.toNat gg dX0_pour_33 rfl (by omega) (by omega) (by decide) ?_
        have hf33 := hf b.toNat (by omega)
        refine z_iload_n (pc := 34) 2 gg dX0_pour_34 rfl rfl ?_
        refine z_iadd (pc := 35) gg dX0_pour_35 ?_
        refine z_iast (pc := 36) 1 b.toNat [cO 0 h [.int (zI (n : Int)), .ref g, .ref dm, .ref us], cI M g 6 (zU fg b.toNat ((fg b.toNat) + x)), cI M dm 6 fd, cZ M us 6 fu] gg dX0_pour_36 rfl (by omega) (by omega) (by decide) rfl ?_
        refine z_aload_n (pc := 37) 0 gg dX0_pour_37 rfl rfl ?_
        refine z_get (pc := 38) 0 gg fl_X0_15 dX0_pour_38 rfl rfl ?_
        refine z_iload_n (pc := 41) 1 gg dX0_pour_41 rfl rfl ?_
        refine z_iald (pc := 42) 1 b.toNat gg dX0_pour_42 rfl (by omega) (by omega) (by decide) ?_
        exact hret ((zU fg b.toNat ((fg b.toNat) + x)) b.toNat) () 43 _ _ _ (Nat.le_of_ble_eq_true rfl) (Nat.le_of_ble_eq_true rfl) dX0_pour_43 rfl (zU_s _ _ _)
      · exfalso; omega
set_option maxHeartbeats 4000000 in
set_option maxRecDepth 100000 in
theorem c_B_pour_no (M : KM) (h g dm us n : Nat) (fg fd fu : Nat → Int) (b x : Int) (hn : n ≤ 6) (hb : zR b) (hx : zR x) (hc : b < 0 ∨ (n : Int) ≤ b ∨ x ≤ 0 ∨ 1000000 - fg b.toNat < x) (hf : ∀ j, j < 6 → 0 ≤ fg j ∧ fg j ≤ 1000000) : kCI M yX0_pour cX0_pour 3 .int 1 0 0 [cO 0 h [.int (zI (n : Int)), .ref g, .ref dm, .ref us], cI M g 6 fg, cI M dm 6 fd, cZ M us 6 fu] [.ref h, .int (zI b), .int (zI x)] (fun z (u : Unit) => z = -1) (fun u => [cO 0 h [.int (zI (n : Int)), .ref g, .ref dm, .ref us], cI M g 6 fg, cI M dm 6 fd, cZ M us 6 fu]) := by
  refine kCI.of [(0, .ref h), (1, .int (zI b)), (2, .int (zI x))] (by decide) (Nat.le_of_ble_eq_true rfl) rfl (fun E gg hret => ?_)
  have hx1 := hx.1
  have hx2 := hx.2
  have hb1 := hb.1
  have hb2 := hb.2
  refine z_aload_n (pc := 0) 0 gg dX0_pour_0 rfl rfl ?_
  refine z_iload_n (pc := 1) 1 gg dX0_pour_1 rfl rfl ?_
  refine z_callWi (pc := 2) (As := [.int (zI b)]) (st := []) gg (c_B_has M h g dm us n fg fd fu b (by first | assumption | omega | exact ⟨by omega, by omega⟩) (by first | assumption | omega | exact ⟨by omega, by omega⟩)) yv_0_has ml_X0_26 dX0_pour_2 (by decide) (Nat.le_of_ble_eq_true rfl) (Nat.le_of_ble_eq_true rfl) (Nat.le_of_ble_eq_true rfl) rfl rfl rfl (fun z2 u2 hz2 => ?_)
  refine z_if_eq (pc := 5) 25 gg dX0_pour_5 (by decide) ⟨by omega, by omega⟩ (fun h5 => ?_) (fun h5 => ?_)
  · refine z_iconst (pc := 25) gg dX0_pour_25 ?_
    exact hret (-1) () 26 _ _ _ (Nat.le_of_ble_eq_true rfl) (Nat.le_of_ble_eq_true rfl) dX0_pour_26 rfl (by omega)
  · refine z_iload_n (pc := 8) 2 gg dX0_pour_8 rfl rfl ?_
    refine z_if_le (pc := 9) 25 gg dX0_pour_9 (by decide) ⟨by omega, by omega⟩ (fun h9 => ?_) (fun h9 => ?_)
    · refine z_iconst (pc := 25) gg dX0_pour_25 ?_
      exact hret (-1) () 26 _ _ _ (Nat.le_of_ble_eq_true rfl) (Nat.le_of_ble_eq_true rfl) dX0_pour_26 rfl (by omega)
    · refine z_iload_n (pc := 12) 2 gg dX0_pour_12 rfl rfl ?_
      refine z_ldc (pc := 13) (n := 1000000) gg dX0_pour_13 kc_X0_30 (by decide +kernel) ?_
      refine z_aload_n (pc := 15) 0 gg dX0_pour_15 rfl rfl ?_
      refine z_get (pc := 16) 0 gg fl_X0_15 dX0_pour_16 rfl rfl ?_
      refine z_iload_n (pc := 19) 1 gg dX0_pour_19 rfl rfl ?_
      refine z_iald (pc := 20) 1 b.toNat gg dX0_pour_20 rfl (by omega) (by omega) (by decide) ?_
      have hf20 := hf b.toNat (by omega)
      refine z_isub (pc := 21) gg dX0_pour_21 ?_
      refine z_icmp_le (pc := 22) 27 gg dX0_pour_22 (by decide) ⟨by omega, by omega⟩ ⟨by omega, by omega⟩ (fun h22 => ?_) (fun h22 => ?_)
      · exfalso; omega
      · refine z_iconst (pc := 25) gg dX0_pour_25 ?_
        exact hret (-1) () 26 _ _ _ (Nat.le_of_ble_eq_true rfl) (Nat.le_of_ble_eq_true rfl) dX0_pour_26 rfl (by omega)
set_option maxHeartbeats 4000000 in
set_option maxRecDepth 100000 in
theorem c_B_gramsOf (M : KM) (h g dm us n : Nat) (fg fd fu : Nat → Int) (b : Int) (hn : n ≤ 6) (hb : zR b) : kCI M yX0_gramsOf cX0_gramsOf 2 .int 1 0 0 [cO 0 h [.int (zI (n : Int)), .ref g, .ref dm, .ref us], cI M g 6 fg, cI M dm 6 fd, cZ M us 6 fu] [.ref h, .int (zI b)] (fun z (u : Unit) => (0 ≤ b ∧ b < n ∧ z = fg b.toNat) ∨ ((b < 0 ∨ (n : Int) ≤ b) ∧ z = -1)) (fun u => [cO 0 h [.int (zI (n : Int)), .ref g, .ref dm, .ref us], cI M g 6 fg, cI M dm 6 fd, cZ M us 6 fu]) := by
  refine kCI.of [(0, .ref h), (1, .int (zI b))] (by decide) (Nat.le_of_ble_eq_true rfl) rfl (fun E gg hret => ?_)
  have hb1 := hb.1
  have hb2 := hb.2
  refine z_aload_n (pc := 0) 0 gg dX0_gramsOf_0 rfl rfl ?_
  refine z_iload_n (pc := 1) 1 gg dX0_gramsOf_1 rfl rfl ?_
  refine z_callWi (pc := 2) (As := [.int (zI b)]) (st := []) gg (c_B_has M h g dm us n fg fd fu b (by first | assumption | omega | exact ⟨by omega, by omega⟩) (by first | assumption | omega | exact ⟨by omega, by omega⟩)) yv_0_has ml_X0_26 dX0_gramsOf_2 (by decide) (Nat.le_of_ble_eq_true rfl) (Nat.le_of_ble_eq_true rfl) (Nat.le_of_ble_eq_true rfl) rfl rfl rfl (fun z2 u2 hz2 => ?_)
  refine z_if_eq (pc := 5) 17 gg dX0_gramsOf_5 (by decide) ⟨by omega, by omega⟩ (fun h5 => ?_) (fun h5 => ?_)
  · refine z_iconst (pc := 17) gg dX0_gramsOf_17 ?_
    exact hret (-1) () 18 _ _ _ (Nat.le_of_ble_eq_true rfl) (Nat.le_of_ble_eq_true rfl) dX0_gramsOf_18 rfl (by omega)
  · refine z_aload_n (pc := 8) 0 gg dX0_gramsOf_8 rfl rfl ?_
    refine z_get (pc := 9) 0 gg fl_X0_15 dX0_gramsOf_9 rfl rfl ?_
    refine z_iload_n (pc := 12) 1 gg dX0_gramsOf_12 rfl rfl ?_
    refine z_iald (pc := 13) 1 b.toNat gg dX0_gramsOf_13 rfl (by omega) (by omega) (by decide) ?_
    refine z_goto (pc := 14) 18 gg dX0_gramsOf_14 (by decide) ?_
    exact hret (fg b.toNat) () 18 _ _ _ (Nat.le_of_ble_eq_true rfl) (Nat.le_of_ble_eq_true rfl) dX0_gramsOf_18 rfl (by omega)
set_option maxHeartbeats 4000000 in
set_option maxRecDepth 100000 in
theorem c_B_dampOf (M : KM) (h g dm us n : Nat) (fg fd fu : Nat → Int) (b : Int) (hn : n ≤ 6) (hb : zR b) : kCI M yX0_dampOf cX0_dampOf 2 .int 1 0 0 [cO 0 h [.int (zI (n : Int)), .ref g, .ref dm, .ref us], cI M g 6 fg, cI M dm 6 fd, cZ M us 6 fu] [.ref h, .int (zI b)] (fun z (u : Unit) => (0 ≤ b ∧ b < n ∧ z = fd b.toNat) ∨ ((b < 0 ∨ (n : Int) ≤ b) ∧ z = -1)) (fun u => [cO 0 h [.int (zI (n : Int)), .ref g, .ref dm, .ref us], cI M g 6 fg, cI M dm 6 fd, cZ M us 6 fu]) := by
  refine kCI.of [(0, .ref h), (1, .int (zI b))] (by decide) (Nat.le_of_ble_eq_true rfl) rfl (fun E gg hret => ?_)
  have hb1 := hb.1
  have hb2 := hb.2
  refine z_aload_n (pc := 0) 0 gg dX0_dampOf_0 rfl rfl ?_
  refine z_iload_n (pc := 1) 1 gg dX0_dampOf_1 rfl rfl ?_
  refine z_callWi (pc := 2) (As := [.int (zI b)]) (st := []) gg (c_B_has M h g dm us n fg fd fu b (by first | assumption | omega | exact ⟨by omega, by omega⟩) (by first | assumption | omega | exact ⟨by omega, by omega⟩)) yv_0_has ml_X0_26 dX0_dampOf_2 (by decide) (Nat.le_of_ble_eq_true rfl) (Nat.le_of_ble_eq_true rfl) (Nat.le_of_ble_eq_true rfl) rfl rfl rfl (fun z2 u2 hz2 => ?_)
  refine z_if_eq (pc := 5) 17 gg dX0_dampOf_5 (by decide) ⟨by omega, by omega⟩ (fun h5 => ?_) (fun h5 => ?_)
  · refine z_iconst (pc := 17) gg dX0_dampOf_17 ?_
    exact hret (-1) () 18 _ _ _ (Nat.le_of_ble_eq_true rfl) (Nat.le_of_ble_eq_true rfl) dX0_dampOf_18 rfl (by omega)
  · refine z_aload_n (pc := 8) 0 gg dX0_dampOf_8 rfl rfl ?_
    refine z_get (pc := 9) 0 gg fl_X0_19 dX0_dampOf_9 rfl rfl ?_
    refine z_iload_n (pc := 12) 1 gg dX0_dampOf_12 rfl rfl ?_
    refine z_iald (pc := 13) 2 b.toNat gg dX0_dampOf_13 rfl (by omega) (by omega) (by decide) ?_
    refine z_goto (pc := 14) 18 gg dX0_dampOf_14 (by decide) ?_
    exact hret (fd b.toNat) () 18 _ _ _ (Nat.le_of_ble_eq_true rfl) (Nat.le_of_ble_eq_true rfl) dX0_dampOf_18 rfl (by omega)
set_option maxHeartbeats 4000000 in
set_option maxRecDepth 100000 in
theorem c_B_usedPart (M : KM) (h g dm us n : Nat) (fg fd fu : Nat → Int) (b x : Int) (hn : n ≤ 6) (hb : 0 ≤ b ∧ b < n) (hu : ∀ j, j < 6 → fu j = 0 ∨ fu j = 1) : kCI M yX0_usedPart cX0_usedPart 3 .int 1 0 0 [cO 0 h [.int (zI (n : Int)), .ref g, .ref dm, .ref us], cI M g 6 fg, cI M dm 6 fd, cZ M us 6 fu] [.ref h, .int (zI b), .int (zI x)] (fun z (u : Unit) => (fu b.toNat = 1 ∧ z = x) ∨ (fu b.toNat = 0 ∧ z = 0)) (fun u => [cO 0 h [.int (zI (n : Int)), .ref g, .ref dm, .ref us], cI M g 6 fg, cI M dm 6 fd, cZ M us 6 fu]) := by
  refine kCI.of [(0, .ref h), (1, .int (zI b)), (2, .int (zI x))] (by decide) (Nat.le_of_ble_eq_true rfl) rfl (fun E gg hret => ?_)
  have hx2 := hu b.toNat (by omega)
  refine z_aload_n (pc := 0) 0 gg dX0_usedPart_0 rfl rfl ?_
  refine z_iload_n (pc := 1) 1 gg dX0_usedPart_1 rfl rfl ?_
  refine z_callWi (pc := 2) (As := [.int (zI b)]) (st := []) gg (c_B_has M h g dm us n fg fd fu b (by first | assumption | omega | exact ⟨by omega, by omega⟩) (by first | assumption | omega | exact ⟨by omega, by omega⟩)) yv_0_has ml_X0_26 dX0_usedPart_2 (by decide) (Nat.le_of_ble_eq_true rfl) (Nat.le_of_ble_eq_true rfl) (Nat.le_of_ble_eq_true rfl) rfl rfl rfl (fun z2 u2 hz2 => ?_)
  refine z_if_eq (pc := 5) 21 gg dX0_usedPart_5 (by decide) ⟨by omega, by omega⟩ (fun h5 => ?_) (fun h5 => ?_)
  · exfalso; omega
  · refine z_aload_n (pc := 8) 0 gg dX0_usedPart_8 rfl rfl ?_
    refine z_get (pc := 9) 0 gg fl_X0_22 dX0_usedPart_9 rfl rfl ?_
    refine z_iload_n (pc := 12) 1 gg dX0_usedPart_12 rfl rfl ?_
    refine z_zald (pc := 13) 3 b.toNat gg dX0_usedPart_13 rfl (by omega) (by omega) (by decide) ?_
    have hf13 := hu b.toNat (by omega)
    refine z_if_eq (pc := 14) 21 gg dX0_usedPart_14 (by decide) ⟨by omega, by omega⟩ (fun h14 => ?_) (fun h14 => ?_)
    · refine z_iconst (pc := 21) gg dX0_usedPart_21 ?_
      exact hret 0 () 22 _ _ _ (Nat.le_of_ble_eq_true rfl) (Nat.le_of_ble_eq_true rfl) dX0_usedPart_22 rfl (by omega)
    · refine z_iload_n (pc := 17) 2 gg dX0_usedPart_17 rfl rfl ?_
      refine z_goto (pc := 18) 22 gg dX0_usedPart_18 (by decide) ?_
      exact hret x () 22 _ _ _ (Nat.le_of_ble_eq_true rfl) (Nat.le_of_ble_eq_true rfl) dX0_usedPart_22 rfl (by omega)
set_option maxHeartbeats 4000000 in
set_option maxRecDepth 100000 in
theorem c_B_canGive (M : KM) (h g dm us n : Nat) (fg fd fu : Nat → Int) (f x c y : Int) (hn : n ≤ 6) (hf0 : 0 ≤ f ∧ f < n) (hc0 : 0 ≤ c ∧ c < n) (hx : 0 ≤ x ∧ x ≤ 10000) (hy : 0 ≤ y ∧ y ≤ 10000) (hf : ∀ j, j < 6 → 0 ≤ fg j ∧ fg j ≤ 1000000) : kCI M yX0_canGive cX0_canGive 5 .boolean 2 0 0 [cO 0 h [.int (zI (n : Int)), .ref g, .ref dm, .ref us], cI M g 6 fg, cI M dm 6 fd, cZ M us 6 fu] [.ref h, .int (zI f), .int (zI x), .int (zI c), .int (zI y)] (fun z (u : Unit) => (z = 1 ∧ ((f = c ∧ x + y ≤ fg f.toNat) ∨ (f ≠ c ∧ x ≤ fg f.toNat ∧ y ≤ fg c.toNat))) ∨ (z = 0 ∧ ((f = c ∧ fg f.toNat < x + y) ∨ (f ≠ c ∧ (fg f.toNat < x ∨ fg c.toNat < y))))) (fun u => [cO 0 h [.int (zI (n : Int)), .ref g, .ref dm, .ref us], cI M g 6 fg, cI M dm 6 fd, cZ M us 6 fu]) := by
  refine kCI.of [(0, .ref h), (1, .int (zI f)), (2, .int (zI x)), (3, .int (zI c)), (4, .int (zI y))] (by decide) (Nat.le_of_ble_eq_true rfl) rfl (fun E gg hret => ?_)
  have e1 := hf f.toNat (by omega)
  have e2 := hf c.toNat (by omega)
  refine z_iload_n (pc := 0) 1 gg dX0_canGive_0 rfl rfl ?_
  refine z_iload_n (pc := 1) 3 gg dX0_canGive_1 rfl rfl ?_
  refine z_icmp_ne (pc := 2) 23 gg dX0_canGive_2 (by decide) ⟨by omega, by omega⟩ ⟨by omega, by omega⟩ (fun h2 => ?_) (fun h2 => ?_)
  · refine z_aload_n (pc := 23) 0 gg dX0_canGive_23 rfl rfl ?_
    refine z_iload_n (pc := 24) 1 gg dX0_canGive_24 rfl rfl ?_
    refine z_callWi (pc := 25) (As := [.int (zI f)]) (st := []) gg (c_B_gramsOf M h g dm us n fg fd fu f (by first | assumption | omega | exact ⟨by omega, by omega⟩) (by first | assumption | omega | exact ⟨by omega, by omega⟩)) yv_0_gramsOf ml_X0_31 dX0_canGive_25 (by decide) (Nat.le_of_ble_eq_true rfl) (Nat.le_of_ble_eq_true rfl) (Nat.le_of_ble_eq_true rfl) rfl rfl rfl (fun z25 u25 hz25 => ?_)
    refine z_iload_n (pc := 28) 2 gg dX0_canGive_28 rfl rfl ?_
    refine z_icmp_lt (pc := 29) 46 gg dX0_canGive_29 (by decide) ⟨by omega, by omega⟩ ⟨by omega, by omega⟩ (fun h29 => ?_) (fun h29 => ?_)
    · refine z_iconst (pc := 46) gg dX0_canGive_46 ?_
      exact hret 0 () 47 _ _ _ (Nat.le_of_ble_eq_true rfl) (Nat.le_of_ble_eq_true rfl) dX0_canGive_47 (zB01 (by omega)) (by omega)
    · refine z_aload_n (pc := 32) 0 gg dX0_canGive_32 rfl rfl ?_
      refine z_iload_n (pc := 33) 3 gg dX0_canGive_33 rfl rfl ?_
      refine z_callWi (pc := 34) (As := [.int (zI c)]) (st := []) gg (c_B_gramsOf M h g dm us n fg fd fu c (by first | assumption | omega | exact ⟨by omega, by omega⟩) (by first | assumption | omega | exact ⟨by omega, by omega⟩)) yv_0_gramsOf ml_X0_31 dX0_canGive_34 (by decide) (Nat.le_of_ble_eq_true rfl) (Nat.le_of_ble_eq_true rfl) (Nat.le_of_ble_eq_true rfl) rfl rfl rfl (fun z34 u34 hz34 => ?_)
      refine z_iload (pc := 37) 4 gg dX0_canGive_37 rfl ?_
      refine z_icmp_lt (pc := 39) 46 gg dX0_canGive_39 (by decide) ⟨by omega, by omega⟩ ⟨by omega, by omega⟩ (fun h39 => ?_) (fun h39 => ?_)
      · refine z_iconst (pc := 46) gg dX0_canGive_46 ?_
        exact hret 0 () 47 _ _ _ (Nat.le_of_ble_eq_true rfl) (Nat.le_of_ble_eq_true rfl) dX0_canGive_47 (zB01 (by omega)) (by omega)
      · refine z_iconst (pc := 42) gg dX0_canGive_42 ?_
        refine z_goto (pc := 43) 47 gg dX0_canGive_43 (by decide) ?_
        exact hret 1 () 47 _ _ _ (Nat.le_of_ble_eq_true rfl) (Nat.le_of_ble_eq_true rfl) dX0_canGive_47 (zB01 (by omega)) (by omega)
  · refine z_aload_n (pc := 5) 0 gg dX0_canGive_5 rfl rfl ?_
    refine z_iload_n (pc := 6) 1 gg dX0_canGive_6 rfl rfl ?_
    refine z_callWi (pc := 7) (As := [.int (zI f)]) (st := []) gg (c_B_gramsOf M h g dm us n fg fd fu f (by first | assumption | omega | exact ⟨by omega, by omega⟩) (by first | assumption | omega | exact ⟨by omega, by omega⟩)) yv_0_gramsOf ml_X0_31 dX0_canGive_7 (by decide) (Nat.le_of_ble_eq_true rfl) (Nat.le_of_ble_eq_true rfl) (Nat.le_of_ble_eq_true rfl) rfl rfl rfl (fun z7 u7 hz7 => ?_)
    refine z_iload_n (pc := 10) 2 gg dX0_canGive_10 rfl rfl ?_
    refine z_iload (pc := 11) 4 gg dX0_canGive_11 rfl ?_
    refine z_iadd (pc := 13) gg dX0_canGive_13 ?_
    refine z_icmp_lt (pc := 14) 21 gg dX0_canGive_14 (by decide) ⟨by omega, by omega⟩ ⟨by omega, by omega⟩ (fun h14 => ?_) (fun h14 => ?_)
    · refine z_iconst (pc := 21) gg dX0_canGive_21 ?_
      exact hret 0 () 22 _ _ _ (Nat.le_of_ble_eq_true rfl) (Nat.le_of_ble_eq_true rfl) dX0_canGive_22 (zB01 (by omega)) (by omega)
    · refine z_iconst (pc := 17) gg dX0_canGive_17 ?_
      refine z_goto (pc := 18) 22 gg dX0_canGive_18 (by decide) ?_
      exact hret 1 () 22 _ _ _ (Nat.le_of_ble_eq_true rfl) (Nat.le_of_ble_eq_true rfl) dX0_canGive_22 (zB01 (by omega)) (by omega)
set_option maxHeartbeats 4000000 in
set_option maxRecDepth 100000 in
theorem c_B_give (M : KM) (h g dm us n : Nat) (fg fd fu : Nat → Int) (b x : Int) (hn : n ≤ 6) (hb : 0 ≤ b ∧ b < n) : kCV M yX0_give cX0_give 3 1 0 0 [cO 0 h [.int (zI (n : Int)), .ref g, .ref dm, .ref us], cI M g 6 fg, cI M dm 6 fd, cZ M us 6 fu] [.ref h, .int (zI b), .int (zI x)] (fun u : Unit => True) (fun u => [cO 0 h [.int (zI (n : Int)), .ref g, .ref dm, .ref us], cI M g 6 (zU fg b.toNat (fg b.toNat - x)), cI M dm 6 fd, cZ M us 6 fu]) := by
  refine kCV.of [(0, .ref h), (1, .int (zI b)), (2, .int (zI x))] (by decide) (Nat.le_of_ble_eq_true rfl) rfl (fun E gg gn hret => ?_)
  refine z_aload_n (pc := 0) 0 gg dX0_give_0 rfl rfl ?_
  refine z_iload_n (pc := 1) 1 gg dX0_give_1 rfl rfl ?_
  refine z_callWi (pc := 2) (As := [.int (zI b)]) (st := []) gg (c_B_has M h g dm us n fg fd fu b (by first | assumption | omega | exact ⟨by omega, by omega⟩) (by first | assumption | omega | exact ⟨by omega, by omega⟩)) yv_0_has ml_X0_26 dX0_give_2 (by decide) (Nat.le_of_ble_eq_true rfl) (Nat.le_of_ble_eq_true rfl) (Nat.le_of_ble_eq_true rfl) rfl rfl rfl (fun z2 u2 hz2 => ?_)
  refine z_if_eq (pc := 5) 18 gg dX0_give_5 (by decide) ⟨by omega, by omega⟩ (fun h5 => ?_) (fun h5 => ?_)
  · exfalso; omega
  · refine z_aload_n (pc := 8) 0 gg dX0_give_8 rfl rfl ?_
    refine z_get (pc := 9) 0 gg fl_X0_15 dX0_give_9 rfl rfl ?_
    refine z_iload_n (pc := 12) 1 gg dX0_give_12 rfl rfl ?_
    refine z_dup2 (pc := 13) gg dX0_give_13 rfl rfl ?_
    refine z_iald (pc := 14) 1 b.toNat gg dX0_give_14 rfl (by omega) (by omega) (by decide) ?_
    refine z_iload_n (pc := 15) 2 gg dX0_give_15 rfl rfl ?_
    refine z_isub (pc := 16) gg dX0_give_16 ?_
    refine z_iast (pc := 17) 1 b.toNat [cO 0 h [.int (zI (n : Int)), .ref g, .ref dm, .ref us], cI M g 6 (zU fg b.toNat ((fg b.toNat) - x)), cI M dm 6 fd, cZ M us 6 fu] gg dX0_give_17 rfl (by omega) (by omega) (by decide) rfl ?_
    exact hret () 18 _ _ _ (Nat.le_of_ble_eq_true rfl) (Nat.le_of_ble_eq_true rfl) dX0_give_18 trivial
set_option maxHeartbeats 4000000 in
set_option maxRecDepth 100000 in
theorem c_B_total (M : KM) (h g dm us n : Nat) (fg fd fu : Nat → Int) (hn : n ≤ 6) (hf : ∀ j, j < 6 → 0 ≤ fg j ∧ fg j ≤ 1000000) : kCI M yX0_total cX0_total 3 .int 0 0 0 [cO 0 h [.int (zI (n : Int)), .ref g, .ref dm, .ref us], cI M g 6 fg, cI M dm 6 fd, cZ M us 6 fu] [.ref h] (fun z (u : Unit) => z = zS fg n) (fun u => [cO 0 h [.int (zI (n : Int)), .ref g, .ref dm, .ref us], cI M g 6 fg, cI M dm 6 fd, cZ M us 6 fu]) := by
  refine kCI.of [(0, .ref h)] (by decide) (Nat.le_of_ble_eq_true rfl) rfl (fun E gg hret => ?_)
  refine z_iconst (pc := 0) gg dX0_total_0 ?_
  refine z_istore_n (pc := 1) [(1, .int (zI 0)), (0, .ref h)] gg dX0_total_1 rfl (Nat.le_of_ble_eq_true rfl) rfl ?_
  refine z_iconst (pc := 2) gg dX0_total_2 ?_
  refine z_istore_n (pc := 3) [(2, .int (zI 0)), (1, .int (zI 0)), (0, .ref h)] gg dX0_total_3 rfl (Nat.le_of_ble_eq_true rfl) rfl ?_
  have loop4 : ∀ (k4 : Nat) (i s : Int), (0 ≤ i ∧ i ≤ n) → (s = zS fg i.toNat) → (n : Int).toNat - i.toNat < k4 → kV M E 3 0 0 [cO 0 h [.int (zI (n : Int)), .ref g, .ref dm, .ref us], cI M g 6 fg, cI M dm 6 fd, cZ M us 6 fu] [(2, .int (zI i)), (1, .int (zI s)), (0, .ref h)] 4 [] := by
    intro k4
    induction k4 with
    | zero => intro i s hi hs hm4; exact absurd hm4 (Nat.not_lt_zero _)
    | succ k4 ih4 =>
      intro i s hi hs hm4
      refine z_iload_n (pc := 4) 0 gg dX0_total_4 rfl rfl ?_
      refine z_aload_n (pc := 5) 2 gg dX0_total_5 rfl rfl ?_
      refine z_get (pc := 6) 0 gg fl_X0_9 dX0_total_6 rfl rfl ?_
      refine z_icmp_ge (pc := 9) 33 gg dX0_total_9 (by decide) ⟨by omega, by omega⟩ ⟨by omega, by omega⟩ (fun h9 => ?_) (fun h9 => ?_)
      · refine z_iload_n (pc := 33) 1 gg dX0_total_33 rfl rfl ?_
        exact hret s () 34 _ _ _ (Nat.le_of_ble_eq_true rfl) (Nat.le_of_ble_eq_true rfl) dX0_total_34 rfl (by rw [hs]; congr 1; omega)
      · refine z_iload_n (pc := 12) 0 gg dX0_total_12 rfl rfl ?_
        refine z_bipush (pc := 13) gg dX0_total_13 (by decide +kernel) ?_
        refine z_icmp_ge (pc := 15) 33 gg dX0_total_15 (by decide) ⟨by omega, by omega⟩ ⟨by omega, by omega⟩ (fun h15 => ?_) (fun h15 => ?_)
        · exfalso; omega
        · refine z_iload_n (pc := 18) 1 gg dX0_total_18 rfl rfl ?_
          refine z_aload_n (pc := 19) 2 gg dX0_total_19 rfl rfl ?_
          refine z_get (pc := 20) 0 gg fl_X0_15 dX0_total_20 rfl rfl ?_
          refine z_iload_n (pc := 23) 0 gg dX0_total_23 rfl rfl ?_
          refine z_iald (pc := 24) 1 i.toNat gg dX0_total_24 rfl (by omega) (by omega) (by decide) ?_
          refine z_iadd (pc := 25) gg dX0_total_25 ?_
          refine z_istore_n (pc := 26) [(1, .int (zI (s + (fg i.toNat)))), (2, .int (zI i)), (0, .ref h)] gg dX0_total_26 rfl (Nat.le_of_ble_eq_true rfl) rfl ?_
          refine z_iinc (pc := 27) 1 [(2, .int (zI (i + 1))), (1, .int (zI (s + (fg i.toNat)))), (0, .ref h)] gg dX0_total_27 rfl (Nat.le_of_ble_eq_true rfl) rfl ?_
          refine z_goto (pc := 30) 4 gg dX0_total_30 (by decide) ?_
          exact ih4 (i + 1) (s + fg i.toNat) (by omega) (by rw [zS_step (by omega), hs]) (by omega)
  exact loop4 _ 0 0 (by omega) rfl (Nat.lt_succ_self _)
set_option maxHeartbeats 4000000 in
set_option maxRecDepth 100000 in
theorem c_B_copyFrom (M : KM) (h g dm us n : Nat) (fg fd fu : Nat → Int) (h2 g2 dm2 us2 n2 : Nat) (fg2 fd2 fu2 : Nat → Int) (hu : ∀ j, j < 6 → fu2 j = 0 ∨ fu2 j = 1) : kCV M yX0_copyFrom cX0_copyFrom 3 0 0 0 [cO 0 h [.int (zI (n : Int)), .ref g, .ref dm, .ref us], cI M g 6 fg, cI M dm 6 fd, cZ M us 6 fu, cO 0 h2 [.int (zI (n2 : Int)), .ref g2, .ref dm2, .ref us2], cI M g2 6 fg2, cI M dm2 6 fd2, cZ M us2 6 fu2] [.ref h, .ref h2] (fun u : Unit => True) (fun u => [cO 0 h [.int (zI (n2 : Int)), .ref g, .ref dm, .ref us], cI M g 6 fg2, cI M dm 6 fd2, cZ M us 6 fu2, cO 0 h2 [.int (zI (n2 : Int)), .ref g2, .ref dm2, .ref us2], cI M g2 6 fg2, cI M dm2 6 fd2, cZ M us2 6 fu2]) := by
  refine kCV.of [(0, .ref h), (1, .ref h2)] (by decide) (Nat.le_of_ble_eq_true rfl) rfl (fun E gg gn hret => ?_)
  refine z_aload_n (pc := 0) 0 gg dX0_copyFrom_0 rfl rfl ?_
  refine z_aload_n (pc := 1) 1 gg dX0_copyFrom_1 rfl rfl ?_
  refine z_get (pc := 2) 4 gg fl_X0_9 dX0_copyFrom_2 rfl rfl ?_
  refine z_put (pc := 5) 0 [cO 0 h [.int (zI (n2 : Int)), .ref g, .ref dm, .ref us], cI M g 6 fg, cI M dm 6 fd, cZ M us 6 fu, cO 0 h2 [.int (zI (n2 : Int)), .ref g2, .ref dm2, .ref us2], cI M g2 6 fg2, cI M dm2 6 fd2, cZ M us2 6 fu2] gg fp_X0_9 dX0_copyFrom_5 rfl rfl rfl (Nat.le_of_ble_eq_true rfl) rfl ?_
  refine z_iconst (pc := 8) gg dX0_copyFrom_8 ?_
  refine z_istore_n (pc := 9) [(2, .int (zI 0)), (0, .ref h), (1, .ref h2)] gg dX0_copyFrom_9 rfl (Nat.le_of_ble_eq_true rfl) rfl ?_
  have loop10 : ∀ (k10 : Nat) (i : Int) (f1 f2 f3 : Nat → Int), (0 ≤ i ∧ i ≤ 6) → (∀ j, j < i.toNat → f1 j = fg2 j) → (∀ j, j < i.toNat → f2 j = fd2 j) → (∀ j, j < i.toNat → f3 j = fu2 j) → 6 - i.toNat < k10 → kV M E 3 0 0 [cO 0 h [.int (zI (n2 : Int)), .ref g, .ref dm, .ref us], cI M g 6 f1, cI M dm 6 f2, cZ M us 6 f3, cO 0 h2 [.int (zI (n2 : Int)), .ref g2, .ref dm2, .ref us2], cI M g2 6 fg2, cI M dm2 6 fd2, cZ M us2 6 fu2] [(2, .int (zI i)), (0, .ref h), (1, .ref h2)] 10 [] := by
    intro k10
    induction k10 with
    | zero => intro i f1 f2 f3 hi k1 k2 k3 hm10; exact absurd hm10 (Nat.not_lt_zero _)
    | succ k10 ih10 =>
      intro i f1 f2 f3 hi k1 k2 k3 hm10
      refine z_iload_n (pc := 10) 0 gg dX0_copyFrom_10 rfl rfl ?_
      refine z_bipush (pc := 11) gg dX0_copyFrom_11 (by decide +kernel) ?_
      refine z_icmp_ge (pc := 13) 58 gg dX0_copyFrom_13 (by decide) ⟨by omega, by omega⟩ ⟨by omega, by omega⟩ (fun h13 => ?_) (fun h13 => ?_)
      · refine z_fun 1 fg2 [cO 0 h [.int (zI (n2 : Int)), .ref g, .ref dm, .ref us], cI M g 6 fg2, cI M dm 6 f2, cZ M us 6 f3, cO 0 h2 [.int (zI (n2 : Int)), .ref g2, .ref dm2, .ref us2], cI M g2 6 fg2, cI M dm2 6 fd2, cZ M us2 6 fu2] rfl (fun j hj => k1 j (by omega)) rfl ?_
        refine z_fun 2 fd2 [cO 0 h [.int (zI (n2 : Int)), .ref g, .ref dm, .ref us], cI M g 6 fg2, cI M dm 6 fd2, cZ M us 6 f3, cO 0 h2 [.int (zI (n2 : Int)), .ref g2, .ref dm2, .ref us2], cI M g2 6 fg2, cI M dm2 6 fd2, cZ M us2 6 fu2] rfl (fun j hj => k2 j (by omega)) rfl ?_
        refine z_funZ 3 fu2 [cO 0 h [.int (zI (n2 : Int)), .ref g, .ref dm, .ref us], cI M g 6 fg2, cI M dm 6 fd2, cZ M us 6 fu2, cO 0 h2 [.int (zI (n2 : Int)), .ref g2, .ref dm2, .ref us2], cI M g2 6 fg2, cI M dm2 6 fd2, cZ M us2 6 fu2] rfl (fun j hj => k3 j (by omega)) rfl ?_
        exact hret () 58 _ _ _ (Nat.le_of_ble_eq_true rfl) (Nat.le_of_ble_eq_true rfl) dX0_copyFrom_58 trivial
      · refine z_aload_n (pc := 16) 1 gg dX0_copyFrom_16 rfl rfl ?_
        refine z_get (pc := 17) 0 gg fl_X0_15 dX0_copyFrom_17 rfl rfl ?_
        refine z_iload_n (pc := 20) 0 gg dX0_copyFrom_20 rfl rfl ?_
        refine z_aload_n (pc := 21) 2 gg dX0_copyFrom_21 rfl rfl ?_
        refine z_get (pc := 22) 4 gg fl_X0_15 dX0_copyFrom_22 rfl rfl ?_
        refine z_iload_n (pc := 25) 0 gg dX0_copyFrom_25 rfl rfl ?_
        refine z_iald (pc := 26) 5 i.toNat gg dX0_copyFrom_26 rfl (by omega) (by omega) (by decide) ?_
        refine z_iast (pc := 27) 1 i.toNat [cO 0 h [.int (zI (n2 : Int)), .ref g, .ref dm, .ref us], cI M g 6 (zU f1 i.toNat (fg2 i.toNat)), cI M dm 6 f2, cZ M us 6 f3, cO 0 h2 [.int (zI (n2 : Int)), .ref g2, .ref dm2, .ref us2], cI M g2 6 fg2, cI M dm2 6 fd2, cZ M us2 6 fu2] gg dX0_copyFrom_27 rfl (by omega) (by omega) (by decide) rfl ?_
        refine z_aload_n (pc := 28) 1 gg dX0_copyFrom_28 rfl rfl ?_
        refine z_get (pc := 29) 0 gg fl_X0_19 dX0_copyFrom_29 rfl rfl ?_
        refine z_iload_n (pc := 32) 0 gg dX0_copyFrom_32 rfl rfl ?_
        refine z_aload_n (pc := 33) 2 gg dX0_copyFrom_33 rfl rfl ?_
        refine z_get (pc := 34) 4 gg fl_X0_19 dX0_copyFrom_34 rfl rfl ?_
        refine z_iload_n (pc := 37) 0 gg dX0_copyFrom_37 rfl rfl ?_
        refine z_iald (pc := 38) 6 i.toNat gg dX0_copyFrom_38 rfl (by omega) (by omega) (by decide) ?_
        refine z_iast (pc := 39) 2 i.toNat [cO 0 h [.int (zI (n2 : Int)), .ref g, .ref dm, .ref us], cI M g 6 (zU f1 i.toNat (fg2 i.toNat)), cI M dm 6 (zU f2 i.toNat (fd2 i.toNat)), cZ M us 6 f3, cO 0 h2 [.int (zI (n2 : Int)), .ref g2, .ref dm2, .ref us2], cI M g2 6 fg2, cI M dm2 6 fd2, cZ M us2 6 fu2] gg dX0_copyFrom_39 rfl (by omega) (by omega) (by decide) rfl ?_
        refine z_aload_n (pc := 40) 1 gg dX0_copyFrom_40 rfl rfl ?_
        refine z_get (pc := 41) 0 gg fl_X0_22 dX0_copyFrom_41 rfl rfl ?_
        refine z_iload_n (pc := 44) 0 gg dX0_copyFrom_44 rfl rfl ?_
        refine z_aload_n (pc := 45) 2 gg dX0_copyFrom_45 rfl rfl ?_
        refine z_get (pc := 46) 4 gg fl_X0_22 dX0_copyFrom_46 rfl rfl ?_
        refine z_iload_n (pc := 49) 0 gg dX0_copyFrom_49 rfl rfl ?_
        refine z_zald (pc := 50) 7 i.toNat gg dX0_copyFrom_50 rfl (by omega) (by omega) (by decide) ?_
        have hf50 := hu i.toNat (by omega)
        refine z_zast (pc := 51) 3 i.toNat [cO 0 h [.int (zI (n2 : Int)), .ref g, .ref dm, .ref us], cI M g 6 (zU f1 i.toNat (fg2 i.toNat)), cI M dm 6 (zU f2 i.toNat (fd2 i.toNat)), cZ M us 6 (zU f3 i.toNat (fu2 i.toNat)), cO 0 h2 [.int (zI (n2 : Int)), .ref g2, .ref dm2, .ref us2], cI M g2 6 fg2, cI M dm2 6 fd2, cZ M us2 6 fu2] gg dX0_copyFrom_51 rfl (by omega) (by omega) (by decide) (by omega) rfl ?_
        refine z_iinc (pc := 52) 0 [(2, .int (zI (i + 1))), (0, .ref h), (1, .ref h2)] gg dX0_copyFrom_52 rfl (Nat.le_of_ble_eq_true rfl) rfl ?_
        refine z_goto (pc := 55) 10 gg dX0_copyFrom_55 (by decide) ?_
        exact ih10 (i + 1) (zU f1 i.toNat (fg2 i.toNat)) (zU f2 i.toNat (fd2 i.toNat)) (zU f3 i.toNat (fu2 i.toNat)) (by omega) (zU_ext (by omega) k1) (zU_ext (by omega) k2) (zU_ext (by omega) k3) (by omega)
  exact loop10 _ 0 fg fd fu (by omega) (fun j hj => absurd hj (by omega)) (fun j hj => absurd hj (by omega)) (fun j hj => absurd hj (by omega)) (Nat.lt_succ_self _)
set_option maxHeartbeats 4000000 in
set_option maxRecDepth 100000 in
theorem c_B_init (M : KM) (h : Nat)  : kCV M yX0_init cX0_init 1 1 3 18 [cO 0 h [.int (zI 0), .null, .null, .null]] [.ref h] (fun u : Nat × Nat × Nat => True) (fun u => [cO 0 h [.int (zI 0), .ref u.1, .ref u.2.1, .ref u.2.2], cI M u.1 6 (fun _ => 0), cI M u.2.1 6 (fun _ => 0), cZ M u.2.2 6 (fun _ => 0)]) := by
  refine kCV.of [(0, .ref h)] (by decide) (Nat.le_of_ble_eq_true rfl) rfl (fun E gg gn hret => ?_)
  refine z_aload_n (pc := 0) 0 gg dX0_init_0 rfl rfl ?_
  refine z_obj (pc := 1) gg dX0_init_1 ml_X0_3 oi_1 oi_2 (by decide) (Nat.le_of_ble_eq_true rfl) ?_
  refine z_aload_n (pc := 4) 0 gg dX0_init_4 rfl rfl ?_
  refine z_iconst (pc := 5) gg dX0_init_5 ?_
  refine z_put (pc := 6) 0 [cO 0 h [.int (zI 0), .null, .null, .null]] gg fp_X0_9 dX0_init_6 rfl rfl rfl (Nat.le_of_ble_eq_true rfl) rfl ?_
  refine z_aload_n (pc := 9) 0 gg dX0_init_9 rfl rfl ?_
  refine z_bipush (pc := 10) gg dX0_init_10 (by decide +kernel) ?_
  refine z_newaI (pc := 12) gg dX0_init_12 ar_I rfl (by decide) (Nat.le_of_ble_eq_true rfl) (Nat.le_of_ble_eq_true rfl) (fun q1 => ?_)
  show kV M E 1 _ _ [cO 0 h [.int (zI 0), .null, .null, .null], cI M q1 6 (fun _ => 0)] _ _ _
  refine z_putF (pc := 14) 0 [cO 0 h [.int (zI 0), .ref q1, .null, .null], cI M q1 6 (fun _ => 0)] gg gn fp_X0_15 dX0_init_14 rfl rfl rfl (Nat.le_of_ble_eq_true rfl) rfl ?_
  refine z_aload_n (pc := 17) 0 gg dX0_init_17 rfl rfl ?_
  refine z_bipush (pc := 18) gg dX0_init_18 (by decide +kernel) ?_
  refine z_newaI (pc := 20) gg dX0_init_20 ar_I rfl (by decide) (Nat.le_of_ble_eq_true rfl) (Nat.le_of_ble_eq_true rfl) (fun q2 => ?_)
  show kV M E 1 _ _ [cO 0 h [.int (zI 0), .ref q1, .null, .null], cI M q1 6 (fun _ => 0), cI M q2 6 (fun _ => 0)] _ _ _
  refine z_putF (pc := 22) 0 [cO 0 h [.int (zI 0), .ref q1, .ref q2, .null], cI M q1 6 (fun _ => 0), cI M q2 6 (fun _ => 0)] gg gn fp_X0_19 dX0_init_22 rfl rfl rfl (Nat.le_of_ble_eq_true rfl) rfl ?_
  refine z_aload_n (pc := 25) 0 gg dX0_init_25 rfl rfl ?_
  refine z_bipush (pc := 26) gg dX0_init_26 (by decide +kernel) ?_
  refine z_newaZ (pc := 28) gg dX0_init_28 ar_Z rfl (by decide) (Nat.le_of_ble_eq_true rfl) (Nat.le_of_ble_eq_true rfl) (fun q3 => ?_)
  show kV M E 1 _ _ [cO 0 h [.int (zI 0), .ref q1, .ref q2, .null], cI M q1 6 (fun _ => 0), cI M q2 6 (fun _ => 0), cZ M q3 6 (fun _ => 0)] _ _ _
  refine z_putF (pc := 30) 0 [cO 0 h [.int (zI 0), .ref q1, .ref q2, .ref q3], cI M q1 6 (fun _ => 0), cI M q2 6 (fun _ => 0), cZ M q3 6 (fun _ => 0)] gg gn fp_X0_22 dX0_init_30 rfl rfl rfl (Nat.le_of_ble_eq_true rfl) rfl ?_
  exact hret (q1, q2, q3) 33 _ _ _ (Nat.le_of_ble_eq_true rfl) (Nat.le_of_ble_eq_true rfl) dX0_init_33 trivial
