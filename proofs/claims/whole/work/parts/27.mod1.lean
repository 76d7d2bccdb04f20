set_option maxHeartbeats 4000000 in
set_option maxRecDepth 100000 in
theorem c_mIn (M : KM) (k l m : Int) (hk : zR k) (hl : zR l) (hm : zR m) : kCI M yX11_isIn cX11_isIn 3 .boolean 0 0 0 [] [.int (zI k), .int (zI l), .int (zI m)] (fun z (u : Unit) => (z = 1 ∧ l ≤ k ∧ k ≤ m) ∨ (z = 0 ∧ (k < l ∨ m < k))) (fun u => []) := by
  refine kCI.of [(0, .int (zI k)), (1, .int (zI l)), (2, .int (zI m))] (by decide) (Nat.le_of_ble_eq_true rfl) rfl (fun E gg hret => ?_)
  have r1_hk := hk.1
  have r2_hk := hk.2
  have r1_hl := hl.1
  have r2_hl := hl.2
  have r1_hm := hm.1
  have r2_hm := hm.2
  refine z_iload_n (pc := 0) 0 gg dX11_isIn_0 rfl rfl ?_
  refine z_iload_n (pc := 1) 1 gg dX11_isIn_1 rfl rfl ?_
  refine z_icmp_lt (pc := 2) 14 gg dX11_isIn_2 (by decide) ⟨by omega, by omega⟩ ⟨by omega, by omega⟩ (fun h2 => ?_) (fun h2 => ?_)
  · refine z_iconst (pc := 14) gg dX11_isIn_14 ?_
    exact hret 0 () 15 _ _ _ (Nat.le_of_ble_eq_true rfl) (Nat.le_of_ble_eq_true rfl) dX11_isIn_15 (zB01 (by omega)) (by omega)
  · refine z_iload_n (pc := 5) 0 gg dX11_isIn_5 rfl rfl ?_
    refine z_iload_n (pc := 6) 2 gg dX11_isIn_6 rfl rfl ?_
    refine z_icmp_gt (pc := 7) 14 gg dX11_isIn_7 (by decide) ⟨by omega, by omega⟩ ⟨by omega, by omega⟩ (fun h7 => ?_) (fun h7 => ?_)
    · refine z_iconst (pc := 14) gg dX11_isIn_14 ?_
      exact hret 0 () 15 _ _ _ (Nat.le_of_ble_eq_true rfl) (Nat.le_of_ble_eq_true rfl) dX11_isIn_15 (zB01 (by omega)) (by omega)
    · refine z_iconst (pc := 10) gg dX11_isIn_10 ?_
      refine z_goto (pc := 11) 15 gg dX11_isIn_11 (by decide) ?_
      exact hret 1 () 15 _ _ _ (Nat.le_of_ble_eq_true rfl) (Nat.le_of_ble_eq_true rfl) dX11_isIn_15 (zB01 (by omega)) (by omega)
set_option maxHeartbeats 4000000 in
set_option maxRecDepth 100000 in
theorem c_mOf (M : KM) (h a0 a1 a2 a3 a4 a5 a6 a7 a8 : Nat) (A hs ht bf cu fr wo wy my : Nat → Int) (k : Int) (i : Nat) (hk : zR k) (hi : i ≤ 4) (hb : 0 ≤ A i ∧ A i ≤ 100) : kCI M yX11_isOf cX11_isOf 3 .boolean 1 0 0 [cO 11 h [.ref a0, .ref a1, .ref a2, .ref a3, .ref a4, .ref a5, .ref a6, .ref a7, .ref a8], cI M a0 1280 A, cZ M a1 3 hs, cI M a2 9 ht, cI M a3 9 bf, cI M a4 9 cu, cI M a5 32 fr, cI M a6 625 wo, cI M a7 625 wy, cI M a8 625 my] [.ref h, .int (zI k), .int (zI (i : Int))] (fun z (u : Unit) => (z = 1 ∧ 0 ≤ k ∧ k < A i) ∨ (z = 0 ∧ (k < 0 ∨ A i ≤ k))) (fun u => [cO 11 h [.ref a0, .ref a1, .ref a2, .ref a3, .ref a4, .ref a5, .ref a6, .ref a7, .ref a8], cI M a0 1280 A, cZ M a1 3 hs, cI M a2 9 ht, cI M a3 9 bf, cI M a4 9 cu, cI M a5 32 fr, cI M a6 625 wo, cI M a7 625 wy, cI M a8 625 my]) := by
  refine kCI.of [(0, .ref h), (1, .int (zI k)), (2, .int (zI (i : Int)))] (by decide) (Nat.le_of_ble_eq_true rfl) rfl (fun E gg hret => ?_)
  have r1_hk := hk.1
  have r2_hk := hk.2
  refine z_iload_n (pc := 0) 1 gg dX11_isOf_0 rfl rfl ?_
  refine z_iconst (pc := 1) gg dX11_isOf_1 ?_
  refine z_aload_n (pc := 2) 0 gg dX11_isOf_2 rfl rfl ?_
  refine z_get (pc := 3) 0 gg fl_X11_7 dX11_isOf_3 rfl rfl ?_
  refine z_iload_n (pc := 6) 2 gg dX11_isOf_6 rfl rfl ?_
  refine z_iald (pc := 7) 1 i gg dX11_isOf_7 rfl (by omega) (by omega) (by decide) ?_
  refine z_iconst (pc := 8) gg dX11_isOf_8 ?_
  refine z_isub (pc := 9) gg dX11_isOf_9 ?_
  refine z_callS (pc := 10) (As := [.int (zI k), .int (zI 0), .int (zI ((A i) - 1))]) (st := []) gg (c_mIn M k (0 : Int) ((A i) - 1) (by first | assumption | omega | exact ⟨by omega, by omega⟩) (by first | assumption | omega | exact ⟨by omega, by omega⟩) (by first | assumption | omega | exact ⟨by omega, by omega⟩)) ys_11_isIn ml_X11_38 dX11_isOf_10 (by decide) (Nat.le_of_ble_eq_true rfl) (Nat.le_of_ble_eq_true rfl) (Nat.le_of_ble_eq_true rfl) rfl rfl (fun z10 u10 hz10 => ?_)
  exact hret z10 () 13 _ _ _ (Nat.le_of_ble_eq_true rfl) (Nat.le_of_ble_eq_true rfl) dX11_isOf_13 (zB01 (by omega)) (by omega)
set_option maxHeartbeats 4000000 in
set_option maxRecDepth 100000 in
theorem c_m_bin_ok (M : KM) (h a0 a1 a2 a3 a4 a5 a6 a7 a8 : Nat) (A hs ht bf cu fr wo wy my : Nat → Int) (x y : Int) (h0 : 0 ≤ A 0 ∧ A 0 < 6) (hx : 0 ≤ x ∧ x ≤ 20) (hy : y = 0 ∨ y = 1) : kCI M yX11_bin cX11_bin 4 .int 1 0 0 [cO 11 h [.ref a0, .ref a1, .ref a2, .ref a3, .ref a4, .ref a5, .ref a6, .ref a7, .ref a8], cI M a0 1280 A, cZ M a1 3 hs, cI M a2 9 ht, cI M a3 9 bf, cI M a4 9 cu, cI M a5 32 fr, cI M a6 625 wo, cI M a7 625 wy, cI M a8 625 my] [.ref h, .int (zI x), .int (zI y)] (fun z (u : Unit) => z = A 0) (fun u => [cO 11 h [.ref a0, .ref a1, .ref a2, .ref a3, .ref a4, .ref a5, .ref a6, .ref a7, .ref a8], cI M a0 1280 (zU (zU (zU (zU A (10 + (3 * (A 0).toNat)) 0) ((10 + (3 * (A 0).toNat)) + 1) x) ((10 + (3 * (A 0).toNat)) + 2) y) 0 ((A 0) + 1)), cZ M a1 3 hs, cI M a2 9 ht, cI M a3 9 bf, cI M a4 9 cu, cI M a5 32 fr, cI M a6 625 wo, cI M a7 625 wy, cI M a8 625 my]) := by
  refine kCI.of [(0, .ref h), (1, .int (zI x)), (2, .int (zI y))] (by decide) (Nat.le_of_ble_eq_true rfl) rfl (fun E gg hret => ?_)
  rcases hy with rfl | rfl
  · refine z_aload_n (pc := 0) 0 gg dX11_bin_0 rfl rfl ?_
    refine z_get (pc := 1) 0 gg fl_X11_7 dX11_bin_1 rfl rfl ?_
    refine z_iconst (pc := 4) gg dX11_bin_4 ?_
    refine z_iald (pc := 5) 1 0 gg dX11_bin_5 rfl (by omega) (by omega) (by decide) ?_
    refine z_bipush (pc := 6) gg dX11_bin_6 (by decide +kernel) ?_
    refine z_icmp_eq (pc := 8) 21 gg dX11_bin_8 (by decide) ⟨by omega, by omega⟩ ⟨by omega, by omega⟩ (fun h8 => ?_) (fun h8 => ?_)
    · exfalso; omega
    · refine z_iload_n (pc := 11) 1 gg dX11_bin_11 rfl rfl ?_
      refine z_iconst (pc := 12) gg dX11_bin_12 ?_
      refine z_bipush (pc := 13) gg dX11_bin_13 (by decide +kernel) ?_
      refine z_callS (pc := 15) (As := [.int (zI x), .int (zI 0), .int (zI 20)]) (st := []) gg (c_mIn M x (0 : Int) (20 : Int) (by first | assumption | omega | exact ⟨by omega, by omega⟩) (by first | assumption | omega | exact ⟨by omega, by omega⟩) (by first | assumption | omega | exact ⟨by omega, by omega⟩)) ys_11_isIn ml_X11_38 dX11_bin_15 (by decide) (Nat.le_of_ble_eq_true rfl) (Nat.le_of_ble_eq_true rfl) (Nat.le_of_ble_eq_true rfl) rfl rfl (fun z15 u15 hz15 => ?_)
      refine z_if_ne (pc := 18) 23 gg dX11_bin_18 (by decide) ⟨by omega, by omega⟩ (fun h18 => ?_) (fun h18 => ?_)
      · refine z_bipush (pc := 23) gg dX11_bin_23 (by decide +kernel) ?_
        refine z_iconst (pc := 25) gg dX11_bin_25 ?_
        refine z_aload_n (pc := 26) 0 gg dX11_bin_26 rfl rfl ?_
        refine z_get (pc := 27) 0 gg fl_X11_7 dX11_bin_27 rfl rfl ?_
        refine z_iconst (pc := 30) gg dX11_bin_30 ?_
        refine z_iald (pc := 31) 1 0 gg dX11_bin_31 rfl (by omega) (by omega) (by decide) ?_
        refine z_imul (pc := 32) gg dX11_bin_32 ?_
        refine z_iadd (pc := 33) gg dX11_bin_33 ?_
        refine z_istore_n (pc := 34) [(3, .int (zI (10 + (3 * (A 0))))), (0, .ref h), (1, .int (zI x)), (2, .int (zI 0))] gg dX11_bin_34 rfl (Nat.le_of_ble_eq_true rfl) rfl ?_
        refine z_aload_n (pc := 35) 1 gg dX11_bin_35 rfl rfl ?_
        refine z_get (pc := 36) 0 gg fl_X11_7 dX11_bin_36 rfl rfl ?_
        refine z_iload_n (pc := 39) 0 gg dX11_bin_39 rfl rfl ?_
        refine z_iconst (pc := 40) gg dX11_bin_40 ?_
        refine z_iast (pc := 41) 1 (10 + (3 * (A 0).toNat)) [cO 11 h [.ref a0, .ref a1, .ref a2, .ref a3, .ref a4, .ref a5, .ref a6, .ref a7, .ref a8], cI M a0 1280 (zU A (10 + (3 * (A 0).toNat)) 0), cZ M a1 3 hs, cI M a2 9 ht, cI M a3 9 bf, cI M a4 9 cu, cI M a5 32 fr, cI M a6 625 wo, cI M a7 625 wy, cI M a8 625 my] gg dX11_bin_41 rfl (by omega) (by omega) (by decide) rfl ?_
        refine z_aload_n (pc := 42) 1 gg dX11_bin_42 rfl rfl ?_
        refine z_get (pc := 43) 0 gg fl_X11_7 dX11_bin_43 rfl rfl ?_
        refine z_iload_n (pc := 46) 0 gg dX11_bin_46 rfl rfl ?_
        refine z_iconst (pc := 47) gg dX11_bin_47 ?_
        refine z_iadd (pc := 48) gg dX11_bin_48 ?_
        refine z_iload_n (pc := 49) 2 gg dX11_bin_49 rfl rfl ?_
        refine z_iast (pc := 50) 1 ((10 + (3 * (A 0).toNat)) + 1) [cO 11 h [.ref a0, .ref a1, .ref a2, .ref a3, .ref a4, .ref a5, .ref a6, .ref a7, .ref a8], cI M a0 1280 (zU (zU A (10 + (3 * (A 0).toNat)) 0) ((10 + (3 * (A 0).toNat)) + 1) x), cZ M a1 3 hs, cI M a2 9 ht, cI M a3 9 bf, cI M a4 9 cu, cI M a5 32 fr, cI M a6 625 wo, cI M a7 625 wy, cI M a8 625 my] gg dX11_bin_50 rfl (by omega) (by omega) (by decide) rfl ?_
        refine z_aload_n (pc := 51) 1 gg dX11_bin_51 rfl rfl ?_
        refine z_get (pc := 52) 0 gg fl_X11_7 dX11_bin_52 rfl rfl ?_
        refine z_iload_n (pc := 55) 0 gg dX11_bin_55 rfl rfl ?_
        refine z_iconst (pc := 56) gg dX11_bin_56 ?_
        refine z_iadd (pc := 57) gg dX11_bin_57 ?_
        refine z_iload_n (pc := 58) 3 gg dX11_bin_58 rfl rfl ?_
        refine z_if_eq (pc := 59) 66 gg dX11_bin_59 (by decide) ⟨by omega, by omega⟩ (fun h59 => ?_) (fun h59 => ?_)
        · refine z_iconst (pc := 66) gg dX11_bin_66 ?_
          refine z_iast (pc := 67) 1 ((10 + (3 * (A 0).toNat)) + 2) [cO 11 h [.ref a0, .ref a1, .ref a2, .ref a3, .ref a4, .ref a5, .ref a6, .ref a7, .ref a8], cI M a0 1280 (zU (zU (zU A (10 + (3 * (A 0).toNat)) 0) ((10 + (3 * (A 0).toNat)) + 1) x) ((10 + (3 * (A 0).toNat)) + 2) 0), cZ M a1 3 hs, cI M a2 9 ht, cI M a3 9 bf, cI M a4 9 cu, cI M a5 32 fr, cI M a6 625 wo, cI M a7 625 wy, cI M a8 625 my] gg dX11_bin_67 rfl (by omega) (by omega) (by decide) rfl ?_
          refine z_aload_n (pc := 68) 1 gg dX11_bin_68 rfl rfl ?_
          refine z_get (pc := 69) 0 gg fl_X11_7 dX11_bin_69 rfl rfl ?_
          refine z_iconst (pc := 72) gg dX11_bin_72 ?_
          refine z_dup2 (pc := 73) gg dX11_bin_73 rfl rfl ?_
          refine z_iald (pc := 74) 1 0 gg dX11_bin_74 rfl (by omega) (by omega) (by decide) ?_
          rw [show ((zU (zU (zU A (10 + (3 * (A 0).toNat)) 0) ((10 + (3 * (A 0).toNat)) + 1) x) ((10 + (3 * (A 0).toNat)) + 2) 0) 0) = (A 0) from by rw [zU_n _ _ (by omega), zU_n _ _ (by omega), zU_n _ _ (by omega)]]
          refine z_iconst (pc := 75) gg dX11_bin_75 ?_
          refine z_iadd (pc := 76) gg dX11_bin_76 ?_
          refine z_iast (pc := 77) 1 0 [cO 11 h [.ref a0, .ref a1, .ref a2, .ref a3, .ref a4, .ref a5, .ref a6, .ref a7, .ref a8], cI M a0 1280 (zU (zU (zU (zU A (10 + (3 * (A 0).toNat)) 0) ((10 + (3 * (A 0).toNat)) + 1) x) ((10 + (3 * (A 0).toNat)) + 2) 0) 0 ((A 0) + 1)), cZ M a1 3 hs, cI M a2 9 ht, cI M a3 9 bf, cI M a4 9 cu, cI M a5 32 fr, cI M a6 625 wo, cI M a7 625 wy, cI M a8 625 my] gg dX11_bin_77 rfl (by omega) (by omega) (by decide) rfl ?_
          refine z_aload_n (pc := 78) 1 gg dX11_bin_78 rfl rfl ?_
          refine z_get (pc := 79) 0 gg fl_X11_7 dX11_bin_79 rfl rfl ?_
          refine z_iconst (pc := 82) gg dX11_bin_82 ?_
          refine z_iald (pc := 83) 1 0 gg dX11_bin_83 rfl (by omega) (by omega) (by decide) ?_
          rw [show ((zU (zU (zU (zU A (10 + (3 * (A 0).toNat)) 0) ((10 + (3 * (A 0).toNat)) + 1) x) ((10 + (3 * (A 0).toNat)) + 2) 0) 0 ((A 0) + 1)) 0) = ((A 0) + 1) from by rw [zU_s]]
          refine z_iconst (pc := 84) gg dX11_bin_84 ?_
          refine z_isub (pc := 85) gg dX11_bin_85 ?_
          exact hret (((A 0) + 1) - 1) () 86 _ _ _ (Nat.le_of_ble_eq_true rfl) (Nat.le_of_ble_eq_true rfl) dX11_bin_86 rfl (by omega)
        · exfalso; omega
      · exfalso; omega
  · refine z_aload_n (pc := 0) 0 gg dX11_bin_0 rfl rfl ?_
    refine z_get (pc := 1) 0 gg fl_X11_7 dX11_bin_1 rfl rfl ?_
    refine z_iconst (pc := 4) gg dX11_bin_4 ?_
    refine z_iald (pc := 5) 1 0 gg dX11_bin_5 rfl (by omega) (by omega) (by decide) ?_
    refine z_bipush (pc := 6) gg dX11_bin_6 (by decide +kernel) ?_
    refine z_icmp_eq (pc := 8) 21 gg dX11_bin_8 (by decide) ⟨by omega, by omega⟩ ⟨by omega, by omega⟩ (fun h8 => ?_) (fun h8 => ?_)
    · exfalso; omega
    · refine z_iload_n (pc := 11) 1 gg dX11_bin_11 rfl rfl ?_
      refine z_iconst (pc := 12) gg dX11_bin_12 ?_
      refine z_bipush (pc := 13) gg dX11_bin_13 (by decide +kernel) ?_
      refine z_callS (pc := 15) (As := [.int (zI x), .int (zI 0), .int (zI 20)]) (st := []) gg (c_mIn M x (0 : Int) (20 : Int) (by first | assumption | omega | exact ⟨by omega, by omega⟩) (by first | assumption | omega | exact ⟨by omega, by omega⟩) (by first | assumption | omega | exact ⟨by omega, by omega⟩)) ys_11_isIn ml_X11_38 dX11_bin_15 (by decide) (Nat.le_of_ble_eq_true rfl) (Nat.le_of_ble_eq_true rfl) (Nat.le_of_ble_eq_true rfl) rfl rfl (fun z15 u15 hz15 => ?_)
      refine z_if_ne (pc := 18) 23 gg dX11_bin_18 (by decide) ⟨by omega, by omega⟩ (fun h18 => ?_) (fun h18 => ?_)
      · refine z_bipush (pc := 23) gg dX11_bin_23 (by decide +kernel) ?_
        refine z_iconst (pc := 25) gg dX11_bin_25 ?_
        refine z_aload_n (pc := 26) 0 gg dX11_bin_26 rfl rfl ?_
        refine z_get (pc := 27) 0 gg fl_X11_7 dX11_bin_27 rfl rfl ?_
        refine z_iconst (pc := 30) gg dX11_bin_30 ?_
        refine z_iald (pc := 31) 1 0 gg dX11_bin_31 rfl (by omega) (by omega) (by decide) ?_
        refine z_imul (pc := 32) gg dX11_bin_32 ?_
        refine z_iadd (pc := 33) gg dX11_bin_33 ?_
        refine z_istore_n (pc := 34) [(3, .int (zI (10 + (3 * (A 0))))), (0, .ref h), (1, .int (zI x)), (2, .int (zI 1))] gg dX11_bin_34 rfl (Nat.le_of_ble_eq_true rfl) rfl ?_
        refine z_aload_n (pc := 35) 1 gg dX11_bin_35 rfl rfl ?_
        refine z_get (pc := 36) 0 gg fl_X11_7 dX11_bin_36 rfl rfl ?_
        refine z_iload_n (pc := 39) 0 gg dX11_bin_39 rfl rfl ?_
        refine z_iconst (pc := 40) gg dX11_bin_40 ?_
        refine z_iast (pc := 41) 1 (10 + (3 * (A 0).toNat)) [cO 11 h [.ref a0, .ref a1, .ref a2, .ref a3, .ref a4, .ref a5, .ref a6, .ref a7, .ref a8], cI M a0 1280 (zU A (10 + (3 * (A 0).toNat)) 0), cZ M a1 3 hs, cI M a2 9 ht, cI M a3 9 bf, cI M a4 9 cu, cI M a5 32 fr, cI M a6 625 wo, cI M a7 625 wy, cI M a8 625 my] gg dX11_bin_41 rfl (by omega) (by omega) (by decide) rfl ?_
        refine z_aload_n (pc := 42) 1 gg dX11_bin_42 rfl rfl ?_
        refine z_get (pc := 43) 0 gg fl_X11_7 dX11_bin_43 rfl rfl ?_
        refine z_iload_n (pc := 46) 0 gg dX11_bin_46 rfl rfl ?_
        refine z_iconst (pc := 47) gg dX11_bin_47 ?_
        refine z_iadd (pc := 48) gg dX11_bin_48 ?_
        refine z_iload_n (pc := 49) 2 gg dX11_bin_49 rfl rfl ?_
        refine z_iast (pc := 50) 1 ((10 + (3 * (A 0).toNat)) + 1) [cO 11 h [.ref a0, .ref a1, .ref a2, .ref a3, .ref a4, .ref a5, .ref a6, .ref a7, .ref a8], cI M a0 1280 (zU (zU A (10 + (3 * (A 0).toNat)) 0) ((10 + (3 * (A 0).toNat)) + 1) x), cZ M a1 3 hs, cI M a2 9 ht, cI M a3 9 bf, cI M a4 9 cu, cI M a5 32 fr, cI M a6 625 wo, cI M a7 625 wy, cI M a8 625 my] gg dX11_bin_50 rfl (by omega) (by omega) (by decide) rfl ?_
        refine z_aload_n (pc := 51) 1 gg dX11_bin_51 rfl rfl ?_
        refine z_get (pc := 52) 0 gg fl_X11_7 dX11_bin_52 rfl rfl ?_
        refine z_iload_n (pc := 55) 0 gg dX11_bin_55 rfl rfl ?_
        refine z_iconst (pc := 56) gg dX11_bin_56 ?_
        refine z_iadd (pc := 57) gg dX11_bin_57 ?_
        refine z_iload_n (pc := 58) 3 gg dX11_bin_58 rfl rfl ?_
        refine z_if_eq (pc := 59) 66 gg dX11_bin_59 (by decide) ⟨by omega, by omega⟩ (fun h59 => ?_) (fun h59 => ?_)
        · exfalso; omega
        · refine z_iconst (pc := 62) gg dX11_bin_62 ?_
          refine z_goto (pc := 63) 67 gg dX11_bin_63 (by decide) ?_
          refine z_iast (pc := 67) 1 ((10 + (3 * (A 0).toNat)) + 2) [cO 11 h [.ref a0, .ref a1, .ref a2, .ref a3, .ref a4, .ref a5, .ref a6, .ref a7, .ref a8], cI M a0 1280 (zU (zU (zU A (10 + (3 * (A 0).toNat)) 0) ((10 + (3 * (A 0).toNat)) + 1) x) ((10 + (3 * (A 0).toNat)) + 2) 1), cZ M a1 3 hs, cI M a2 9 ht, cI M a3 9 bf, cI M a4 9 cu, cI M a5 32 fr, cI M a6 625 wo, cI M a7 625 wy, cI M a8 625 my] gg dX11_bin_67 rfl (by omega) (by omega) (by decide) rfl ?_
          refine z_aload_n (pc := 68) 1 gg dX11_bin_68 rfl rfl ?_
          refine z_get (pc := 69) 0 gg fl_X11_7 dX11_bin_69 rfl rfl ?_
          refine z_iconst (pc := 72) gg dX11_bin_72 ?_
          refine z_dup2 (pc := 73) gg dX11_bin_73 rfl rfl ?_
          refine z_iald (pc := 74) 1 0 gg dX11_bin_74 rfl (by omega) (by omega) (by decide) ?_
          rw [show ((zU (zU (zU A (10 + (3 * (A 0).toNat)) 0) ((10 + (3 * (A 0).toNat)) + 1) x) ((10 + (3 * (A 0).toNat)) + 2) 1) 0) = (A 0) from by rw [zU_n _ _ (by omega), zU_n _ _ (by omega), zU_n _ _ (by omega)]]
          refine z_iconst (pc := 75) gg dX11_bin_75 ?_
          refine z_iadd (pc := 76) gg dX11_bin_76 ?_
          refine z_iast (pc := 77) 1 0 [cO 11 h [.ref a0, .ref a1, .ref a2, .ref a3, .ref a4, .ref a5, .ref a6, .ref a7, .ref a8], cI M a0 1280 (zU (zU (zU (zU A (10 + (3 * (A 0).toNat)) 0) ((10 + (3 * (A 0).toNat)) + 1) x) ((10 + (3 * (A 0).toNat)) + 2) 1) 0 ((A 0) + 1)), cZ M a1 3 hs, cI M a2 9 ht, cI M a3 9 bf, cI M a4 9 cu, cI M a5 32 fr, cI M a6 625 wo, cI M a7 625 wy, cI M a8 625 my] gg dX11_bin_77 rfl (by omega) (by omega) (by decide) rfl ?_
          refine z_aload_n (pc := 78) 1 gg dX11_bin_78 rfl rfl ?_
          refine z_get (pc := 79) 0 gg fl_X11_7 dX11_bin_79 rfl rfl ?_
          refine z_iconst (pc := 82) gg dX11_bin_82 ?_
          refine z_iald (pc := 83) 1 0 gg dX11_bin_83 rfl (by omega) (by omega) (by decide) ?_
          rw [show ((zU (zU (zU (zU A (10 + (3 * (A 0).toNat)) 0) ((10 + (3 * (A 0).toNat)) + 1) x) ((10 + (3 * (A 0).toNat)) + 2) 1) 0 ((A 0) + 1)) 0) = ((A 0) + 1) from by rw [zU_s]]
          refine z_iconst (pc := 84) gg dX11_bin_84 ?_
          refine z_isub (pc := 85) gg dX11_bin_85 ?_
          exact hret (((A 0) + 1) - 1) () 86 _ _ _ (Nat.le_of_ble_eq_true rfl) (Nat.le_of_ble_eq_true rfl) dX11_bin_86 rfl (by omega)
      · exfalso; omega
set_option maxHeartbeats 4000000 in
set_option maxRecDepth 100000 in
theorem c_m_bin_no (M : KM) (h a0 a1 a2 a3 a4 a5 a6 a7 a8 : Nat) (A hs ht bf cu fr wo wy my : Nat → Int) (x y : Int) (h0 : 0 ≤ A 0 ∧ A 0 ≤ 6) (hx : A 0 = 6 ∨ x < 0 ∨ 20 < x) (hr : zR x) : kCI M yX11_bin cX11_bin 4 .int 1 0 0 [cO 11 h [.ref a0, .ref a1, .ref a2, .ref a3, .ref a4, .ref a5, .ref a6, .ref a7, .ref a8], cI M a0 1280 A, cZ M a1 3 hs, cI M a2 9 ht, cI M a3 9 bf, cI M a4 9 cu, cI M a5 32 fr, cI M a6 625 wo, cI M a7 625 wy, cI M a8 625 my] [.ref h, .int (zI x), .int (zI y)] (fun z (u : Unit) => z = -1) (fun u => [cO 11 h [.ref a0, .ref a1, .ref a2, .ref a3, .ref a4, .ref a5, .ref a6, .ref a7, .ref a8], cI M a0 1280 A, cZ M a1 3 hs, cI M a2 9 ht, cI M a3 9 bf, cI M a4 9 cu, cI M a5 32 fr, cI M a6 625 wo, cI M a7 625 wy, cI M a8 625 my]) := by
  refine kCI.of [(0, .ref h), (1, .int (zI x)), (2, .int (zI y))] (by decide) (Nat.le_of_ble_eq_true rfl) rfl (fun E gg hret => ?_)
  have r1_hr := hr.1
  have r2_hr := hr.2
  refine z_aload_n (pc := 0) 0 gg dX11_bin_0 rfl rfl ?_
  refine z_get (pc := 1) 0 gg fl_X11_7 dX11_bin_1 rfl rfl ?_
  refine z_iconst (pc := 4) gg dX11_bin_4 ?_
  refine z_iald (pc := 5) 1 0 gg dX11_bin_5 rfl (by omega) (by omega) (by decide) ?_
  refine z_bipush (pc := 6) gg dX11_bin_6 (by decide +kernel) ?_
  refine z_icmp_eq (pc := 8) 21 gg dX11_bin_8 (by decide) ⟨by omega, by omega⟩ ⟨by omega, by omega⟩ (fun h8 => ?_) (fun h8 => ?_)
  · refine z_iconst (pc := 21) gg dX11_bin_21 ?_
    exact hret (-1) () 22 _ _ _ (Nat.le_of_ble_eq_true rfl) (Nat.le_of_ble_eq_true rfl) dX11_bin_22 rfl (by omega)
  · refine z_iload_n (pc := 11) 1 gg dX11_bin_11 rfl rfl ?_
    refine z_iconst (pc := 12) gg dX11_bin_12 ?_
    refine z_bipush (pc := 13) gg dX11_bin_13 (by decide +kernel) ?_
    refine z_callS (pc := 15) (As := [.int (zI x), .int (zI 0), .int (zI 20)]) (st := []) gg (c_mIn M x (0 : Int) (20 : Int) (by first | assumption | omega | exact ⟨by omega, by omega⟩) (by first | assumption | omega | exact ⟨by omega, by omega⟩) (by first | assumption | omega | exact ⟨by omega, by omega⟩)) ys_11_isIn ml_X11_38 dX11_bin_15 (by decide) (Nat.le_of_ble_eq_true rfl) (Nat.le_of_ble_eq_true rfl) (Nat.le_of_ble_eq_true rfl) rfl rfl (fun z15 u15 hz15 => ?_)
    refine z_if_ne (pc := 18) 23 gg dX11_bin_18 (by decide) ⟨by omega, by omega⟩ (fun h18 => ?_) (fun h18 => ?_)
    · exfalso; omega
    · refine z_iconst (pc := 21) gg dX11_bin_21 ?_
      exact hret (-1) () 22 _ _ _ (Nat.le_of_ble_eq_true rfl) (Nat.le_of_ble_eq_true rfl) dX11_bin_22 rfl (by omega)
set_option maxHeartbeats 4000000 in
set_option maxRecDepth 100000 in
theorem c_m_fill_ok (M : KM) (h a0 a1 a2 a3 a4 a5 a6 a7 a8 : Nat) (A hs ht bf cu fr wo wy my : Nat → Int) (x y : Int) (h0 : 0 ≤ A 0 ∧ A 0 ≤ 6) (hx : 0 ≤ x ∧ x < A 0) (hfb : 0 ≤ x → x < A 0 → 0 ≤ A (10 + (3 * x.toNat)) ∧ A (10 + (3 * x.toNat)) ≤ 1000000) (hy : 0 < y ∧ y ≤ 1000000 - A (10 + (3 * x.toNat))) : kCI M yX11_fill cX11_fill 3 .int 2 0 0 [cO 11 h [.ref a0, .ref a1, .ref a2, .ref a3, .ref a4, .ref a5, .ref a6, .ref a7, .ref a8], cI M a0 1280 A, cZ M a1 3 hs, cI M a2 9 ht, cI M a3 9 bf, cI M a4 9 cu, cI M a5 32 fr, cI M a6 625 wo, cI M a7 625 wy, cI M a8 625 my] [.ref h, .int (zI x), .int (zI y)] (fun z (u : Unit) => z = A (10 + (3 * x.toNat)) + y) (fun u => [cO 11 h [.ref a0, .ref a1, .ref a2, .ref a3, .ref a4, .ref a5, .ref a6, .ref a7, .ref a8], cI M a0 1280 (zU A (10 + (3 * x.toNat)) ((A (10 + (3 * x.toNat))) + y)), cZ M a1 3 hs, cI M a2 9 ht, cI M a3 9 bf, cI M a4 9 cu, cI M a5 32 fr, cI M a6 625 wo, cI M a7 625 wy, cI M a8 625 my]) := by
  refine kCI.of [(0, .ref h), (1, .int (zI x)), (2, .int (zI y))] (by decide) (Nat.le_of_ble_eq_true rfl) rfl (fun E gg hret => ?_)
  have hf1 := hfb hx.1 hx.2
  refine z_aload_n (pc := 0) 0 gg dX11_fill_0 rfl rfl ?_
  refine z_iload_n (pc := 1) 1 gg dX11_fill_1 rfl rfl ?_
  refine z_iconst (pc := 2) gg dX11_fill_2 ?_
  refine z_callWi (pc := 3) (As := [.int (zI x), .int (zI 0)]) (st := []) gg (c_mOf M h a0 a1 a2 a3 a4 a5 a6 a7 a8 A hs ht bf cu fr wo wy my x 0 (by first | assumption | omega | exact ⟨by omega, by omega⟩) (by first | assumption | omega | exact ⟨by omega, by omega⟩) (by first | assumption | omega | exact ⟨by omega, by omega⟩)) yv_11_isOf ml_X11_42 dX11_fill_3 (by decide) (Nat.le_of_ble_eq_true rfl) (Nat.le_of_ble_eq_true rfl) (Nat.le_of_ble_eq_true rfl) rfl rfl rfl (fun z3 u3 hz3 => ?_)
  refine z_if_eq (pc := 6) 31 gg dX11_fill_6 (by decide) ⟨by omega, by omega⟩ (fun h6 => ?_) (fun h6 => ?_)
  · exfalso; omega
  · refine z_iload_n (pc := 9) 2 gg dX11_fill_9 rfl rfl ?_
    refine z_iconst (pc := 10) gg dX11_fill_10 ?_
    refine z_ldc (pc := 11) (n := 1000000) gg dX11_fill_11 kc_X11_46 (by decide +kernel) ?_
    refine z_aload_n (pc := 13) 0 gg dX11_fill_13 rfl rfl ?_
    refine z_get (pc := 14) 0 gg fl_X11_7 dX11_fill_14 rfl rfl ?_
    refine z_bipush (pc := 17) gg dX11_fill_17 (by decide +kernel) ?_
    refine z_iconst (pc := 19) gg dX11_fill_19 ?_
    refine z_iload_n (pc := 20) 1 gg dX11_fill_20 rfl rfl ?_
    refine z_imul (pc := 21) gg dX11_fill_21 ?_
    refine z_iadd (pc := 22) gg dX11_fill_22 ?_
    refine z_iald (pc := 23) 1 (10 + (3 * x.toNat)) gg dX11_fill_23 rfl (by omega) (by omega) (by decide) ?_
    refine z_isub (pc := 24) gg dX11_fill_24 ?_
    refine z_callS (pc := 25) (As := [.int (zI y), .int (zI 1), .int (zI (1000000 - (A (10 + (3 * x.toNat)))))]) (st := []) gg (c_mIn M y (1 : Int) (1000000 - (A (10 + (3 * x.toNat)))) (by first | assumption | omega | exact ⟨by omega, by omega⟩) (by first | assumption | omega | exact ⟨by omega, by omega⟩) (by first | assumption | omega | exact ⟨by omega, by omega⟩)) ys_11_isIn ml_X11_38 dX11_fill_25 (by decide) (Nat.le_of_ble_eq_true rfl) (Nat.le_of_ble_eq_true rfl) (Nat.le_of_ble_eq_true rfl) rfl rfl (fun z25 u25 hz25 => ?_)
    refine z_if_ne (pc := 28) 33 gg dX11_fill_28 (by decide) ⟨by omega, by omega⟩ (fun h28 => ?_) (fun h28 => ?_)
    · refine z_aload_n (pc := 33) 0 gg dX11_fill_33 rfl rfl ?_
      refine z_get (pc := 34) 0 gg fl_X11_7 dX11_fill_34 rfl rfl ?_
      refine z_bipush (pc := 37) gg dX11_fill_37 (by decide +kernel) ?_
      refine z_iconst (pc := 39) gg dX11_fill_39 ?_
      refine z_iload_n (pc := 40) 1 gg dX11_fill_40 rfl rfl ?_
      refine z_imul (pc := 41) gg dX11_fill_41 ?_
      refine z_iadd (pc := 42) gg dX11_fill_42 ?_
      refine z_dup2 (pc := 43) gg dX11_fill_43 rfl rfl ?_
      refine z_iald (pc := 44) 1 (10 + (3 * x.toNat)) gg dX11_fill_44 rfl (by omega) (by omega) (by decide) ?_
      refine z_iload_n (pc := 45) 2 gg dX11_fill_45 rfl rfl ?_
      refine z_iadd (pc := 46) gg dX11_fill_46 ?_
      refine z_iast (pc := 47) 1 (10 + (3 * x.toNat)) [cO 11 h [.ref a0, .ref a1, .ref a2, .ref a3, .ref a4, .ref a5, .ref a6, .ref a7, .ref a8], cI M a0 1280 (zU A (10 + (3 * x.toNat)) ((A (10 + (3 * x.toNat))) + y)), cZ M a1 3 hs, cI M a2 9 ht, cI M a3 9 bf, cI M a4 9 cu, cI M a5 32 fr, cI M a6 625 wo, cI M a7 625 wy, cI M a8 625 my] gg dX11_fill_47 rfl (by omega) (by omega) (by decide) rfl ?_
      refine z_aload_n (pc := 48) 0 gg dX11_fill_48 rfl rfl ?_
      refine z_get (pc := 49) 0 gg fl_X11_7 dX11_fill_49 rfl rfl ?_
      refine z_bipush (pc := 52) gg dX11_fill_52 (by decide +kernel) ?_
      refine z_iconst (pc := 54) gg dX11_fill_54 ?_
      refine z_iload_n (pc := 55) 1 gg dX11_fill_55 rfl rfl ?_
      refine z_imul (pc := 56) gg dX11_fill_56 ?_
      refine z_iadd (pc := 57) gg dX11_fill_57 ?_
      refine z_iald (pc := 58) 1 (10 + (3 * x.toNat)) gg dX11_fill_58 rfl (by omega) (by omega) (by decide) ?_
      rw [show ((zU A (10 + (3 * x.toNat)) ((A (10 + (3 * x.toNat))) + y)) (10 + (3 * x.toNat))) = ((A (10 + (3 * x.toNat))) + y) from by rw [zU_s]]
      exact hret ((A (10 + (3 * x.toNat))) + y) () 59 _ _ _ (Nat.le_of_ble_eq_true rfl) (Nat.le_of_ble_eq_true rfl) dX11_fill_59 rfl (by omega)
    · exfalso; omega
set_option maxHeartbeats 4000000 in
set_option maxRecDepth 100000 in
theorem c_m_fill_no (M : KM) (h a0 a1 a2 a3 a4 a5 a6 a7 a8 : Nat) (A hs ht bf cu fr wo wy my : Nat → Int) (x y : Int) (h0 : 0 ≤ A 0 ∧ A 0 ≤ 6) (hx : zR x) (hy : zR y) (hfb : 0 ≤ x → x < A 0 → 0 ≤ A (10 + (3 * x.toNat)) ∧ A (10 + (3 * x.toNat)) ≤ 1000000) (hc : x < 0 ∨ A 0 ≤ x ∨ y ≤ 0 ∨ 1000000 - A (10 + (3 * x.toNat)) < y) : kCI M yX11_fill cX11_fill 3 .int 2 0 0 [cO 11 h [.ref a0, .ref a1, .ref a2, .ref a3, .ref a4, .ref a5, .ref a6, .ref a7, .ref a8], cI M a0 1280 A, cZ M a1 3 hs, cI M a2 9 ht, cI M a3 9 bf, cI M a4 9 cu, cI M a5 32 fr, cI M a6 625 wo, cI M a7 625 wy, cI M a8 625 my] [.ref h, .int (zI x), .int (zI y)] (fun z (u : Unit) => z = -1) (fun u => [cO 11 h [.ref a0, .ref a1, .ref a2, .ref a3, .ref a4, .ref a5, .ref a6, .ref a7, .ref a8], cI M a0 1280 A, cZ M a1 3 hs, cI M a2 9 ht, cI M a3 9 bf, cI M a4 9 cu, cI M a5 32 fr, cI M a6 625 wo, cI M a7 625 wy, cI M a8 625 my]) := by
  refine kCI.of [(0, .ref h), (1, .int (zI x)), (2, .int (zI y))] (by decide) (Nat.le_of_ble_eq_true rfl) rfl (fun E gg hret => ?_)
  have r1_hx := hx.1
  have r2_hx := hx.2
  have r1_hy := hy.1
  have r2_hy := hy.2
  refine z_aload_n (pc := 0) 0 gg dX11_fill_0 rfl rfl ?_
  refine z_iload_n (pc := 1) 1 gg dX11_fill_1 rfl rfl ?_
  refine z_iconst (pc := 2) gg dX11_fill_2 ?_
  refine z_callWi (pc := 3) (As := [.int (zI x), .int (zI 0)]) (st := []) gg (c_mOf M h a0 a1 a2 a3 a4 a5 a6 a7 a8 A hs ht bf cu fr wo wy my x 0 (by first | assumption | omega | exact ⟨by omega, by omega⟩) (by first | assumption | omega | exact ⟨by omega, by omega⟩) (by first | assumption | omega | exact ⟨by omega, by omega⟩)) yv_11_isOf ml_X11_42 dX11_fill_3 (by decide) (Nat.le_of_ble_eq_true rfl) (Nat.le_of_ble_eq_true rfl) (Nat.le_of_ble_eq_true rfl) rfl rfl rfl (fun z3 u3 hz3 => ?_)
  refine z_if_eq (pc := 6) 31 gg dX11_fill_6 (by decide) ⟨by omega, by omega⟩ (fun h6 => ?_) (fun h6 => ?_)
  · refine z_iconst (pc := 31) gg dX11_fill_31 ?_
    exact hret (-1) () 32 _ _ _ (Nat.le_of_ble_eq_true rfl) (Nat.le_of_ble_eq_true rfl) dX11_fill_32 rfl (by omega)
  · have hf1 := hfb (by omega) (by omega)
    refine z_iload_n (pc := 9) 2 gg dX11_fill_9 rfl rfl ?_
    refine z_iconst (pc := 10) gg dX11_fill_10 ?_
    refine z_ldc (pc := 11) (n := 1000000) gg dX11_fill_11 kc_X11_46 (by decide +kernel) ?_
    refine z_aload_n (pc := 13) 0 gg dX11_fill_13 rfl rfl ?_
    refine z_get (pc := 14) 0 gg fl_X11_7 dX11_fill_14 rfl rfl ?_
    refine z_bipush (pc := 17) gg dX11_fill_17 (by decide +kernel) ?_
    refine z_iconst (pc := 19) gg dX11_fill_19 ?_
    refine z_iload_n (pc := 20) 1 gg dX11_fill_20 rfl rfl ?_
    refine z_imul (pc := 21) gg dX11_fill_21 ?_
    refine z_iadd (pc := 22) gg dX11_fill_22 ?_
    refine z_iald (pc := 23) 1 (10 + (3 * x.toNat)) gg dX11_fill_23 rfl (by omega) (by omega) (by decide) ?_
    refine z_isub (pc := 24) gg dX11_fill_24 ?_
    refine z_callS (pc := 25) (As := [.int (zI y), .int (zI 1), .int (zI (1000000 - (A (10 + (3 * x.toNat)))))]) (st := []) gg (c_mIn M y (1 : Int) (1000000 - (A (10 + (3 * x.toNat)))) (by first | assumption | omega | exact ⟨by omega, by omega⟩) (by first | assumption | omega | exact ⟨by omega, by omega⟩) (by first | assumption | omega | exact ⟨by omega, by omega⟩)) ys_11_isIn ml_X11_38 dX11_fill_25 (by decide) (Nat.le_of_ble_eq_true rfl) (Nat.le_of_ble_eq_true rfl) (Nat.le_of_ble_eq_true rfl) rfl rfl (fun z25 u25 hz25 => ?_)
    refine z_if_ne (pc := 28) 33 gg dX11_fill_28 (by decide) ⟨by omega, by omega⟩ (fun h28 => ?_) (fun h28 => ?_)
    · exfalso; omega
    · refine z_iconst (pc := 31) gg dX11_fill_31 ?_
      exact hret (-1) () 32 _ _ _ (Nat.le_of_ble_eq_true rfl) (Nat.le_of_ble_eq_true rfl) dX11_fill_32 rfl (by omega)
set_option maxHeartbeats 4000000 in
set_option maxRecDepth 100000 in
theorem c_m_lot_ok (M : KM) (h a0 a1 a2 a3 a4 a5 a6 a7 a8 : Nat) (A hs ht bf cu fr wo wy my : Nat → Int) (x : Int) (h0 : 0 ≤ A 1 ∧ A 1 < 8) (hx : 1 ≤ x ∧ x ≤ 100000) : kCI M yX11_lot cX11_lot 2 .int 1 0 0 [cO 11 h [.ref a0, .ref a1, .ref a2, .ref a3, .ref a4, .ref a5, .ref a6, .ref a7, .ref a8], cI M a0 1280 A, cZ M a1 3 hs, cI M a2 9 ht, cI M a3 9 bf, cI M a4 9 cu, cI M a5 32 fr, cI M a6 625 wo, cI M a7 625 wy, cI M a8 625 my] [.ref h, .int (zI x)] (fun z (u : Unit) => z = A 1) (fun u => [cO 11 h [.ref a0, .ref a1, .ref a2, .ref a3, .ref a4, .ref a5, .ref a6, .ref a7, .ref a8], cI M a0 1280 (zU (zU A (30 + (A 1).toNat) x) 1 ((A 1) + 1)), cZ M a1 3 hs, cI M a2 9 ht, cI M a3 9 bf, cI M a4 9 cu, cI M a5 32 fr, cI M a6 625 wo, cI M a7 625 wy, cI M a8 625 my]) := by
  refine kCI.of [(0, .ref h), (1, .int (zI x))] (by decide) (Nat.le_of_ble_eq_true rfl) rfl (fun E gg hret => ?_)
  refine z_aload_n (pc := 0) 0 gg dX11_lot_0 rfl rfl ?_
  refine z_get (pc := 1) 0 gg fl_X11_7 dX11_lot_1 rfl rfl ?_
  refine z_iconst (pc := 4) gg dX11_lot_4 ?_
  refine z_iald (pc := 5) 1 1 gg dX11_lot_5 rfl (by omega) (by omega) (by decide) ?_
  refine z_bipush (pc := 6) gg dX11_lot_6 (by decide +kernel) ?_
  refine z_icmp_eq (pc := 8) 21 gg dX11_lot_8 (by decide) ⟨by omega, by omega⟩ ⟨by omega, by omega⟩ (fun h8 => ?_) (fun h8 => ?_)
  · exfalso; omega
  · refine z_iload_n (pc := 11) 1 gg dX11_lot_11 rfl rfl ?_
    refine z_iconst (pc := 12) gg dX11_lot_12 ?_
    refine z_ldc (pc := 13) (n := 100000) gg dX11_lot_13 kc_X11_47 (by decide +kernel) ?_
    refine z_callS (pc := 15) (As := [.int (zI x), .int (zI 1), .int (zI 100000)]) (st := []) gg (c_mIn M x (1 : Int) (100000 : Int) (by first | assumption | omega | exact ⟨by omega, by omega⟩) (by first | assumption | omega | exact ⟨by omega, by omega⟩) (by first | assumption | omega | exact ⟨by omega, by omega⟩)) ys_11_isIn ml_X11_38 dX11_lot_15 (by decide) (Nat.le_of_ble_eq_true rfl) (Nat.le_of_ble_eq_true rfl) (Nat.le_of_ble_eq_true rfl) rfl rfl (fun z15 u15 hz15 => ?_)
    refine z_if_ne (pc := 18) 23 gg dX11_lot_18 (by decide) ⟨by omega, by omega⟩ (fun h18 => ?_) (fun h18 => ?_)
    · refine z_aload_n (pc := 23) 0 gg dX11_lot_23 rfl rfl ?_
      refine z_get (pc := 24) 0 gg fl_X11_7 dX11_lot_24 rfl rfl ?_
      refine z_bipush (pc := 27) gg dX11_lot_27 (by decide +kernel) ?_
      refine z_aload_n (pc := 29) 0 gg dX11_lot_29 rfl rfl ?_
      refine z_get (pc := 30) 0 gg fl_X11_7 dX11_lot_30 rfl rfl ?_
      refine z_iconst (pc := 33) gg dX11_lot_33 ?_
      refine z_iald (pc := 34) 1 1 gg dX11_lot_34 rfl (by omega) (by omega) (by decide) ?_
      refine z_iadd (pc := 35) gg dX11_lot_35 ?_
      refine z_iload_n (pc := 36) 1 gg dX11_lot_36 rfl rfl ?_
      refine z_iast (pc := 37) 1 (30 + (A 1).toNat) [cO 11 h [.ref a0, .ref a1, .ref a2, .ref a3, .ref a4, .ref a5, .ref a6, .ref a7, .ref a8], cI M a0 1280 (zU A (30 + (A 1).toNat) x), cZ M a1 3 hs, cI M a2 9 ht, cI M a3 9 bf, cI M a4 9 cu, cI M a5 32 fr, cI M a6 625 wo, cI M a7 625 wy, cI M a8 625 my] gg dX11_lot_37 rfl (by omega) (by omega) (by decide) rfl ?_
      refine z_aload_n (pc := 38) 0 gg dX11_lot_38 rfl rfl ?_
      refine z_get (pc := 39) 0 gg fl_X11_7 dX11_lot_39 rfl rfl ?_
      refine z_iconst (pc := 42) gg dX11_lot_42 ?_
      refine z_dup2 (pc := 43) gg dX11_lot_43 rfl rfl ?_
      refine z_iald (pc := 44) 1 1 gg dX11_lot_44 rfl (by omega) (by omega) (by decide) ?_
      rw [show ((zU A (30 + (A 1).toNat) x) 1) = (A 1) from by rw [zU_n _ _ (by omega)]]
      refine z_iconst (pc := 45) gg dX11_lot_45 ?_
      refine z_iadd (pc := 46) gg dX11_lot_46 ?_
      refine z_iast (pc := 47) 1 1 [cO 11 h [.ref a0, .ref a1, .ref a2, .ref a3, .ref a4, .ref a5, .ref a6, .ref a7, .ref a8], cI M a0 1280 (zU (zU A (30 + (A 1).toNat) x) 1 ((A 1) + 1)), cZ M a1 3 hs, cI M a2 9 ht, cI M a3 9 bf, cI M a4 9 cu, cI M a5 32 fr, cI M a6 625 wo, cI M a7 625 wy, cI M a8 625 my] gg dX11_lot_47 rfl (by omega) (by omega) (by decide) rfl ?_
      refine z_aload_n (pc := 48) 0 gg dX11_lot_48 rfl rfl ?_
      refine z_get (pc := 49) 0 gg fl_X11_7 dX11_lot_49 rfl rfl ?_
      refine z_iconst (pc := 52) gg dX11_lot_52 ?_
      refine z_iald (pc := 53) 1 1 gg dX11_lot_53 rfl (by omega) (by omega) (by decide) ?_
      rw [show ((zU (zU A (30 + (A 1).toNat) x) 1 ((A 1) + 1)) 1) = ((A 1) + 1) from by rw [zU_s]]
      refine z_iconst (pc := 54) gg dX11_lot_54 ?_
      refine z_isub (pc := 55) gg dX11_lot_55 ?_
      exact hret (((A 1) + 1) - 1) () 56 _ _ _ (Nat.le_of_ble_eq_true rfl) (Nat.le_of_ble_eq_true rfl) dX11_lot_56 rfl (by omega)
    · exfalso; omega
set_option maxHeartbeats 4000000 in
set_option maxRecDepth 100000 in
theorem c_m_lot_no (M : KM) (h a0 a1 a2 a3 a4 a5 a6 a7 a8 : Nat) (A hs ht bf cu fr wo wy my : Nat → Int) (x : Int) (h0 : 0 ≤ A 1 ∧ A 1 ≤ 8) (hx : A 1 = 8 ∨ x < 1 ∨ 100000 < x) (hr : zR x) : kCI M yX11_lot cX11_lot 2 .int 1 0 0 [cO 11 h [.ref a0, .ref a1, .ref a2, .ref a3, .ref a4, .ref a5, .ref a6, .ref a7, .ref a8], cI M a0 1280 A, cZ M a1 3 hs, cI M a2 9 ht, cI M a3 9 bf, cI M a4 9 cu, cI M a5 32 fr, cI M a6 625 wo, cI M a7 625 wy, cI M a8 625 my] [.ref h, .int (zI x)] (fun z (u : Unit) => z = -1) (fun u => [cO 11 h [.ref a0, .ref a1, .ref a2, .ref a3, .ref a4, .ref a5, .ref a6, .ref a7, .ref a8], cI M a0 1280 A, cZ M a1 3 hs, cI M a2 9 ht, cI M a3 9 bf, cI M a4 9 cu, cI M a5 32 fr, cI M a6 625 wo, cI M a7 625 wy, cI M a8 625 my]) := by
  refine kCI.of [(0, .ref h), (1, .int (zI x))] (by decide) (Nat.le_of_ble_eq_true rfl) rfl (fun E gg hret => ?_)
  have r1_hr := hr.1
  have r2_hr := hr.2
  refine z_aload_n (pc := 0) 0 gg dX11_lot_0 rfl rfl ?_
  refine z_get (pc := 1) 0 gg fl_X11_7 dX11_lot_1 rfl rfl ?_
  refine z_iconst (pc := 4) gg dX11_lot_4 ?_
  refine z_iald (pc := 5) 1 1 gg dX11_lot_5 rfl (by omega) (by omega) (by decide) ?_
  refine z_bipush (pc := 6) gg dX11_lot_6 (by decide +kernel) ?_
  refine z_icmp_eq (pc := 8) 21 gg dX11_lot_8 (by decide) ⟨by omega, by omega⟩ ⟨by omega, by omega⟩ (fun h8 => ?_) (fun h8 => ?_)
  · refine z_iconst (pc := 21) gg dX11_lot_21 ?_
    exact hret (-1) () 22 _ _ _ (Nat.le_of_ble_eq_true rfl) (Nat.le_of_ble_eq_true rfl) dX11_lot_22 rfl (by omega)
  · refine z_iload_n (pc := 11) 1 gg dX11_lot_11 rfl rfl ?_
    refine z_iconst (pc := 12) gg dX11_lot_12 ?_
    refine z_ldc (pc := 13) (n := 100000) gg dX11_lot_13 kc_X11_47 (by decide +kernel) ?_
    refine z_callS (pc := 15) (As := [.int (zI x), .int (zI 1), .int (zI 100000)]) (st := []) gg (c_mIn M x (1 : Int) (100000 : Int) (by first | assumption | omega | exact ⟨by omega, by omega⟩) (by first | assumption | omega | exact ⟨by omega, by omega⟩) (by first | assumption | omega | exact ⟨by omega, by omega⟩)) ys_11_isIn ml_X11_38 dX11_lot_15 (by decide) (Nat.le_of_ble_eq_true rfl) (Nat.le_of_ble_eq_true rfl) (Nat.le_of_ble_eq_true rfl) rfl rfl (fun z15 u15 hz15 => ?_)
    refine z_if_ne (pc := 18) 23 gg dX11_lot_18 (by decide) ⟨by omega, by omega⟩ (fun h18 => ?_) (fun h18 => ?_)
    · exfalso; omega
    · refine z_iconst (pc := 21) gg dX11_lot_21 ?_
      exact hret (-1) () 22 _ _ _ (Nat.le_of_ble_eq_true rfl) (Nat.le_of_ble_eq_true rfl) dX11_lot_22 rfl (by omega)
set_option maxHeartbeats 4000000 in
set_option maxRecDepth 100000 in
theorem c_m_plate_ok (M : KM) (h a0 a1 a2 a3 a4 a5 a6 a7 a8 : Nat) (A hs ht bf cu fr wo wy my : Nat → Int) (x : Int) (h0 : 0 ≤ A 3 ∧ A 3 < 4) (hx : 100 ≤ x ∧ x ≤ 250) : kCI M yX11_plate cX11_plate 2 .int 1 0 0 [cO 11 h [.ref a0, .ref a1, .ref a2, .ref a3, .ref a4, .ref a5, .ref a6, .ref a7, .ref a8], cI M a0 1280 A, cZ M a1 3 hs, cI M a2 9 ht, cI M a3 9 bf, cI M a4 9 cu, cI M a5 32 fr, cI M a6 625 wo, cI M a7 625 wy, cI M a8 625 my] [.ref h, .int (zI x)] (fun z (u : Unit) => z = A 3) (fun u => [cO 11 h [.ref a0, .ref a1, .ref a2, .ref a3, .ref a4, .ref a5, .ref a6, .ref a7, .ref a8], cI M a0 1280 (zU (zU A (40 + (A 3).toNat) x) 3 ((A 3) + 1)), cZ M a1 3 hs, cI M a2 9 ht, cI M a3 9 bf, cI M a4 9 cu, cI M a5 32 fr, cI M a6 625 wo, cI M a7 625 wy, cI M a8 625 my]) := by
  refine kCI.of [(0, .ref h), (1, .int (zI x))] (by decide) (Nat.le_of_ble_eq_true rfl) rfl (fun E gg hret => ?_)
  refine z_aload_n (pc := 0) 0 gg dX11_plate_0 rfl rfl ?_
  refine z_get (pc := 1) 0 gg fl_X11_7 dX11_plate_1 rfl rfl ?_
  refine z_iconst (pc := 4) gg dX11_plate_4 ?_
  refine z_iald (pc := 5) 1 3 gg dX11_plate_5 rfl (by omega) (by omega) (by decide) ?_
  refine z_iconst (pc := 6) gg dX11_plate_6 ?_
  refine z_icmp_eq (pc := 7) 22 gg dX11_plate_7 (by decide) ⟨by omega, by omega⟩ ⟨by omega, by omega⟩ (fun h7 => ?_) (fun h7 => ?_)
  · exfalso; omega
  · refine z_iload_n (pc := 10) 1 gg dX11_plate_10 rfl rfl ?_
    refine z_bipush (pc := 11) gg dX11_plate_11 (by decide +kernel) ?_
    refine z_sipush (pc := 13) gg dX11_plate_13 (by decide +kernel) ?_
    refine z_callS (pc := 16) (As := [.int (zI x), .int (zI 100), .int (zI 250)]) (st := []) gg (c_mIn M x (100 : Int) (250 : Int) (by first | assumption | omega | exact ⟨by omega, by omega⟩) (by first | assumption | omega | exact ⟨by omega, by omega⟩) (by first | assumption | omega | exact ⟨by omega, by omega⟩)) ys_11_isIn ml_X11_38 dX11_plate_16 (by decide) (Nat.le_of_ble_eq_true rfl) (Nat.le_of_ble_eq_true rfl) (Nat.le_of_ble_eq_true rfl) rfl rfl (fun z16 u16 hz16 => ?_)
    refine z_if_ne (pc := 19) 24 gg dX11_plate_19 (by decide) ⟨by omega, by omega⟩ (fun h19 => ?_) (fun h19 => ?_)
    · refine z_aload_n (pc := 24) 0 gg dX11_plate_24 rfl rfl ?_
      refine z_get (pc := 25) 0 gg fl_X11_7 dX11_plate_25 rfl rfl ?_
      refine z_bipush (pc := 28) gg dX11_plate_28 (by decide +kernel) ?_
      refine z_aload_n (pc := 30) 0 gg dX11_plate_30 rfl rfl ?_
      refine z_get (pc := 31) 0 gg fl_X11_7 dX11_plate_31 rfl rfl ?_
      refine z_iconst (pc := 34) gg dX11_plate_34 ?_
      refine z_iald (pc := 35) 1 3 gg dX11_plate_35 rfl (by omega) (by omega) (by decide) ?_
      refine z_iadd (pc := 36) gg dX11_plate_36 ?_
      refine z_iload_n (pc := 37) 1 gg dX11_plate_37 rfl rfl ?_
      refine z_iast (pc := 38) 1 (40 + (A 3).toNat) [cO 11 h [.ref a0, .ref a1, .ref a2, .ref a3, .ref a4, .ref a5, .ref a6, .ref a7, .ref a8], cI M a0 1280 (zU A (40 + (A 3).toNat) x), cZ M a1 3 hs, cI M a2 9 ht, cI M a3 9 bf, cI M a4 9 cu, cI M a5 32 fr, cI M a6 625 wo, cI M a7 625 wy, cI M a8 625 my] gg dX11_plate_38 rfl (by omega) (by omega) (by decide) rfl ?_
      refine z_aload_n (pc := 39) 0 gg dX11_plate_39 rfl rfl ?_
      refine z_get (pc := 40) 0 gg fl_X11_7 dX11_plate_40 rfl rfl ?_
      refine z_iconst (pc := 43) gg dX11_plate_43 ?_
      refine z_dup2 (pc := 44) gg dX11_plate_44 rfl rfl ?_
      refine z_iald (pc := 45) 1 3 gg dX11_plate_45 rfl (by omega) (by omega) (by decide) ?_
      rw [show ((zU A (40 + (A 3).toNat) x) 3) = (A 3) from by rw [zU_n _ _ (by omega)]]
      refine z_iconst (pc := 46) gg dX11_plate_46 ?_
      refine z_iadd (pc := 47) gg dX11_plate_47 ?_
      refine z_iast (pc := 48) 1 3 [cO 11 h [.ref a0, .ref a1, .ref a2, .ref a3, .ref a4, .ref a5, .ref a6, .ref a7, .ref a8], cI M a0 1280 (zU (zU A (40 + (A 3).toNat) x) 3 ((A 3) + 1)), cZ M a1 3 hs, cI M a2 9 ht, cI M a3 9 bf, cI M a4 9 cu, cI M a5 32 fr, cI M a6 625 wo, cI M a7 625 wy, cI M a8 625 my] gg dX11_plate_48 rfl (by omega) (by omega) (by decide) rfl ?_
      refine z_aload_n (pc := 49) 0 gg dX11_plate_49 rfl rfl ?_
      refine z_get (pc := 50) 0 gg fl_X11_7 dX11_plate_50 rfl rfl ?_
      refine z_iconst (pc := 53) gg dX11_plate_53 ?_
      refine z_iald (pc := 54) 1 3 gg dX11_plate_54 rfl (by omega) (by omega) (by decide) ?_
      rw [show ((zU (zU A (40 + (A 3).toNat) x) 3 ((A 3) + 1)) 3) = ((A 3) + 1) from by rw [zU_s]]
      refine z_iconst (pc := 55) gg dX11_plate_55 ?_
      refine z_isub (pc := 56) gg dX11_plate_56 ?_
      exact hret (((A 3) + 1) - 1) () 57 _ _ _ (Nat.le_of_ble_eq_true rfl) (Nat.le_of_ble_eq_true rfl) dX11_plate_57 rfl (by omega)
    · exfalso; omega
set_option maxHeartbeats 4000000 in
set_option maxRecDepth 100000 in
theorem c_m_plate_no (M : KM) (h a0 a1 a2 a3 a4 a5 a6 a7 a8 : Nat) (A hs ht bf cu fr wo wy my : Nat → Int) (x : Int) (h0 : 0 ≤ A 3 ∧ A 3 ≤ 4) (hx : A 3 = 4 ∨ x < 100 ∨ 250 < x) (hr : zR x) : kCI M yX11_plate cX11_plate 2 .int 1 0 0 [cO 11 h [.ref a0, .ref a1, .ref a2, .ref a3, .ref a4, .ref a5, .ref a6, .ref a7, .ref a8], cI M a0 1280 A, cZ M a1 3 hs, cI M a2 9 ht, cI M a3 9 bf, cI M a4 9 cu, cI M a5 32 fr, cI M a6 625 wo, cI M a7 625 wy, cI M a8 625 my] [.ref h, .int (zI x)] (fun z (u : Unit) => z = -1) (fun u => [cO 11 h [.ref a0, .ref a1, .ref a2, .ref a3, .ref a4, .ref a5, .ref a6, .ref a7, .ref a8], cI M a0 1280 A, cZ M a1 3 hs, cI M a2 9 ht, cI M a3 9 bf, cI M a4 9 cu, cI M a5 32 fr, cI M a6 625 wo, cI M a7 625 wy, cI M a8 625 my]) := by
  refine kCI.of [(0, .ref h), (1, .int (zI x))] (by decide) (Nat.le_of_ble_eq_true rfl) rfl (fun E gg hret => ?_)
  have r1_hr := hr.1
  have r2_hr := hr.2
  refine z_aload_n (pc := 0) 0 gg dX11_plate_0 rfl rfl ?_
  refine z_get (pc := 1) 0 gg fl_X11_7 dX11_plate_1 rfl rfl ?_
  refine z_iconst (pc := 4) gg dX11_plate_4 ?_
  refine z_iald (pc := 5) 1 3 gg dX11_plate_5 rfl (by omega) (by omega) (by decide) ?_
  refine z_iconst (pc := 6) gg dX11_plate_6 ?_
  refine z_icmp_eq (pc := 7) 22 gg dX11_plate_7 (by decide) ⟨by omega, by omega⟩ ⟨by omega, by omega⟩ (fun h7 => ?_) (fun h7 => ?_)
  · refine z_iconst (pc := 22) gg dX11_plate_22 ?_
    exact hret (-1) () 23 _ _ _ (Nat.le_of_ble_eq_true rfl) (Nat.le_of_ble_eq_true rfl) dX11_plate_23 rfl (by omega)
  · refine z_iload_n (pc := 10) 1 gg dX11_plate_10 rfl rfl ?_
    refine z_bipush (pc := 11) gg dX11_plate_11 (by decide +kernel) ?_
    refine z_sipush (pc := 13) gg dX11_plate_13 (by decide +kernel) ?_
    refine z_callS (pc := 16) (As := [.int (zI x), .int (zI 100), .int (zI 250)]) (st := []) gg (c_mIn M x (100 : Int) (250 : Int) (by first | assumption | omega | exact ⟨by omega, by omega⟩) (by first | assumption | omega | exact ⟨by omega, by omega⟩) (by first | assumption | omega | exact ⟨by omega, by omega⟩)) ys_11_isIn ml_X11_38 dX11_plate_16 (by decide) (Nat.le_of_ble_eq_true rfl) (Nat.le_of_ble_eq_true rfl) (Nat.le_of_ble_eq_true rfl) rfl rfl (fun z16 u16 hz16 => ?_)
    refine z_if_ne (pc := 19) 24 gg dX11_plate_19 (by decide) ⟨by omega, by omega⟩ (fun h19 => ?_) (fun h19 => ?_)
    · exfalso; omega
    · refine z_iconst (pc := 22) gg dX11_plate_22 ?_
      exact hret (-1) () 23 _ _ _ (Nat.le_of_ble_eq_true rfl) (Nat.le_of_ble_eq_true rfl) dX11_plate_23 rfl (by omega)
set_option maxHeartbeats 4000000 in
set_option maxRecDepth 100000 in
theorem c_mLeast (M : KM) (w : Int) (hw : zR w) : kCI M yX11_leastOf cX11_leastOf 1 .int 0 0 0 [] [.int (zI w)] (fun z (u : Unit) => (z = 1 ∧ (w = 0 ∨ w = 2)) ∨ (z = 0 ∧ w ≠ 0 ∧ w ≠ 2)) (fun u => []) := by
  refine kCI.of [(0, .int (zI w))] (by decide) (Nat.le_of_ble_eq_true rfl) rfl (fun E gg hret => ?_)
  have r1_hw := hw.1
  have r2_hw := hw.2
  refine z_iload_n (pc := 0) 0 gg dX11_leastOf_0 rfl rfl ?_
  refine z_if_eq (pc := 1) 9 gg dX11_leastOf_1 (by decide) ⟨by omega, by omega⟩ (fun h1 => ?_) (fun h1 => ?_)
  · refine z_iconst (pc := 9) gg dX11_leastOf_9 ?_
    refine z_goto (pc := 10) 14 gg dX11_leastOf_10 (by decide) ?_
    exact hret 1 () 14 _ _ _ (Nat.le_of_ble_eq_true rfl) (Nat.le_of_ble_eq_true rfl) dX11_leastOf_14 rfl (by omega)
  · refine z_iload_n (pc := 4) 0 gg dX11_leastOf_4 rfl rfl ?_
    refine z_iconst (pc := 5) gg dX11_leastOf_5 ?_
    refine z_icmp_ne (pc := 6) 13 gg dX11_leastOf_6 (by decide) ⟨by omega, by omega⟩ ⟨by omega, by omega⟩ (fun h6 => ?_) (fun h6 => ?_)
    · refine z_iconst (pc := 13) gg dX11_leastOf_13 ?_
      exact hret 0 () 14 _ _ _ (Nat.le_of_ble_eq_true rfl) (Nat.le_of_ble_eq_true rfl) dX11_leastOf_14 rfl (by omega)
    · refine z_iconst (pc := 9) gg dX11_leastOf_9 ?_
      refine z_goto (pc := 10) 14 gg dX11_leastOf_10 (by decide) ?_
      exact hret 1 () 14 _ _ _ (Nat.le_of_ble_eq_true rfl) (Nat.le_of_ble_eq_true rfl) dX11_leastOf_14 rfl (by omega)
set_option maxHeartbeats 4000000 in
set_option maxRecDepth 100000 in
theorem c_mMost (M : KM) (w : Int) (hw : zR w) : kCI M yX11_mostOf cX11_mostOf 1 .int 0 0 0 [] [.int (zI w)] (fun z (u : Unit) => (w = 0 ∧ z = 30) ∨ (w = 1 ∧ z = 100) ∨ (w = 2 ∧ z = 5000) ∨ (w ≠ 0 ∧ w ≠ 1 ∧ w ≠ 2 ∧ z = 3)) (fun u => []) := by
  refine kCI.of [(0, .int (zI w))] (by decide) (Nat.le_of_ble_eq_true rfl) rfl (fun E gg hret => ?_)
  have r1_hw := hw.1
  have r2_hw := hw.2
  refine z_iload_n (pc := 0) 0 gg dX11_mostOf_0 rfl rfl ?_
  refine z_if_ne (pc := 1) 9 gg dX11_mostOf_1 (by decide) ⟨by omega, by omega⟩ (fun h1 => ?_) (fun h1 => ?_)
  · refine z_iload_n (pc := 9) 0 gg dX11_mostOf_9 rfl rfl ?_
    refine z_iconst (pc := 10) gg dX11_mostOf_10 ?_
    refine z_icmp_ne (pc := 11) 19 gg dX11_mostOf_11 (by decide) ⟨by omega, by omega⟩ ⟨by omega, by omega⟩ (fun h11 => ?_) (fun h11 => ?_)
    · refine z_iload_n (pc := 19) 0 gg dX11_mostOf_19 rfl rfl ?_
      refine z_iconst (pc := 20) gg dX11_mostOf_20 ?_
      refine z_icmp_ne (pc := 21) 30 gg dX11_mostOf_21 (by decide) ⟨by omega, by omega⟩ ⟨by omega, by omega⟩ (fun h21 => ?_) (fun h21 => ?_)
      · refine z_iconst (pc := 30) gg dX11_mostOf_30 ?_
        exact hret 3 () 31 _ _ _ (Nat.le_of_ble_eq_true rfl) (Nat.le_of_ble_eq_true rfl) dX11_mostOf_31 rfl (by omega)
      · refine z_sipush (pc := 24) gg dX11_mostOf_24 (by decide +kernel) ?_
        refine z_goto (pc := 27) 31 gg dX11_mostOf_27 (by decide) ?_
        exact hret 5000 () 31 _ _ _ (Nat.le_of_ble_eq_true rfl) (Nat.le_of_ble_eq_true rfl) dX11_mostOf_31 rfl (by omega)
    · refine z_bipush (pc := 14) gg dX11_mostOf_14 (by decide +kernel) ?_
      refine z_goto (pc := 16) 31 gg dX11_mostOf_16 (by decide) ?_
      exact hret 100 () 31 _ _ _ (Nat.le_of_ble_eq_true rfl) (Nat.le_of_ble_eq_true rfl) dX11_mostOf_31 rfl (by omega)
  · refine z_bipush (pc := 4) gg dX11_mostOf_4 (by decide +kernel) ?_
    refine z_goto (pc := 6) 31 gg dX11_mostOf_6 (by decide) ?_
    exact hret 30 () 31 _ _ _ (Nat.le_of_ble_eq_true rfl) (Nat.le_of_ble_eq_true rfl) dX11_mostOf_31 rfl (by omega)
set_option maxHeartbeats 4000000 in
set_option maxRecDepth 100000 in
theorem c_m_rule_ok (M : KM) (h a0 a1 a2 a3 a4 a5 a6 a7 a8 : Nat) (A hs ht bf cu fr wo wy my : Nat → Int) (w v : Int) (hw : 0 ≤ w ∧ w ≤ 3) (hv : (w = 0 ∧ 1 ≤ v ∧ v ≤ 30) ∨ (w = 1 ∧ 0 ≤ v ∧ v ≤ 100) ∨ (w = 2 ∧ 1 ≤ v ∧ v ≤ 5000) ∨ (w = 3 ∧ 0 ≤ v ∧ v ≤ 3)) : kCI M yX11_rule cX11_rule 3 .boolean 1 0 0 [cO 11 h [.ref a0, .ref a1, .ref a2, .ref a3, .ref a4, .ref a5, .ref a6, .ref a7, .ref a8], cI M a0 1280 A, cZ M a1 3 hs, cI M a2 9 ht, cI M a3 9 bf, cI M a4 9 cu, cI M a5 32 fr, cI M a6 625 wo, cI M a7 625 wy, cI M a8 625 my] [.ref h, .int (zI w), .int (zI v)] (fun z (u : Unit) => z = 1) (fun u => [cO 11 h [.ref a0, .ref a1, .ref a2, .ref a3, .ref a4, .ref a5, .ref a6, .ref a7, .ref a8], cI M a0 1280 (zU A (5 + w.toNat) v), cZ M a1 3 hs, cI M a2 9 ht, cI M a3 9 bf, cI M a4 9 cu, cI M a5 32 fr, cI M a6 625 wo, cI M a7 625 wy, cI M a8 625 my]) := by
  refine kCI.of [(0, .ref h), (1, .int (zI w)), (2, .int (zI v))] (by decide) (Nat.le_of_ble_eq_true rfl) rfl (fun E gg hret => ?_)
  refine z_iload_n (pc := 0) 1 gg dX11_rule_0 rfl rfl ?_
  refine z_iconst (pc := 1) gg dX11_rule_1 ?_
  refine z_iconst (pc := 2) gg dX11_rule_2 ?_
  refine z_callS (pc := 3) (As := [.int (zI w), .int (zI 0), .int (zI 3)]) (st := []) gg (c_mIn M w (0 : Int) (3 : Int) (by first | assumption | omega | exact ⟨by omega, by omega⟩) (by first | assumption | omega | exact ⟨by omega, by omega⟩) (by first | assumption | omega | exact ⟨by omega, by omega⟩)) ys_11_isIn ml_X11_38 dX11_rule_3 (by decide) (Nat.le_of_ble_eq_true rfl) (Nat.le_of_ble_eq_true rfl) (Nat.le_of_ble_eq_true rfl) rfl rfl (fun z3 u3 hz3 => ?_)
  refine z_if_eq (pc := 6) 24 gg dX11_rule_6 (by decide) ⟨by omega, by omega⟩ (fun h6 => ?_) (fun h6 => ?_)
  · exfalso; omega
  · refine z_iload_n (pc := 9) 2 gg dX11_rule_9 rfl rfl ?_
    refine z_iload_n (pc := 10) 1 gg dX11_rule_10 rfl rfl ?_
    refine z_callS (pc := 11) (As := [.int (zI w)]) (st := [.int (zI v)]) gg (c_mLeast M w (by first | assumption | omega | exact ⟨by omega, by omega⟩)) ys_11_leastOf ml_X11_48 dX11_rule_11 (by decide) (Nat.le_of_ble_eq_true rfl) (Nat.le_of_ble_eq_true rfl) (Nat.le_of_ble_eq_true rfl) rfl rfl (fun z11 u11 hz11 => ?_)
    refine z_iload_n (pc := 14) 1 gg dX11_rule_14 rfl rfl ?_
    refine z_callS (pc := 15) (As := [.int (zI w)]) (st := [.int (zI z11), .int (zI v)]) gg (c_mMost M w (by first | assumption | omega | exact ⟨by omega, by omega⟩)) ys_11_mostOf ml_X11_52 dX11_rule_15 (by decide) (Nat.le_of_ble_eq_true rfl) (Nat.le_of_ble_eq_true rfl) (Nat.le_of_ble_eq_true rfl) rfl rfl (fun z15 u15 hz15 => ?_)
    refine z_callS (pc := 18) (As := [.int (zI v), .int (zI z11), .int (zI z15)]) (st := []) gg (c_mIn M v z11 z15 (by first | assumption | omega | exact ⟨by omega, by omega⟩) (by first | assumption | omega | exact ⟨by omega, by omega⟩) (by first | assumption | omega | exact ⟨by omega, by omega⟩)) ys_11_isIn ml_X11_38 dX11_rule_18 (by decide) (Nat.le_of_ble_eq_true rfl) (Nat.le_of_ble_eq_true rfl) (Nat.le_of_ble_eq_true rfl) rfl rfl (fun z18 u18 hz18 => ?_)
    refine z_if_ne (pc := 21) 26 gg dX11_rule_21 (by decide) ⟨by omega, by omega⟩ (fun h21 => ?_) (fun h21 => ?_)
    · refine z_aload_n (pc := 26) 0 gg dX11_rule_26 rfl rfl ?_
      refine z_get (pc := 27) 0 gg fl_X11_7 dX11_rule_27 rfl rfl ?_
      refine z_iconst (pc := 30) gg dX11_rule_30 ?_
      refine z_iload_n (pc := 31) 1 gg dX11_rule_31 rfl rfl ?_
      refine z_iadd (pc := 32) gg dX11_rule_32 ?_
      refine z_iload_n (pc := 33) 2 gg dX11_rule_33 rfl rfl ?_
      refine z_iast (pc := 34) 1 (5 + w.toNat) [cO 11 h [.ref a0, .ref a1, .ref a2, .ref a3, .ref a4, .ref a5, .ref a6, .ref a7, .ref a8], cI M a0 1280 (zU A (5 + w.toNat) v), cZ M a1 3 hs, cI M a2 9 ht, cI M a3 9 bf, cI M a4 9 cu, cI M a5 32 fr, cI M a6 625 wo, cI M a7 625 wy, cI M a8 625 my] gg dX11_rule_34 rfl (by omega) (by omega) (by decide) rfl ?_
      refine z_iconst (pc := 35) gg dX11_rule_35 ?_
      exact hret 1 () 36 _ _ _ (Nat.le_of_ble_eq_true rfl) (Nat.le_of_ble_eq_true rfl) dX11_rule_36 (zB01 (by omega)) (by omega)
    · exfalso; omega
set_option maxHeartbeats 4000000 in
set_option maxRecDepth 100000 in
theorem c_m_rule_no (M : KM) (h a0 a1 a2 a3 a4 a5 a6 a7 a8 : Nat) (A hs ht bf cu fr wo wy my : Nat → Int) (w v : Int) (hw : zR w) (hv : zR v) (hc : w < 0 ∨ 3 < w ∨ (w = 0 ∧ (v < 1 ∨ 30 < v)) ∨ (w = 1 ∧ (v < 0 ∨ 100 < v)) ∨ (w = 2 ∧ (v < 1 ∨ 5000 < v)) ∨ (w = 3 ∧ (v < 0 ∨ 3 < v))) : kCI M yX11_rule cX11_rule 3 .boolean 1 0 0 [cO 11 h [.ref a0, .ref a1, .ref a2, .ref a3, .ref a4, .ref a5, .ref a6, .ref a7, .ref a8], cI M a0 1280 A, cZ M a1 3 hs, cI M a2 9 ht, cI M a3 9 bf, cI M a4 9 cu, cI M a5 32 fr, cI M a6 625 wo, cI M a7 625 wy, cI M a8 625 my] [.ref h, .int (zI w), .int (zI v)] (fun z (u : Unit) => z = 0) (fun u => [cO 11 h [.ref a0, .ref a1, .ref a2, .ref a3, .ref a4, .ref a5, .ref a6, .ref a7, .ref a8], cI M a0 1280 A, cZ M a1 3 hs, cI M a2 9 ht, cI M a3 9 bf, cI M a4 9 cu, cI M a5 32 fr, cI M a6 625 wo, cI M a7 625 wy, cI M a8 625 my]) := by
  refine kCI.of [(0, .ref h), (1, .int (zI w)), (2, .int (zI v))] (by decide) (Nat.le_of_ble_eq_true rfl) rfl (fun E gg hret => ?_)
  have r1_hw := hw.1
  have r2_hw := hw.2
  have r1_hv := hv.1
  have r2_hv := hv.2
  refine z_iload_n (pc := 0) 1 gg dX11_rule_0 rfl rfl ?_
  refine z_iconst (pc := 1) gg dX11_rule_1 ?_
  refine z_iconst (pc := 2) gg dX11_rule_2 ?_
  refine z_callS (pc := 3) (As := [.int (zI w), .int (zI 0), .int (zI 3)]) (st := []) gg (c_mIn M w (0 : Int) (3 : Int) (by first | assumption | omega | exact ⟨by omega, by omega⟩) (by first | assumption | omega | exact ⟨by omega, by omega⟩) (by first | assumption | omega | exact ⟨by omega, by omega⟩)) ys_11_isIn ml_X11_38 dX11_rule_3 (by decide) (Nat.le_of_ble_eq_true rfl) (Nat.le_of_ble_eq_true rfl) (Nat.le_of_ble_eq_true rfl) rfl rfl (fun z3 u3 hz3 => ?_)
  refine z_if_eq (pc := 6) 24 gg dX11_rule_6 (by decide) ⟨by omega, by omega⟩ (fun h6 => ?_) (fun h6 => ?_)
  · refine z_iconst (pc := 24) gg dX11_rule_24 ?_
    exact hret 0 () 25 _ _ _ (Nat.le_of_ble_eq_true rfl) (Nat.le_of_ble_eq_true rfl) dX11_rule_25 (zB01 (by omega)) (by omega)
  · refine z_iload_n (pc := 9) 2 gg dX11_rule_9 rfl rfl ?_
    refine z_iload_n (pc := 10) 1 gg dX11_rule_10 rfl rfl ?_
    refine z_callS (pc := 11) (As := [.int (zI w)]) (st := [.int (zI v)]) gg (c_mLeast M w (by first | assumption | omega | exact ⟨by omega, by omega⟩)) ys_11_leastOf ml_X11_48 dX11_rule_11 (by decide) (Nat.le_of_ble_eq_true rfl) (Nat.le_of_ble_eq_true rfl) (Nat.le_of_ble_eq_true rfl) rfl rfl (fun z11 u11 hz11 => ?_)
    refine z_iload_n (pc := 14) 1 gg dX11_rule_14 rfl rfl ?_
    refine z_callS (pc := 15) (As := [.int (zI w)]) (st := [.int (zI z11), .int (zI v)]) gg (c_mMost M w (by first | assumption | omega | exact ⟨by omega, by omega⟩)) ys_11_mostOf ml_X11_52 dX11_rule_15 (by decide) (Nat.le_of_ble_eq_true rfl) (Nat.le_of_ble_eq_true rfl) (Nat.le_of_ble_eq_true rfl) rfl rfl (fun z15 u15 hz15 => ?_)
    refine z_callS (pc := 18) (As := [.int (zI v), .int (zI z11), .int (zI z15)]) (st := []) gg (c_mIn M v z11 z15 (by first | assumption | omega | exact ⟨by omega, by omega⟩) (by first | assumption | omega | exact ⟨by omega, by omega⟩) (by first | assumption | omega | exact ⟨by omega, by omega⟩)) ys_11_isIn ml_X11_38 dX11_rule_18 (by decide) (Nat.le_of_ble_eq_true rfl) (Nat.le_of_ble_eq_true rfl) (Nat.le_of_ble_eq_true rfl) rfl rfl (fun z18 u18 hz18 => ?_)
    refine z_if_ne (pc := 21) 26 gg dX11_rule_21 (by decide) ⟨by omega, by omega⟩ (fun h21 => ?_) (fun h21 => ?_)
    · exfalso; omega
    · refine z_iconst (pc := 24) gg dX11_rule_24 ?_
      exact hret 0 () 25 _ _ _ (Nat.le_of_ble_eq_true rfl) (Nat.le_of_ble_eq_true rfl) dX11_rule_25 (zB01 (by omega)) (by omega)
set_option maxHeartbeats 4000000 in
set_option maxRecDepth 100000 in
theorem c_m_glueLeft (M : KM) (h a0 a1 a2 a3 a4 a5 a6 a7 a8 : Nat) (A hs ht bf cu fr wo wy my : Nat → Int) (h1 : 0 ≤ A 1 ∧ A 1 ≤ 8) : kCI M yX11_glueLeft cX11_glueLeft 3 .int 0 0 0 [cO 11 h [.ref a0, .ref a1, .ref a2, .ref a3, .ref a4, .ref a5, .ref a6, .ref a7, .ref a8], cI M a0 1280 A, cZ M a1 3 hs, cI M a2 9 ht, cI M a3 9 bf, cI M a4 9 cu, cI M a5 32 fr, cI M a6 625 wo, cI M a7 625 wy, cI M a8 625 my] [.ref h] (fun z (u : Unit) => z = zS (lF 30 1 8 A) (A 1).toNat) (fun u => [cO 11 h [.ref a0, .ref a1, .ref a2, .ref a3, .ref a4, .ref a5, .ref a6, .ref a7, .ref a8], cI M a0 1280 A, cZ M a1 3 hs, cI M a2 9 ht, cI M a3 9 bf, cI M a4 9 cu, cI M a5 32 fr, cI M a6 625 wo, cI M a7 625 wy, cI M a8 625 my]) := by
  refine kCI.of [(0, .ref h)] (by decide) (Nat.le_of_ble_eq_true rfl) rfl (fun E gg hret => ?_)
  refine z_iconst (pc := 0) gg dX11_glueLeft_0 ?_
  refine z_istore_n (pc := 1) [(1, .int (zI 0)), (0, .ref h)] gg dX11_glueLeft_1 rfl (Nat.le_of_ble_eq_true rfl) rfl ?_
  refine z_iconst (pc := 2) gg dX11_glueLeft_2 ?_
  refine z_istore_n (pc := 3) [(2, .int (zI 0)), (1, .int (zI 0)), (0, .ref h)] gg dX11_glueLeft_3 rfl (Nat.le_of_ble_eq_true rfl) rfl ?_
  have loop4 : ∀ (k4 : Nat) (i s : Int), (0 ≤ i ∧ i ≤ A 1) → (s = zS (lF 30 1 8 A) i.toNat) → (A 1).toNat - i.toNat < k4 → kV M E 3 0 0 [cO 11 h [.ref a0, .ref a1, .ref a2, .ref a3, .ref a4, .ref a5, .ref a6, .ref a7, .ref a8], cI M a0 1280 A, cZ M a1 3 hs, cI M a2 9 ht, cI M a3 9 bf, cI M a4 9 cu, cI M a5 32 fr, cI M a6 625 wo, cI M a7 625 wy, cI M a8 625 my] [(2, .int (zI i)), (1, .int (zI s)), (0, .ref h)] 4 [] := by
    intro k4
    induction k4 with
    | zero => intro i s hi hs0 hm4; exact absurd hm4 (Nat.not_lt_zero _)
    | succ k4 ih4 =>
      intro i s hi hs0 hm4
      refine z_iload_n (pc := 4) 0 gg dX11_glueLeft_4 rfl rfl ?_
      refine z_aload_n (pc := 5) 2 gg dX11_glueLeft_5 rfl rfl ?_
      refine z_get (pc := 6) 0 gg fl_X11_7 dX11_glueLeft_6 rfl rfl ?_
      refine z_iconst (pc := 9) gg dX11_glueLeft_9 ?_
      refine z_iald (pc := 10) 1 1 gg dX11_glueLeft_10 rfl (by omega) (by omega) (by decide) ?_
      refine z_icmp_ge (pc := 11) 32 gg dX11_glueLeft_11 (by decide) ⟨by omega, by omega⟩ ⟨by omega, by omega⟩ (fun h11 => ?_) (fun h11 => ?_)
      · refine z_iload_n (pc := 32) 1 gg dX11_glueLeft_32 rfl rfl ?_
        exact hret s () 33 _ _ _ (Nat.le_of_ble_eq_true rfl) (Nat.le_of_ble_eq_true rfl) dX11_glueLeft_33 rfl (by rw [hs0]; congr 1; omega)
      · refine z_iload_n (pc := 14) 1 gg dX11_glueLeft_14 rfl rfl ?_
        refine z_aload_n (pc := 15) 2 gg dX11_glueLeft_15 rfl rfl ?_
        refine z_get (pc := 16) 0 gg fl_X11_7 dX11_glueLeft_16 rfl rfl ?_
        refine z_bipush (pc := 19) gg dX11_glueLeft_19 (by decide +kernel) ?_
        refine z_iload_n (pc := 21) 0 gg dX11_glueLeft_21 rfl rfl ?_
        refine z_iadd (pc := 22) gg dX11_glueLeft_22 ?_
        refine z_iald (pc := 23) 1 (30 + i.toNat) gg dX11_glueLeft_23 rfl (by omega) (by omega) (by decide) ?_
        refine z_iadd (pc := 24) gg dX11_glueLeft_24 ?_
        refine z_istore_n (pc := 25) [(1, .int (zI (s + (A (30 + i.toNat))))), (2, .int (zI i)), (0, .ref h)] gg dX11_glueLeft_25 rfl (Nat.le_of_ble_eq_true rfl) rfl ?_
        refine z_iinc (pc := 26) 1 [(2, .int (zI (i + 1))), (1, .int (zI (s + (A (30 + i.toNat))))), (0, .ref h)] gg dX11_glueLeft_26 rfl (Nat.le_of_ble_eq_true rfl) rfl ?_
        refine z_goto (pc := 29) 4 gg dX11_glueLeft_29 (by decide) ?_
        exact ih4 (i + 1) (s + A (30 + i.toNat)) (by omega) (by rw [zS_step (by omega), hs0, lF30 (by omega)]) (by omega)
  exact loop4 _ 0 0 (by omega) rfl (Nat.lt_succ_self _)
set_option maxHeartbeats 4000000 in
set_option maxRecDepth 100000 in
theorem c_m_takes (M : KM) (h a0 a1 a2 a3 a4 a5 a6 a7 a8 : Nat) (A hs ht bf cu fr wo wy my : Nat → Int) (q : Int) (h1 : 0 ≤ A 1 ∧ A 1 ≤ 8) (hl : ∀ j, j < 8 → 0 ≤ A (30 + j) ∧ A (30 + j) ≤ 100000) (hq : 0 ≤ q ∧ q ≤ 100000) : kCI M yX11_takes cX11_takes 6 .int 0 0 0 [cO 11 h [.ref a0, .ref a1, .ref a2, .ref a3, .ref a4, .ref a5, .ref a6, .ref a7, .ref a8], cI M a0 1280 A, cZ M a1 3 hs, cI M a2 9 ht, cI M a3 9 bf, cI M a4 9 cu, cI M a5 32 fr, cI M a6 625 wo, cI M a7 625 wy, cI M a8 625 my] [.ref h, .int (zI q)] (fun z (u : Unit) => z = dB (lF 30 1 8 A) q (A 1).toNat) (fun u => [cO 11 h [.ref a0, .ref a1, .ref a2, .ref a3, .ref a4, .ref a5, .ref a6, .ref a7, .ref a8], cI M a0 1280 (tkA A q (A 1).toNat), cZ M a1 3 hs, cI M a2 9 ht, cI M a3 9 bf, cI M a4 9 cu, cI M a5 32 fr, cI M a6 625 wo, cI M a7 625 wy, cI M a8 625 my]) := by
  refine kCI.of [(0, .ref h), (1, .int (zI q))] (by decide) (Nat.le_of_ble_eq_true rfl) rfl (fun E gg hret => ?_)
  refine z_iconst (pc := 0) gg dX11_takes_0 ?_
  refine z_istore_n (pc := 1) [(2, .int (zI 0)), (0, .ref h), (1, .int (zI q))] gg dX11_takes_1 rfl (Nat.le_of_ble_eq_true rfl) rfl ?_
  refine z_iload_n (pc := 2) 2 gg dX11_takes_2 rfl rfl ?_
  refine z_istore_n (pc := 3) [(3, .int (zI q)), (2, .int (zI 0)), (0, .ref h), (1, .int (zI q))] gg dX11_takes_3 rfl (Nat.le_of_ble_eq_true rfl) rfl ?_
  refine z_iconst (pc := 4) gg dX11_takes_4 ?_
  refine z_istore (pc := 5) [(4, .int (zI 0)), (3, .int (zI q)), (2, .int (zI 0)), (0, .ref h), (1, .int (zI q))] gg dX11_takes_5 (Nat.le_of_ble_eq_true rfl) rfl ?_
  have loop7 : ∀ (k7 : Nat) (i o b : Int) (f : Nat → Int), (0 ≤ i ∧ i ≤ A 1) → (o = dL (lF 30 1 8 A) q i.toNat) → (b = dB (lF 30 1 8 A) q i.toNat) → (f = tkA A q i.toNat) → (A 1).toNat - i.toNat < k7 → kV M E 6 0 0 [cO 11 h [.ref a0, .ref a1, .ref a2, .ref a3, .ref a4, .ref a5, .ref a6, .ref a7, .ref a8], cI M a0 1280 f, cZ M a1 3 hs, cI M a2 9 ht, cI M a3 9 bf, cI M a4 9 cu, cI M a5 32 fr, cI M a6 625 wo, cI M a7 625 wy, cI M a8 625 my] [(4, .int (zI i)), (3, .int (zI o)), (2, .int (zI b)), (0, .ref h), (1, .int (zI q))] 7 [] := by
    intro k7
    induction k7 with
    | zero => intro i o b f hi ho hb hg hm7; exact absurd hm7 (Nat.not_lt_zero _)
    | succ k7 ih7 =>
      intro i o b f hi ho hb hg hm7
      have f1 : f 1 = A 1 := by rw [hg, tkA_out (by omega) (by omega)]
      have fi : f (30 + i.toNat) = A (30 + i.toNat) := by rw [hg, tkA_at]
      have e0 := dL_nn (f := (lF 30 1 8 A)) (q := q) hq.1 (n := i.toNat) (fun j hj => by rw [lF30 (by omega)]; exact (hl j (by omega)).1)
      rw [← ho] at e0
      have eR := dB_R (lF 30 1 8 A) q i.toNat
      rw [← hb] at eR
      refine z_iload (pc := 7) 0 gg dX11_takes_7 rfl ?_
      refine z_aload_n (pc := 9) 3 gg dX11_takes_9 rfl rfl ?_
      refine z_get (pc := 10) 0 gg fl_X11_7 dX11_takes_10 rfl rfl ?_
      refine z_iconst (pc := 13) gg dX11_takes_13 ?_
      refine z_iald (pc := 14) 1 1 gg dX11_takes_14 rfl (by omega) (by omega) (by decide) ?_
      rw [f1]
      refine z_icmp_ge (pc := 15) 86 gg dX11_takes_15 (by decide) ⟨by omega, by omega⟩ ⟨by omega, by omega⟩ (fun h15 => ?_) (fun h15 => ?_)
      · refine z_iload_n (pc := 86) 2 gg dX11_takes_86 rfl rfl ?_
        have en : i.toNat = (A 1).toNat := by omega
        rw [en] at hg
        subst hg
        exact hret b () 87 _ _ _ (Nat.le_of_ble_eq_true rfl) (Nat.le_of_ble_eq_true rfl) dX11_takes_87 rfl (by rw [hb, en])
      · refine z_iload_n (pc := 18) 1 gg dX11_takes_18 rfl rfl ?_
        refine z_aload_n (pc := 19) 3 gg dX11_takes_19 rfl rfl ?_
        refine z_get (pc := 20) 0 gg fl_X11_7 dX11_takes_20 rfl rfl ?_
        refine z_bipush (pc := 23) gg dX11_takes_23 (by decide +kernel) ?_
        refine z_iload (pc := 25) 0 gg dX11_takes_25 rfl ?_
        refine z_iadd (pc := 27) gg dX11_takes_27 ?_
        refine z_iald (pc := 28) 1 (30 + i.toNat) gg dX11_takes_28 rfl (by omega) (by omega) (by decide) ?_
        have hli := hl i.toNat (by omega)
        rw [← fi] at hli
        refine z_icmp_ge (pc := 29) 36 gg dX11_takes_29 (by decide) ⟨by omega, by omega⟩ ⟨by omega, by omega⟩ (fun h29 => ?_) (fun h29 => ?_)
        · refine z_aload_n (pc := 36) 3 gg dX11_takes_36 rfl rfl ?_
          refine z_get (pc := 37) 0 gg fl_X11_7 dX11_takes_37 rfl rfl ?_
          refine z_bipush (pc := 40) gg dX11_takes_40 (by decide +kernel) ?_
          refine z_iload (pc := 42) 0 gg dX11_takes_42 rfl ?_
          refine z_iadd (pc := 44) gg dX11_takes_44 ?_
          refine z_iald (pc := 45) 1 (30 + i.toNat) gg dX11_takes_45 rfl (by omega) (by omega) (by decide) ?_
          refine z_istore (pc := 46) [(5, .int (zI (f (30 + i.toNat)))), (4, .int (zI i)), (3, .int (zI o)), (2, .int (zI b)), (0, .ref h), (1, .int (zI q))] gg dX11_takes_46 (Nat.le_of_ble_eq_true rfl) rfl ?_
          refine z_aload_n (pc := 48) 4 gg dX11_takes_48 rfl rfl ?_
          refine z_get (pc := 49) 0 gg fl_X11_7 dX11_takes_49 rfl rfl ?_
          refine z_bipush (pc := 52) gg dX11_takes_52 (by decide +kernel) ?_
          refine z_iload (pc := 54) 1 gg dX11_takes_54 rfl ?_
          refine z_iadd (pc := 56) gg dX11_takes_56 ?_
          refine z_dup2 (pc := 57) gg dX11_takes_57 rfl rfl ?_
          refine z_iald (pc := 58) 1 (30 + i.toNat) gg dX11_takes_58 rfl (by omega) (by omega) (by decide) ?_
          refine z_iload (pc := 59) 0 gg dX11_takes_59 rfl ?_
          refine z_isub (pc := 61) gg dX11_takes_61 ?_
          refine z_iast (pc := 62) 1 (30 + i.toNat) [cO 11 h [.ref a0, .ref a1, .ref a2, .ref a3, .ref a4, .ref a5, .ref a6, .ref a7, .ref a8], cI M a0 1280 (zU f (30 + i.toNat) ((f (30 + i.toNat)) - (f (30 + i.toNat)))), cZ M a1 3 hs, cI M a2 9 ht, cI M a3 9 bf, cI M a4 9 cu, cI M a5 32 fr, cI M a6 625 wo, cI M a7 625 wy, cI M a8 625 my] gg dX11_takes_62 rfl (by omega) (by omega) (by decide) rfl ?_
          refine z_iload_n (pc := 63) 2 gg dX11_takes_63 rfl rfl ?_
          refine z_iload (pc := 64) 0 gg dX11_takes_64 rfl ?_
          refine z_isub (pc := 66) gg dX11_takes_66 ?_
          refine z_istore_n (pc := 67) [(3, .int (zI (o - (f (30 + i.toNat))))), (5, .int (zI (f (30 + i.toNat)))), (4, .int (zI i)), (2, .int (zI b)), (0, .ref h), (1, .int (zI q))] gg dX11_takes_67 rfl (Nat.le_of_ble_eq_true rfl) rfl ?_
          refine z_iload (pc := 68) 1 gg dX11_takes_68 rfl ?_
          refine z_if_le (pc := 70) 80 gg dX11_takes_70 (by decide) ⟨by omega, by omega⟩ (fun h70 => ?_) (fun h70 => ?_)
          · refine z_iinc (pc := 80) 2 [(4, .int (zI (i + 1))), (3, .int (zI (o - (f (30 + i.toNat))))), (5, .int (zI (f (30 + i.toNat)))), (2, .int (zI b)), (0, .ref h), (1, .int (zI q))] gg dX11_takes_80 rfl (Nat.le_of_ble_eq_true rfl) rfl ?_
            refine z_goto (pc := 83) 7 gg dX11_takes_83 (by decide) ?_
            refine z_lv [(4, .int (zI (i + 1))), (3, .int (zI (o - (f (30 + i.toNat))))), (2, .int (zI b)), (0, .ref h), (1, .int (zI q))] [0, 1, 3, 4, 5] rfl ?_
            have edv : dV (lF 30 1 8 A) q i.toNat = A (30 + i.toNat) := by
              rw [dV_ge ho (by rw [lF30 (by omega)]; omega), lF30 (by omega)]
            exact ih7 (i + 1) (o - (f (30 + i.toNat))) b (zU f (30 + i.toNat) ((f (30 + i.toNat)) - (f (30 + i.toNat)))) (by omega) (by rw [dL_step (by omega), edv, ← ho, fi]) (by rw [dB_step (by omega), edv, ← hb, if_neg (by omega)]) (by rw [show (i + 1).toNat = i.toNat + 1 by omega, ← tkA_s, edv, ← hg, fi]) (by omega)
          · refine z_iload_n (pc := 73) 3 gg dX11_takes_73 rfl rfl ?_
            refine z_iconst (pc := 74) gg dX11_takes_74 ?_
            refine z_iload (pc := 75) 2 gg dX11_takes_75 rfl ?_
            refine z_ishl (pc := 77) gg dX11_takes_77 ?_
            refine z_ior (pc := 78) gg dX11_takes_78 ?_
            refine z_istore_n (pc := 79) [(2, .int (zI (zOr b (zShl 1 i)))), (3, .int (zI (o - (f (30 + i.toNat))))), (5, .int (zI (f (30 + i.toNat)))), (4, .int (zI i)), (0, .ref h), (1, .int (zI q))] gg dX11_takes_79 rfl (Nat.le_of_ble_eq_true rfl) rfl ?_
            refine z_iinc (pc := 80) 3 [(4, .int (zI (i + 1))), (2, .int (zI (zOr b (zShl 1 i)))), (3, .int (zI (o - (f (30 + i.toNat))))), (5, .int (zI (f (30 + i.toNat)))), (0, .ref h), (1, .int (zI q))] gg dX11_takes_80 rfl (Nat.le_of_ble_eq_true rfl) rfl ?_
            refine z_goto (pc := 83) 7 gg dX11_takes_83 (by decide) ?_
            refine z_lv [(4, .int (zI (i + 1))), (3, .int (zI (o - (f (30 + i.toNat))))), (2, .int (zI (zOr b (zShl 1 i)))), (0, .ref h), (1, .int (zI q))] [0, 2, 1, 4, 5] rfl ?_
            have edv : dV (lF 30 1 8 A) q i.toNat = A (30 + i.toNat) := by
              rw [dV_ge ho (by rw [lF30 (by omega)]; omega), lF30 (by omega)]
            exact ih7 (i + 1) (o - (f (30 + i.toNat))) (zOr b (zShl 1 i)) (zU f (30 + i.toNat) ((f (30 + i.toNat)) - (f (30 + i.toNat)))) (by omega) (by rw [dL_step (by omega), edv, ← ho, fi]) (by rw [dB_step (by omega), edv, ← hb, if_pos (by omega)]) (by rw [show (i + 1).toNat = i.toNat + 1 by omega, ← tkA_s, edv, ← hg, fi]) (by omega)
        · refine z_iload_n (pc := 32) 1 gg dX11_takes_32 rfl rfl ?_
          refine z_goto (pc := 33) 46 gg dX11_takes_33 (by decide) ?_
          refine z_istore (pc := 46) [(5, .int (zI o)), (4, .int (zI i)), (3, .int (zI o)), (2, .int (zI b)), (0, .ref h), (1, .int (zI q))] gg dX11_takes_46 (Nat.le_of_ble_eq_true rfl) rfl ?_
          refine z_aload_n (pc := 48) 4 gg dX11_takes_48 rfl rfl ?_
          refine z_get (pc := 49) 0 gg fl_X11_7 dX11_takes_49 rfl rfl ?_
          refine z_bipush (pc := 52) gg dX11_takes_52 (by decide +kernel) ?_
          refine z_iload (pc := 54) 1 gg dX11_takes_54 rfl ?_
          refine z_iadd (pc := 56) gg dX11_takes_56 ?_
          refine z_dup2 (pc := 57) gg dX11_takes_57 rfl rfl ?_
          refine z_iald (pc := 58) 1 (30 + i.toNat) gg dX11_takes_58 rfl (by omega) (by omega) (by decide) ?_
          refine z_iload (pc := 59) 0 gg dX11_takes_59 rfl ?_
          refine z_isub (pc := 61) gg dX11_takes_61 ?_
          refine z_iast (pc := 62) 1 (30 + i.toNat) [cO 11 h [.ref a0, .ref a1, .ref a2, .ref a3, .ref a4, .ref a5, .ref a6, .ref a7, .ref a8], cI M a0 1280 (zU f (30 + i.toNat) ((f (30 + i.toNat)) - o)), cZ M a1 3 hs, cI M a2 9 ht, cI M a3 9 bf, cI M a4 9 cu, cI M a5 32 fr, cI M a6 625 wo, cI M a7 625 wy, cI M a8 625 my] gg dX11_takes_62 rfl (by omega) (by omega) (by decide) rfl ?_
          refine z_iload_n (pc := 63) 2 gg dX11_takes_63 rfl rfl ?_
          refine z_iload (pc := 64) 0 gg dX11_takes_64 rfl ?_
          refine z_isub (pc := 66) gg dX11_takes_66 ?_
          refine z_istore_n (pc := 67) [(3, .int (zI (o - o))), (5, .int (zI o)), (4, .int (zI i)), (2, .int (zI b)), (0, .ref h), (1, .int (zI q))] gg dX11_takes_67 rfl (Nat.le_of_ble_eq_true rfl) rfl ?_
          refine z_iload (pc := 68) 1 gg dX11_takes_68 rfl ?_
          refine z_if_le (pc := 70) 80 gg dX11_takes_70 (by decide) ⟨by omega, by omega⟩ (fun h70 => ?_) (fun h70 => ?_)
          · refine z_iinc (pc := 80) 2 [(4, .int (zI (i + 1))), (3, .int (zI (o - o))), (5, .int (zI o)), (2, .int (zI b)), (0, .ref h), (1, .int (zI q))] gg dX11_takes_80 rfl (Nat.le_of_ble_eq_true rfl) rfl ?_
            refine z_goto (pc := 83) 7 gg dX11_takes_83 (by decide) ?_
            refine z_lv [(4, .int (zI (i + 1))), (3, .int (zI (o - o))), (2, .int (zI b)), (0, .ref h), (1, .int (zI q))] [0, 1, 3, 4, 5] rfl ?_
            have edv : dV (lF 30 1 8 A) q i.toNat = o := by
              exact dV_lt ho (by rw [lF30 (by omega)]; omega)
            exact ih7 (i + 1) (o - o) b (zU f (30 + i.toNat) ((f (30 + i.toNat)) - o)) (by omega) (by rw [dL_step (by omega), edv, ← ho]) (by rw [dB_step (by omega), edv, ← hb, if_neg (by omega)]) (by rw [show (i + 1).toNat = i.toNat + 1 by omega, ← tkA_s, edv, ← hg, fi]) (by omega)
          · refine z_iload_n (pc := 73) 3 gg dX11_takes_73 rfl rfl ?_
            refine z_iconst (pc := 74) gg dX11_takes_74 ?_
            refine z_iload (pc := 75) 2 gg dX11_takes_75 rfl ?_
            refine z_ishl (pc := 77) gg dX11_takes_77 ?_
            refine z_ior (pc := 78) gg dX11_takes_78 ?_
            refine z_istore_n (pc := 79) [(2, .int (zI (zOr b (zShl 1 i)))), (3, .int (zI (o - o))), (5, .int (zI o)), (4, .int (zI i)), (0, .ref h), (1, .int (zI q))] gg dX11_takes_79 rfl (Nat.le_of_ble_eq_true rfl) rfl ?_
            refine z_iinc (pc := 80) 3 [(4, .int (zI (i + 1))), (2, .int (zI (zOr b (zShl 1 i)))), (3, .int (zI (o - o))), (5, .int (zI o)), (0, .ref h), (1, .int (zI q))] gg dX11_takes_80 rfl (Nat.le_of_ble_eq_true rfl) rfl ?_
            refine z_goto (pc := 83) 7 gg dX11_takes_83 (by decide) ?_
            refine z_lv [(4, .int (zI (i + 1))), (3, .int (zI (o - o))), (2, .int (zI (zOr b (zShl 1 i)))), (0, .ref h), (1, .int (zI q))] [0, 2, 1, 4, 5] rfl ?_
            have edv : dV (lF 30 1 8 A) q i.toNat = o := by
              exact dV_lt ho (by rw [lF30 (by omega)]; omega)
            exact ih7 (i + 1) (o - o) (zOr b (zShl 1 i)) (zU f (30 + i.toNat) ((f (30 + i.toNat)) - o)) (by omega) (by rw [dL_step (by omega), edv, ← ho]) (by rw [dB_step (by omega), edv, ← hb, if_pos (by omega)]) (by rw [show (i + 1).toNat = i.toNat + 1 by omega, ← tkA_s, edv, ← hg, fi]) (by omega)
  exact loop7 _ 0 q 0 A (by omega) rfl rfl (tkA_0 A q).symm (Nat.lt_succ_self _)
set_option maxHeartbeats 4000000 in
set_option maxRecDepth 100000 in
theorem c_m_mat (M : KM) (h a0 a1 a2 a3 a4 a5 a6 a7 a8 : Nat) (A hs ht bf cu fr wo wy my : Nat → Int) (x w : Int) (h2 : 0 ≤ A 2 ∧ A 2 ≤ 24) (hx : zR x) (hw : zR w) : kCI M yX11_mat cX11_mat 3 .int 2 0 0 [cO 11 h [.ref a0, .ref a1, .ref a2, .ref a3, .ref a4, .ref a5, .ref a6, .ref a7, .ref a8], cI M a0 1280 A, cZ M a1 3 hs, cI M a2 9 ht, cI M a3 9 bf, cI M a4 9 cu, cI M a5 32 fr, cI M a6 625 wo, cI M a7 625 wy, cI M a8 625 my] [.ref h, .int (zI x), .int (zI w)] (fun z (u : Unit) => (0 ≤ x ∧ x < A 2 ∧ 0 ≤ w ∧ w < 8 ∧ z = A ((50 + (8 * x.toNat)) + w.toNat)) ∨ ((x < 0 ∨ A 2 ≤ x ∨ w < 0 ∨ 8 ≤ w) ∧ z = -1)) (fun u => [cO 11 h [.ref a0, .ref a1, .ref a2, .ref a3, .ref a4, .ref a5, .ref a6, .ref a7, .ref a8], cI M a0 1280 A, cZ M a1 3 hs, cI M a2 9 ht, cI M a3 9 bf, cI M a4 9 cu, cI M a5 32 fr, cI M a6 625 wo, cI M a7 625 wy, cI M a8 625 my]) := by
  refine kCI.of [(0, .ref h), (1, .int (zI x)), (2, .int (zI w))] (by decide) (Nat.le_of_ble_eq_true rfl) rfl (fun E gg hret => ?_)
  have r1_hx := hx.1
  have r2_hx := hx.2
  have r1_hw := hw.1
  have r2_hw := hw.2
  refine z_aload_n (pc := 0) 0 gg dX11_mat_0 rfl rfl ?_
  refine z_iload_n (pc := 1) 1 gg dX11_mat_1 rfl rfl ?_
  refine z_iconst (pc := 2) gg dX11_mat_2 ?_
  refine z_callWi (pc := 3) (As := [.int (zI x), .int (zI 2)]) (st := []) gg (c_mOf M h a0 a1 a2 a3 a4 a5 a6 a7 a8 A hs ht bf cu fr wo wy my x 2 (by first | assumption | omega | exact ⟨by omega, by omega⟩) (by first | assumption | omega | exact ⟨by omega, by omega⟩) (by first | assumption | omega | exact ⟨by omega, by omega⟩)) yv_11_isOf ml_X11_42 dX11_mat_3 (by decide) (Nat.le_of_ble_eq_true rfl) (Nat.le_of_ble_eq_true rfl) (Nat.le_of_ble_eq_true rfl) rfl rfl rfl (fun z3 u3 hz3 => ?_)
  refine z_if_eq (pc := 6) 36 gg dX11_mat_6 (by decide) ⟨by omega, by omega⟩ (fun h6 => ?_) (fun h6 => ?_)
  · refine z_iconst (pc := 36) gg dX11_mat_36 ?_
    exact hret (-1) () 37 _ _ _ (Nat.le_of_ble_eq_true rfl) (Nat.le_of_ble_eq_true rfl) dX11_mat_37 rfl (by omega)
  · refine z_iload_n (pc := 9) 2 gg dX11_mat_9 rfl rfl ?_
    refine z_iconst (pc := 10) gg dX11_mat_10 ?_
    refine z_bipush (pc := 11) gg dX11_mat_11 (by decide +kernel) ?_
    refine z_callS (pc := 13) (As := [.int (zI w), .int (zI 0), .int (zI 7)]) (st := []) gg (c_mIn M w (0 : Int) (7 : Int) (by first | assumption | omega | exact ⟨by omega, by omega⟩) (by first | assumption | omega | exact ⟨by omega, by omega⟩) (by first | assumption | omega | exact ⟨by omega, by omega⟩)) ys_11_isIn ml_X11_38 dX11_mat_13 (by decide) (Nat.le_of_ble_eq_true rfl) (Nat.le_of_ble_eq_true rfl) (Nat.le_of_ble_eq_true rfl) rfl rfl (fun z13 u13 hz13 => ?_)
    refine z_if_eq (pc := 16) 36 gg dX11_mat_16 (by decide) ⟨by omega, by omega⟩ (fun h16 => ?_) (fun h16 => ?_)
    · refine z_iconst (pc := 36) gg dX11_mat_36 ?_
      exact hret (-1) () 37 _ _ _ (Nat.le_of_ble_eq_true rfl) (Nat.le_of_ble_eq_true rfl) dX11_mat_37 rfl (by omega)
    · refine z_aload_n (pc := 19) 0 gg dX11_mat_19 rfl rfl ?_
      refine z_get (pc := 20) 0 gg fl_X11_7 dX11_mat_20 rfl rfl ?_
      refine z_bipush (pc := 23) gg dX11_mat_23 (by decide +kernel) ?_
      refine z_bipush (pc := 25) gg dX11_mat_25 (by decide +kernel) ?_
      refine z_iload_n (pc := 27) 1 gg dX11_mat_27 rfl rfl ?_
      refine z_imul (pc := 28) gg dX11_mat_28 ?_
      refine z_iadd (pc := 29) gg dX11_mat_29 ?_
      refine z_iload_n (pc := 30) 2 gg dX11_mat_30 rfl rfl ?_
      refine z_iadd (pc := 31) gg dX11_mat_31 ?_
      refine z_iald (pc := 32) 1 ((50 + (8 * x.toNat)) + w.toNat) gg dX11_mat_32 rfl (by omega) (by omega) (by decide) ?_
      refine z_goto (pc := 33) 37 gg dX11_mat_33 (by decide) ?_
      exact hret (A ((50 + (8 * x.toNat)) + w.toNat)) () 37 _ _ _ (Nat.le_of_ble_eq_true rfl) (Nat.le_of_ble_eq_true rfl) dX11_mat_37 rfl (by omega)
set_option maxHeartbeats 4000000 in
set_option maxRecDepth 100000 in
theorem c_m_recall (M : KM) (h a0 a1 a2 a3 a4 a5 a6 a7 a8 : Nat) (A hs ht bf cu fr wo wy my : Nat → Int) (x : Int) (h1 : 0 ≤ A 1 ∧ A 1 ≤ 8) (h2 : 0 ≤ A 2 ∧ A 2 ≤ 24) (hx : zR x) : kCI M yX11_recall cX11_recall 4 .int 2 0 0 [cO 11 h [.ref a0, .ref a1, .ref a2, .ref a3, .ref a4, .ref a5, .ref a6, .ref a7, .ref a8], cI M a0 1280 A, cZ M a1 3 hs, cI M a2 9 ht, cI M a3 9 bf, cI M a4 9 cu, cI M a5 32 fr, cI M a6 625 wo, cI M a7 625 wy, cI M a8 625 my] [.ref h, .int (zI x)] (fun z (u : Unit) => (0 ≤ x ∧ x < A 1 ∧ z = rB (lF 50 1 192 A) x (A 2).toNat) ∨ ((x < 0 ∨ A 1 ≤ x) ∧ z = -1)) (fun u => [cO 11 h [.ref a0, .ref a1, .ref a2, .ref a3, .ref a4, .ref a5, .ref a6, .ref a7, .ref a8], cI M a0 1280 A, cZ M a1 3 hs, cI M a2 9 ht, cI M a3 9 bf, cI M a4 9 cu, cI M a5 32 fr, cI M a6 625 wo, cI M a7 625 wy, cI M a8 625 my]) := by
  refine kCI.of [(0, .ref h), (1, .int (zI x))] (by decide) (Nat.le_of_ble_eq_true rfl) rfl (fun E gg hret => ?_)
  have r1_hx := hx.1
  have r2_hx := hx.2
  refine z_aload_n (pc := 0) 0 gg dX11_recall_0 rfl rfl ?_
  refine z_iload_n (pc := 1) 1 gg dX11_recall_1 rfl rfl ?_
  refine z_iconst (pc := 2) gg dX11_recall_2 ?_
  refine z_callWi (pc := 3) (As := [.int (zI x), .int (zI 1)]) (st := []) gg (c_mOf M h a0 a1 a2 a3 a4 a5 a6 a7 a8 A hs ht bf cu fr wo wy my x 1 (by first | assumption | omega | exact ⟨by omega, by omega⟩) (by first | assumption | omega | exact ⟨by omega, by omega⟩) (by first | assumption | omega | exact ⟨by omega, by omega⟩)) yv_11_isOf ml_X11_42 dX11_recall_3 (by decide) (Nat.le_of_ble_eq_true rfl) (Nat.le_of_ble_eq_true rfl) (Nat.le_of_ble_eq_true rfl) rfl rfl rfl (fun z3 u3 hz3 => ?_)
  refine z_if_ne (pc := 6) 11 gg dX11_recall_6 (by decide) ⟨by omega, by omega⟩ (fun h6 => ?_) (fun h6 => ?_)
  · refine z_iconst (pc := 11) gg dX11_recall_11 ?_
    refine z_istore_n (pc := 12) [(2, .int (zI 0)), (0, .ref h), (1, .int (zI x))] gg dX11_recall_12 rfl (Nat.le_of_ble_eq_true rfl) rfl ?_
    refine z_iconst (pc := 13) gg dX11_recall_13 ?_
    refine z_istore_n (pc := 14) [(3, .int (zI 0)), (2, .int (zI 0)), (0, .ref h), (1, .int (zI x))] gg dX11_recall_14 rfl (Nat.le_of_ble_eq_true rfl) rfl ?_
    have loop15 : ∀ (k15 : Nat) (i b : Int), (0 ≤ i ∧ i ≤ A 2) → (b = rB (lF 50 1 192 A) x i.toNat) → (A 2).toNat - i.toNat < k15 → kV M E 4 0 0 [cO 11 h [.ref a0, .ref a1, .ref a2, .ref a3, .ref a4, .ref a5, .ref a6, .ref a7, .ref a8], cI M a0 1280 A, cZ M a1 3 hs, cI M a2 9 ht, cI M a3 9 bf, cI M a4 9 cu, cI M a5 32 fr, cI M a6 625 wo, cI M a7 625 wy, cI M a8 625 my] [(3, .int (zI i)), (2, .int (zI b)), (0, .ref h), (1, .int (zI x))] 15 [] := by
      intro k15
      induction k15 with
      | zero => intro i b hi hb hm15; exact absurd hm15 (Nat.not_lt_zero _)
      | succ k15 ih15 =>
        intro i b hi hb hm15
        refine z_iload_n (pc := 15) 0 gg dX11_recall_15 rfl rfl ?_
        refine z_aload_n (pc := 16) 2 gg dX11_recall_16 rfl rfl ?_
        refine z_get (pc := 17) 0 gg fl_X11_7 dX11_recall_17 rfl rfl ?_
        refine z_iconst (pc := 20) gg dX11_recall_20 ?_
        refine z_iald (pc := 21) 1 2 gg dX11_recall_21 rfl (by omega) (by omega) (by decide) ?_
        refine z_icmp_ge (pc := 22) 55 gg dX11_recall_22 (by decide) ⟨by omega, by omega⟩ ⟨by omega, by omega⟩ (fun h22 => ?_) (fun h22 => ?_)
        · refine z_iload_n (pc := 55) 1 gg dX11_recall_55 rfl rfl ?_
          exact hret b () 56 _ _ _ (Nat.le_of_ble_eq_true rfl) (Nat.le_of_ble_eq_true rfl) dX11_recall_56 rfl (Or.inl ⟨by omega, by omega, by rw [hb]; congr 1; omega⟩)
        · refine z_iload_n (pc := 25) 1 gg dX11_recall_25 rfl rfl ?_
          refine z_aload_n (pc := 26) 2 gg dX11_recall_26 rfl rfl ?_
          refine z_get (pc := 27) 0 gg fl_X11_7 dX11_recall_27 rfl rfl ?_
          refine z_bipush (pc := 30) gg dX11_recall_30 (by decide +kernel) ?_
          refine z_bipush (pc := 32) gg dX11_recall_32 (by decide +kernel) ?_
          refine z_iload_n (pc := 34) 0 gg dX11_recall_34 rfl rfl ?_
          refine z_imul (pc := 35) gg dX11_recall_35 ?_
          refine z_iadd (pc := 36) gg dX11_recall_36 ?_
          refine z_bipush (pc := 37) gg dX11_recall_37 (by decide +kernel) ?_
          refine z_iadd (pc := 39) gg dX11_recall_39 ?_
          refine z_iald (pc := 40) 1 ((50 + (8 * i.toNat)) + 6) gg dX11_recall_40 rfl (by omega) (by omega) (by decide) ?_
          refine z_iload_n (pc := 41) 3 gg dX11_recall_41 rfl rfl ?_
          refine z_ishr (pc := 42) gg dX11_recall_42 ?_
          refine z_iconst (pc := 43) gg dX11_recall_43 ?_
          refine z_iand (pc := 44) gg dX11_recall_44 ?_
          refine z_iload_n (pc := 45) 0 gg dX11_recall_45 rfl rfl ?_
          refine z_ishl (pc := 46) gg dX11_recall_46 ?_
          refine z_ior (pc := 47) gg dX11_recall_47 ?_
          refine z_istore_n (pc := 48) [(2, .int (zI (zOr b (zShl (zAnd (zShr (A ((50 + (8 * i.toNat)) + 6)) x) 1) i)))), (3, .int (zI i)), (0, .ref h), (1, .int (zI x))] gg dX11_recall_48 rfl (Nat.le_of_ble_eq_true rfl) rfl ?_
          refine z_iinc (pc := 49) 1 [(3, .int (zI (i + 1))), (2, .int (zI (zOr b (zShl (zAnd (zShr (A ((50 + (8 * i.toNat)) + 6)) x) 1) i)))), (0, .ref h), (1, .int (zI x))] gg dX11_recall_49 rfl (Nat.le_of_ble_eq_true rfl) rfl ?_
          refine z_goto (pc := 52) 15 gg dX11_recall_52 (by decide) ?_
          exact ih15 (i + 1) (zOr b (zShl (zAnd (zShr (A ((50 + (8 * i.toNat)) + 6)) x) 1) i)) (by omega) (by
          have e := rB_or (lF 50 1 192 A) x i.toNat
          rw [← hb, lF50 (by omega) (by omega), show ((i.toNat : Nat) : Int) = i by omega] at e
          rw [e, show (i + 1).toNat = i.toNat + 1 by omega]) (by omega)
    exact loop15 _ 0 0 (by omega) rfl (Nat.lt_succ_self _)
  · refine z_iconst (pc := 9) gg dX11_recall_9 ?_
    exact hret (-1) () 10 _ _ _ (Nat.le_of_ble_eq_true rfl) (Nat.le_of_ble_eq_true rfl) dX11_recall_10 rfl (by omega)
set_option maxHeartbeats 4000000 in
set_option maxRecDepth 100000 in
theorem c_m_link_ok (M : KM) (h a0 a1 a2 a3 a4 a5 a6 a7 a8 : Nat) (A hs ht bf cu fr wo wy my : Nat → Int) (x e y : Int) (hs0 : 0 ≤ x ∧ x < 8) (he : 0 ≤ e ∧ e < 4) (ht0 : 0 ≤ y ∧ y < 8) : kCI M yX11_link cX11_link 4 .boolean 1 0 0 [cO 11 h [.ref a0, .ref a1, .ref a2, .ref a3, .ref a4, .ref a5, .ref a6, .ref a7, .ref a8], cI M a0 1280 A, cZ M a1 3 hs, cI M a2 9 ht, cI M a3 9 bf, cI M a4 9 cu, cI M a5 32 fr, cI M a6 625 wo, cI M a7 625 wy, cI M a8 625 my] [.ref h, .int (zI x), .int (zI e), .int (zI y)] (fun z (u : Unit) => z = 1) (fun u => [cO 11 h [.ref a0, .ref a1, .ref a2, .ref a3, .ref a4, .ref a5, .ref a6, .ref a7, .ref a8], cI M a0 1280 (zU A ((250 + (6 * x.toNat)) + e.toNat) y), cZ M a1 3 hs, cI M a2 9 ht, cI M a3 9 bf, cI M a4 9 cu, cI M a5 32 fr, cI M a6 625 wo, cI M a7 625 wy, cI M a8 625 my]) := by
  refine kCI.of [(0, .ref h), (1, .int (zI x)), (2, .int (zI e)), (3, .int (zI y))] (by decide) (Nat.le_of_ble_eq_true rfl) rfl (fun E gg hret => ?_)
  refine z_iload_n (pc := 0) 1 gg dX11_link_0 rfl rfl ?_
  refine z_iconst (pc := 1) gg dX11_link_1 ?_
  refine z_bipush (pc := 2) gg dX11_link_2 (by decide +kernel) ?_
  refine z_callS (pc := 4) (As := [.int (zI x), .int (zI 0), .int (zI 7)]) (st := []) gg (c_mIn M x (0 : Int) (7 : Int) (by first | assumption | omega | exact ⟨by omega, by omega⟩) (by first | assumption | omega | exact ⟨by omega, by omega⟩) (by first | assumption | omega | exact ⟨by omega, by omega⟩)) ys_11_isIn ml_X11_38 dX11_link_4 (by decide) (Nat.le_of_ble_eq_true rfl) (Nat.le_of_ble_eq_true rfl) (Nat.le_of_ble_eq_true rfl) rfl rfl (fun z4 u4 hz4 => ?_)
  refine z_if_eq (pc := 7) 29 gg dX11_link_7 (by decide) ⟨by omega, by omega⟩ (fun h7 => ?_) (fun h7 => ?_)
  · exfalso; omega
  · refine z_iload_n (pc := 10) 2 gg dX11_link_10 rfl rfl ?_
    refine z_iconst (pc := 11) gg dX11_link_11 ?_
    refine z_iconst (pc := 12) gg dX11_link_12 ?_
    refine z_callS (pc := 13) (As := [.int (zI e), .int (zI 0), .int (zI 3)]) (st := []) gg (c_mIn M e (0 : Int) (3 : Int) (by first | assumption | omega | exact ⟨by omega, by omega⟩) (by first | assumption | omega | exact ⟨by omega, by omega⟩) (by first | assumption | omega | exact ⟨by omega, by omega⟩)) ys_11_isIn ml_X11_38 dX11_link_13 (by decide) (Nat.le_of_ble_eq_true rfl) (Nat.le_of_ble_eq_true rfl) (Nat.le_of_ble_eq_true rfl) rfl rfl (fun z13 u13 hz13 => ?_)
    refine z_if_eq (pc := 16) 29 gg dX11_link_16 (by decide) ⟨by omega, by omega⟩ (fun h16 => ?_) (fun h16 => ?_)
    · exfalso; omega
    · refine z_iload_n (pc := 19) 3 gg dX11_link_19 rfl rfl ?_
      refine z_iconst (pc := 20) gg dX11_link_20 ?_
      refine z_bipush (pc := 21) gg dX11_link_21 (by decide +kernel) ?_
      refine z_callS (pc := 23) (As := [.int (zI y), .int (zI 0), .int (zI 7)]) (st := []) gg (c_mIn M y (0 : Int) (7 : Int) (by first | assumption | omega | exact ⟨by omega, by omega⟩) (by first | assumption | omega | exact ⟨by omega, by omega⟩) (by first | assumption | omega | exact ⟨by omega, by omega⟩)) ys_11_isIn ml_X11_38 dX11_link_23 (by decide) (Nat.le_of_ble_eq_true rfl) (Nat.le_of_ble_eq_true rfl) (Nat.le_of_ble_eq_true rfl) rfl rfl (fun z23 u23 hz23 => ?_)
      refine z_if_ne (pc := 26) 31 gg dX11_link_26 (by decide) ⟨by omega, by omega⟩ (fun h26 => ?_) (fun h26 => ?_)
      · refine z_aload_n (pc := 31) 0 gg dX11_link_31 rfl rfl ?_
        refine z_get (pc := 32) 0 gg fl_X11_7 dX11_link_32 rfl rfl ?_
        refine z_sipush (pc := 35) gg dX11_link_35 (by decide +kernel) ?_
        refine z_bipush (pc := 38) gg dX11_link_38 (by decide +kernel) ?_
        refine z_iload_n (pc := 40) 1 gg dX11_link_40 rfl rfl ?_
        refine z_imul (pc := 41) gg dX11_link_41 ?_
        refine z_iadd (pc := 42) gg dX11_link_42 ?_
        refine z_iload_n (pc := 43) 2 gg dX11_link_43 rfl rfl ?_
        refine z_iadd (pc := 44) gg dX11_link_44 ?_
        refine z_iload_n (pc := 45) 3 gg dX11_link_45 rfl rfl ?_
        refine z_iast (pc := 46) 1 ((250 + (6 * x.toNat)) + e.toNat) [cO 11 h [.ref a0, .ref a1, .ref a2, .ref a3, .ref a4, .ref a5, .ref a6, .ref a7, .ref a8], cI M a0 1280 (zU A ((250 + (6 * x.toNat)) + e.toNat) y), cZ M a1 3 hs, cI M a2 9 ht, cI M a3 9 bf, cI M a4 9 cu, cI M a5 32 fr, cI M a6 625 wo, cI M a7 625 wy, cI M a8 625 my] gg dX11_link_46 rfl (by omega) (by omega) (by decide) rfl ?_
        refine z_iconst (pc := 47) gg dX11_link_47 ?_
        exact hret 1 () 48 _ _ _ (Nat.le_of_ble_eq_true rfl) (Nat.le_of_ble_eq_true rfl) dX11_link_48 (zB01 (by omega)) (by omega)
      · exfalso; omega
set_option maxHeartbeats 4000000 in
set_option maxRecDepth 100000 in
theorem c_m_link_no (M : KM) (h a0 a1 a2 a3 a4 a5 a6 a7 a8 : Nat) (A hs ht bf cu fr wo wy my : Nat → Int) (x e y : Int) (hs0 : zR x) (he : zR e) (ht0 : zR y) (hc : x < 0 ∨ 8 ≤ x ∨ e < 0 ∨ 4 ≤ e ∨ y < 0 ∨ 8 ≤ y) : kCI M yX11_link cX11_link 4 .boolean 1 0 0 [cO 11 h [.ref a0, .ref a1, .ref a2, .ref a3, .ref a4, .ref a5, .ref a6, .ref a7, .ref a8], cI M a0 1280 A, cZ M a1 3 hs, cI M a2 9 ht, cI M a3 9 bf, cI M a4 9 cu, cI M a5 32 fr, cI M a6 625 wo, cI M a7 625 wy, cI M a8 625 my] [.ref h, .int (zI x), .int (zI e), .int (zI y)] (fun z (u : Unit) => z = 0) (fun u => [cO 11 h [.ref a0, .ref a1, .ref a2, .ref a3, .ref a4, .ref a5, .ref a6, .ref a7, .ref a8], cI M a0 1280 A, cZ M a1 3 hs, cI M a2 9 ht, cI M a3 9 bf, cI M a4 9 cu, cI M a5 32 fr, cI M a6 625 wo, cI M a7 625 wy, cI M a8 625 my]) := by
  refine kCI.of [(0, .ref h), (1, .int (zI x)), (2, .int (zI e)), (3, .int (zI y))] (by decide) (Nat.le_of_ble_eq_true rfl) rfl (fun E gg hret => ?_)
  have r1_hs0 := hs0.1
  have r2_hs0 := hs0.2
  have r1_he := he.1
  have r2_he := he.2
  have r1_ht0 := ht0.1
  have r2_ht0 := ht0.2
  refine z_iload_n (pc := 0) 1 gg dX11_link_0 rfl rfl ?_
  refine z_iconst (pc := 1) gg dX11_link_1 ?_
  refine z_bipush (pc := 2) gg dX11_link_2 (by decide +kernel) ?_
  refine z_callS (pc := 4) (As := [.int (zI x), .int (zI 0), .int (zI 7)]) (st := []) gg (c_mIn M x (0 : Int) (7 : Int) (by first | assumption | omega | exact ⟨by omega, by omega⟩) (by first | assumption | omega | exact ⟨by omega, by omega⟩) (by first | assumption | omega | exact ⟨by omega, by omega⟩)) ys_11_isIn ml_X11_38 dX11_link_4 (by decide) (Nat.le_of_ble_eq_true rfl) (Nat.le_of_ble_eq_true rfl) (Nat.le_of_ble_eq_true rfl) rfl rfl (fun z4 u4 hz4 => ?_)
  refine z_if_eq (pc := 7) 29 gg dX11_link_7 (by decide) ⟨by omega, by omega⟩ (fun h7 => ?_) (fun h7 => ?_)
  · refine z_iconst (pc := 29) gg dX11_link_29 ?_
    exact hret 0 () 30 _ _ _ (Nat.le_of_ble_eq_true rfl) (Nat.le_of_ble_eq_true rfl) dX11_link_30 (zB01 (by omega)) (by omega)
  · refine z_iload_n (pc := 10) 2 gg dX11_link_10 rfl rfl ?_
    refine z_iconst (pc := 11) gg dX11_link_11 ?_
    refine z_iconst (pc := 12) gg dX11_link_12 ?_
    refine z_callS (pc := 13) (As := [.int (zI e), .int (zI 0), .int (zI 3)]) (st := []) gg (c_mIn M e (0 : Int) (3 : Int) (by first | assumption | omega | exact ⟨by omega, by omega⟩) (by first | assumption | omega | exact ⟨by omega, by omega⟩) (by first | assumption | omega | exact ⟨by omega, by omega⟩)) ys_11_isIn ml_X11_38 dX11_link_13 (by decide) (Nat.le_of_ble_eq_true rfl) (Nat.le_of_ble_eq_true rfl) (Nat.le_of_ble_eq_true rfl) rfl rfl (fun z13 u13 hz13 => ?_)
    refine z_if_eq (pc := 16) 29 gg dX11_link_16 (by decide) ⟨by omega, by omega⟩ (fun h16 => ?_) (fun h16 => ?_)
    · refine z_iconst (pc := 29) gg dX11_link_29 ?_
      exact hret 0 () 30 _ _ _ (Nat.le_of_ble_eq_true rfl) (Nat.le_of_ble_eq_true rfl) dX11_link_30 (zB01 (by omega)) (by omega)
    · refine z_iload_n (pc := 19) 3 gg dX11_link_19 rfl rfl ?_
      refine z_iconst (pc := 20) gg dX11_link_20 ?_
      refine z_bipush (pc := 21) gg dX11_link_21 (by decide +kernel) ?_
      refine z_callS (pc := 23) (As := [.int (zI y), .int (zI 0), .int (zI 7)]) (st := []) gg (c_mIn M y (0 : Int) (7 : Int) (by first | assumption | omega | exact ⟨by omega, by omega⟩) (by first | assumption | omega | exact ⟨by omega, by omega⟩) (by first | assumption | omega | exact ⟨by omega, by omega⟩)) ys_11_isIn ml_X11_38 dX11_link_23 (by decide) (Nat.le_of_ble_eq_true rfl) (Nat.le_of_ble_eq_true rfl) (Nat.le_of_ble_eq_true rfl) rfl rfl (fun z23 u23 hz23 => ?_)
      refine z_if_ne (pc := 26) 31 gg dX11_link_26 (by decide) ⟨by omega, by omega⟩ (fun h26 => ?_) (fun h26 => ?_)
      · exfalso; omega
      · refine z_iconst (pc := 29) gg dX11_link_29 ?_
        exact hret 0 () 30 _ _ _ (Nat.le_of_ble_eq_true rfl) (Nat.le_of_ble_eq_true rfl) dX11_link_30 (zB01 (by omega)) (by omega)
set_option maxHeartbeats 4000000 in
set_option maxRecDepth 100000 in
theorem c_m_state_ok (M : KM) (h a0 a1 a2 a3 a4 a5 a6 a7 a8 : Nat) (A hs ht bf cu fr wo wy my : Nat → Int) (x e y : Int) (hs0 : 0 ≤ x ∧ x < 8) (he : e = 0 ∨ e = 1) (hy : y = 0 ∨ y = 1) : kCI M yX11_state cX11_state 4 .boolean 1 0 0 [cO 11 h [.ref a0, .ref a1, .ref a2, .ref a3, .ref a4, .ref a5, .ref a6, .ref a7, .ref a8], cI M a0 1280 A, cZ M a1 3 hs, cI M a2 9 ht, cI M a3 9 bf, cI M a4 9 cu, cI M a5 32 fr, cI M a6 625 wo, cI M a7 625 wy, cI M a8 625 my] [.ref h, .int (zI x), .int (zI e), .int (zI y)] (fun z (u : Unit) => z = 1) (fun u => [cO 11 h [.ref a0, .ref a1, .ref a2, .ref a3, .ref a4, .ref a5, .ref a6, .ref a7, .ref a8], cI M a0 1280 (zU (zU A ((250 + (6 * x.toNat)) + 4) e) ((250 + (6 * x.toNat)) + 5) y), cZ M a1 3 hs, cI M a2 9 ht, cI M a3 9 bf, cI M a4 9 cu, cI M a5 32 fr, cI M a6 625 wo, cI M a7 625 wy, cI M a8 625 my]) := by
  refine kCI.of [(0, .ref h), (1, .int (zI x)), (2, .int (zI e)), (3, .int (zI y))] (by decide) (Nat.le_of_ble_eq_true rfl) rfl (fun E gg hret => ?_)
  rcases he with rfl | rfl <;> rcases hy with rfl | rfl
  · refine z_iload_n (pc := 0) 1 gg dX11_state_0 rfl rfl ?_
    refine z_iconst (pc := 1) gg dX11_state_1 ?_
    refine z_bipush (pc := 2) gg dX11_state_2 (by decide +kernel) ?_
    refine z_callS (pc := 4) (As := [.int (zI x), .int (zI 0), .int (zI 7)]) (st := []) gg (c_mIn M x (0 : Int) (7 : Int) (by first | assumption | omega | exact ⟨by omega, by omega⟩) (by first | assumption | omega | exact ⟨by omega, by omega⟩) (by first | assumption | omega | exact ⟨by omega, by omega⟩)) ys_11_isIn ml_X11_38 dX11_state_4 (by decide) (Nat.le_of_ble_eq_true rfl) (Nat.le_of_ble_eq_true rfl) (Nat.le_of_ble_eq_true rfl) rfl rfl (fun z4 u4 hz4 => ?_)
    refine z_if_ne (pc := 7) 12 gg dX11_state_7 (by decide) ⟨by omega, by omega⟩ (fun h7 => ?_) (fun h7 => ?_)
    · refine z_aload_n (pc := 12) 0 gg dX11_state_12 rfl rfl ?_
      refine z_get (pc := 13) 0 gg fl_X11_7 dX11_state_13 rfl rfl ?_
      refine z_sipush (pc := 16) gg dX11_state_16 (by decide +kernel) ?_
      refine z_bipush (pc := 19) gg dX11_state_19 (by decide +kernel) ?_
      refine z_iload_n (pc := 21) 1 gg dX11_state_21 rfl rfl ?_
      refine z_imul (pc := 22) gg dX11_state_22 ?_
      refine z_iadd (pc := 23) gg dX11_state_23 ?_
      refine z_iconst (pc := 24) gg dX11_state_24 ?_
      refine z_iadd (pc := 25) gg dX11_state_25 ?_
      refine z_iload_n (pc := 26) 2 gg dX11_state_26 rfl rfl ?_
      refine z_if_eq (pc := 27) 34 gg dX11_state_27 (by decide) ⟨by omega, by omega⟩ (fun h27 => ?_) (fun h27 => ?_)
      · refine z_iconst (pc := 34) gg dX11_state_34 ?_
        refine z_iast (pc := 35) 1 ((250 + (6 * x.toNat)) + 4) [cO 11 h [.ref a0, .ref a1, .ref a2, .ref a3, .ref a4, .ref a5, .ref a6, .ref a7, .ref a8], cI M a0 1280 (zU A ((250 + (6 * x.toNat)) + 4) 0), cZ M a1 3 hs, cI M a2 9 ht, cI M a3 9 bf, cI M a4 9 cu, cI M a5 32 fr, cI M a6 625 wo, cI M a7 625 wy, cI M a8 625 my] gg dX11_state_35 rfl (by omega) (by omega) (by decide) rfl ?_
        refine z_aload_n (pc := 36) 0 gg dX11_state_36 rfl rfl ?_
        refine z_get (pc := 37) 0 gg fl_X11_7 dX11_state_37 rfl rfl ?_
        refine z_sipush (pc := 40) gg dX11_state_40 (by decide +kernel) ?_
        refine z_bipush (pc := 43) gg dX11_state_43 (by decide +kernel) ?_
        refine z_iload_n (pc := 45) 1 gg dX11_state_45 rfl rfl ?_
        refine z_imul (pc := 46) gg dX11_state_46 ?_
        refine z_iadd (pc := 47) gg dX11_state_47 ?_
        refine z_iconst (pc := 48) gg dX11_state_48 ?_
        refine z_iadd (pc := 49) gg dX11_state_49 ?_
        refine z_iload_n (pc := 50) 3 gg dX11_state_50 rfl rfl ?_
        refine z_if_eq (pc := 51) 58 gg dX11_state_51 (by decide) ⟨by omega, by omega⟩ (fun h51 => ?_) (fun h51 => ?_)
        · refine z_iconst (pc := 58) gg dX11_state_58 ?_
          refine z_iast (pc := 59) 1 ((250 + (6 * x.toNat)) + 5) [cO 11 h [.ref a0, .ref a1, .ref a2, .ref a3, .ref a4, .ref a5, .ref a6, .ref a7, .ref a8], cI M a0 1280 (zU (zU A ((250 + (6 * x.toNat)) + 4) 0) ((250 + (6 * x.toNat)) + 5) 0), cZ M a1 3 hs, cI M a2 9 ht, cI M a3 9 bf, cI M a4 9 cu, cI M a5 32 fr, cI M a6 625 wo, cI M a7 625 wy, cI M a8 625 my] gg dX11_state_59 rfl (by omega) (by omega) (by decide) rfl ?_
          refine z_iconst (pc := 60) gg dX11_state_60 ?_
          exact hret 1 () 61 _ _ _ (Nat.le_of_ble_eq_true rfl) (Nat.le_of_ble_eq_true rfl) dX11_state_61 (zB01 (by omega)) (by omega)
        · exfalso; omega
      · exfalso; omega
    · exfalso; omega
  · refine z_iload_n (pc := 0) 1 gg dX11_state_0 rfl rfl ?_
    refine z_iconst (pc := 1) gg dX11_state_1 ?_
    refine z_bipush (pc := 2) gg dX11_state_2 (by decide +kernel) ?_
    refine z_callS (pc := 4) (As := [.int (zI x), .int (zI 0), .int (zI 7)]) (st := []) gg (c_mIn M x (0 : Int) (7 : Int) (by first | assumption | omega | exact ⟨by omega, by omega⟩) (by first | assumption | omega | exact ⟨by omega, by omega⟩) (by first | assumption | omega | exact ⟨by omega, by omega⟩)) ys_11_isIn ml_X11_38 dX11_state_4 (by decide) (Nat.le_of_ble_eq_true rfl) (Nat.le_of_ble_eq_true rfl) (Nat.le_of_ble_eq_true rfl) rfl rfl (fun z4 u4 hz4 => ?_)
    refine z_if_ne (pc := 7) 12 gg dX11_state_7 (by decide) ⟨by omega, by omega⟩ (fun h7 => ?_) (fun h7 => ?_)
    · refine z_aload_n (pc := 12) 0 gg dX11_state_12 rfl rfl ?_
      refine z_get (pc := 13) 0 gg fl_X11_7 dX11_state_13 rfl rfl ?_
      refine z_sipush (pc := 16) gg dX11_state_16 (by decide +kernel) ?_
      refine z_bipush (pc := 19) gg dX11_state_19 (by decide +kernel) ?_
      refine z_iload_n (pc := 21) 1 gg dX11_state_21 rfl rfl ?_
      refine z_imul (pc := 22) gg dX11_state_22 ?_
      refine z_iadd (pc := 23) gg dX11_state_23 ?_
      refine z_iconst (pc := 24) gg dX11_state_24 ?_
      refine z_iadd (pc := 25) gg dX11_state_25 ?_
      refine z_iload_n (pc := 26) 2 gg dX11_state_26 rfl rfl ?_
      refine z_if_eq (pc := 27) 34 gg dX11_state_27 (by decide) ⟨by omega, by omega⟩ (fun h27 => ?_) (fun h27 => ?_)
      · refine z_iconst (pc := 34) gg dX11_state_34 ?_
        refine z_iast (pc := 35) 1 ((250 + (6 * x.toNat)) + 4) [cO 11 h [.ref a0, .ref a1, .ref a2, .ref a3, .ref a4, .ref a5, .ref a6, .ref a7, .ref a8], cI M a0 1280 (zU A ((250 + (6 * x.toNat)) + 4) 0), cZ M a1 3 hs, cI M a2 9 ht, cI M a3 9 bf, cI M a4 9 cu, cI M a5 32 fr, cI M a6 625 wo, cI M a7 625 wy, cI M a8 625 my] gg dX11_state_35 rfl (by omega) (by omega) (by decide) rfl ?_
        refine z_aload_n (pc := 36) 0 gg dX11_state_36 rfl rfl ?_
        refine z_get (pc := 37) 0 gg fl_X11_7 dX11_state_37 rfl rfl ?_
        refine z_sipush (pc := 40) gg dX11_state_40 (by decide +kernel) ?_
        refine z_bipush (pc := 43) gg dX11_state_43 (by decide +kernel) ?_
        refine z_iload_n (pc := 45) 1 gg dX11_state_45 rfl rfl ?_
        refine z_imul (pc := 46) gg dX11_state_46 ?_
        refine z_iadd (pc := 47) gg dX11_state_47 ?_
        refine z_iconst (pc := 48) gg dX11_state_48 ?_
        refine z_iadd (pc := 49) gg dX11_state_49 ?_
        refine z_iload_n (pc := 50) 3 gg dX11_state_50 rfl rfl ?_
        refine z_if_eq (pc := 51) 58 gg dX11_state_51 (by decide) ⟨by omega, by omega⟩ (fun h51 => ?_) (fun h51 => ?_)
        · exfalso; omega
        · refine z_iconst (pc := 54) gg dX11_state_54 ?_
          refine z_goto (pc := 55) 59 gg dX11_state_55 (by decide) ?_
          refine z_iast (pc := 59) 1 ((250 + (6 * x.toNat)) + 5) [cO 11 h [.ref a0, .ref a1, .ref a2, .ref a3, .ref a4, .ref a5, .ref a6, .ref a7, .ref a8], cI M a0 1280 (zU (zU A ((250 + (6 * x.toNat)) + 4) 0) ((250 + (6 * x.toNat)) + 5) 1), cZ M a1 3 hs, cI M a2 9 ht, cI M a3 9 bf, cI M a4 9 cu, cI M a5 32 fr, cI M a6 625 wo, cI M a7 625 wy, cI M a8 625 my] gg dX11_state_59 rfl (by omega) (by omega) (by decide) rfl ?_
          refine z_iconst (pc := 60) gg dX11_state_60 ?_
          exact hret 1 () 61 _ _ _ (Nat.le_of_ble_eq_true rfl) (Nat.le_of_ble_eq_true rfl) dX11_state_61 (zB01 (by omega)) (by omega)
      · exfalso; omega
    · exfalso; omega
  · refine z_iload_n (pc := 0) 1 gg dX11_state_0 rfl rfl ?_
    refine z_iconst (pc := 1) gg dX11_state_1 ?_
    refine z_bipush (pc := 2) gg dX11_state_2 (by decide +kernel) ?_
    refine z_callS (pc := 4) (As := [.int (zI x), .int (zI 0), .int (zI 7)]) (st := []) gg (c_mIn M x (0 : Int) (7 : Int) (by first | assumption | omega | exact ⟨by omega, by omega⟩) (by first | assumption | omega | exact ⟨by omega, by omega⟩) (by first | assumption | omega | exact ⟨by omega, by omega⟩)) ys_11_isIn ml_X11_38 dX11_state_4 (by decide) (Nat.le_of_ble_eq_true rfl) (Nat.le_of_ble_eq_true rfl) (Nat.le_of_ble_eq_true rfl) rfl rfl (fun z4 u4 hz4 => ?_)
    refine z_if_ne (pc := 7) 12 gg dX11_state_7 (by decide) ⟨by omega, by omega⟩ (fun h7 => ?_) (fun h7 => ?_)
    · refine z_aload_n (pc := 12) 0 gg dX11_state_12 rfl rfl ?_
      refine z_get (pc := 13) 0 gg fl_X11_7 dX11_state_13 rfl rfl ?_
      refine z_sipush (pc := 16) gg dX11_state_16 (by decide +kernel) ?_
      refine z_bipush (pc := 19) gg dX11_state_19 (by decide +kernel) ?_
      refine z_iload_n (pc := 21) 1 gg dX11_state_21 rfl rfl ?_
      refine z_imul (pc := 22) gg dX11_state_22 ?_
      refine z_iadd (pc := 23) gg dX11_state_23 ?_
      refine z_iconst (pc := 24) gg dX11_state_24 ?_
      refine z_iadd (pc := 25) gg dX11_state_25 ?_
      refine z_iload_n (pc := 26) 2 gg dX11_state_26 rfl rfl ?_
      refine z_if_eq (pc := 27) 34 gg dX11_state_27 (by decide) ⟨by omega, by omega⟩ (fun h27 => ?_) (fun h27 => ?_)
      · exfalso; omega
      · refine z_iconst (pc := 30) gg dX11_state_30 ?_
        refine z_goto (pc := 31) 35 gg dX11_state_31 (by decide) ?_
        refine z_iast (pc := 35) 1 ((250 + (6 * x.toNat)) + 4) [cO 11 h [.ref a0, .ref a1, .ref a2, .ref a3, .ref a4, .ref a5, .ref a6, .ref a7, .ref a8], cI M a0 1280 (zU A ((250 + (6 * x.toNat)) + 4) 1), cZ M a1 3 hs, cI M a2 9 ht, cI M a3 9 bf, cI M a4 9 cu, cI M a5 32 fr, cI M a6 625 wo, cI M a7 625 wy, cI M a8 625 my] gg dX11_state_35 rfl (by omega) (by omega) (by decide) rfl ?_
        refine z_aload_n (pc := 36) 0 gg dX11_state_36 rfl rfl ?_
        refine z_get (pc := 37) 0 gg fl_X11_7 dX11_state_37 rfl rfl ?_
        refine z_sipush (pc := 40) gg dX11_state_40 (by decide +kernel) ?_
        refine z_bipush (pc := 43) gg dX11_state_43 (by decide +kernel) ?_
        refine z_iload_n (pc := 45) 1 gg dX11_state_45 rfl rfl ?_
        refine z_imul (pc := 46) gg dX11_state_46 ?_
        refine z_iadd (pc := 47) gg dX11_state_47 ?_
        refine z_iconst (pc := 48) gg dX11_state_48 ?_
        refine z_iadd (pc := 49) gg dX11_state_49 ?_
        refine z_iload_n (pc := 50) 3 gg dX11_state_50 rfl rfl ?_
        refine z_if_eq (pc := 51) 58 gg dX11_state_51 (by decide) ⟨by omega, by omega⟩ (fun h51 => ?_) (fun h51 => ?_)
        · refine z_iconst (pc := 58) gg dX11_state_58 ?_
          refine z_iast (pc := 59) 1 ((250 + (6 * x.toNat)) + 5) [cO 11 h [.ref a0, .ref a1, .ref a2, .ref a3, .ref a4, .ref a5, .ref a6, .ref a7, .ref a8], cI M a0 1280 (zU (zU A ((250 + (6 * x.toNat)) + 4) 1) ((250 + (6 * x.toNat)) + 5) 0), cZ M a1 3 hs, cI M a2 9 ht, cI M a3 9 bf, cI M a4 9 cu, cI M a5 32 fr, cI M a6 625 wo, cI M a7 625 wy, cI M a8 625 my] gg dX11_state_59 rfl (by omega) (by omega) (by decide) rfl ?_
          refine z_iconst (pc := 60) gg dX11_state_60 ?_
          exact hret 1 () 61 _ _ _ (Nat.le_of_ble_eq_true rfl) (Nat.le_of_ble_eq_true rfl) dX11_state_61 (zB01 (by omega)) (by omega)
        · exfalso; omega
    · exfalso; omega
  · refine z_iload_n (pc := 0) 1 gg dX11_state_0 rfl rfl ?_
    refine z_iconst (pc := 1) gg dX11_state_1 ?_
    refine z_bipush (pc := 2) gg dX11_state_2 (by decide +kernel) ?_
    refine z_callS (pc := 4) (As := [.int (zI x), .int (zI 0), .int (zI 7)]) (st := []) gg (c_mIn M x (0 : Int) (7 : Int) (by first | assumption | omega | exact ⟨by omega, by omega⟩) (by first | assumption | omega | exact ⟨by omega, by omega⟩) (by first | assumption | omega | exact ⟨by omega, by omega⟩)) ys_11_isIn ml_X11_38 dX11_state_4 (by decide) (Nat.le_of_ble_eq_true rfl) (Nat.le_of_ble_eq_true rfl) (Nat.le_of_ble_eq_true rfl) rfl rfl (fun z4 u4 hz4 => ?_)
    refine z_if_ne (pc := 7) 12 gg dX11_state_7 (by decide) ⟨by omega, by omega⟩ (fun h7 => ?_) (fun h7 => ?_)
    · refine z_aload_n (pc := 12) 0 gg dX11_state_12 rfl rfl ?_
      refine z_get (pc := 13) 0 gg fl_X11_7 dX11_state_13 rfl rfl ?_
      refine z_sipush (pc := 16) gg dX11_state_16 (by decide +kernel) ?_
      refine z_bipush (pc := 19) gg dX11_state_19 (by decide +kernel) ?_
      refine z_iload_n (pc := 21) 1 gg dX11_state_21 rfl rfl ?_
      refine z_imul (pc := 22) gg dX11_state_22 ?_
      refine z_iadd (pc := 23) gg dX11_state_23 ?_
      refine z_iconst (pc := 24) gg dX11_state_24 ?_
      refine z_iadd (pc := 25) gg dX11_state_25 ?_
      refine z_iload_n (pc := 26) 2 gg dX11_state_26 rfl rfl ?_
      refine z_if_eq (pc := 27) 34 gg dX11_state_27 (by decide) ⟨by omega, by omega⟩ (fun h27 => ?_) (fun h27 => ?_)
      · exfalso; omega
      · refine z_iconst (pc := 30) gg dX11_state_30 ?_
        refine z_goto (pc := 31) 35 gg dX11_state_31 (by decide) ?_
        refine z_iast (pc := 35) 1 ((250 + (6 * x.toNat)) + 4) [cO 11 h [.ref a0, .ref a1, .ref a2, .ref a3, .ref a4, .ref a5, .ref a6, .ref a7, .ref a8], cI M a0 1280 (zU A ((250 + (6 * x.toNat)) + 4) 1), cZ M a1 3 hs, cI M a2 9 ht, cI M a3 9 bf, cI M a4 9 cu, cI M a5 32 fr, cI M a6 625 wo, cI M a7 625 wy, cI M a8 625 my] gg dX11_state_35 rfl (by omega) (by omega) (by decide) rfl ?_
        refine z_aload_n (pc := 36) 0 gg dX11_state_36 rfl rfl ?_
        refine z_get (pc := 37) 0 gg fl_X11_7 dX11_state_37 rfl rfl ?_
        refine z_sipush (pc := 40) gg dX11_state_40 (by decide +kernel) ?_
        refine z_bipush (pc := 43) gg dX11_state_43 (by decide +kernel) ?_
        refine z_iload_n (pc := 45) 1 gg dX11_state_45 rfl rfl ?_
        refine z_imul (pc := 46) gg dX11_state_46 ?_
        refine z_iadd (pc := 47) gg dX11_state_47 ?_
        refine z_iconst (pc := 48) gg dX11_state_48 ?_
        refine z_iadd (pc := 49) gg dX11_state_49 ?_
        refine z_iload_n (pc := 50) 3 gg dX11_state_50 rfl rfl ?_
        refine z_if_eq (pc := 51) 58 gg dX11_state_51 (by decide) ⟨by omega, by omega⟩ (fun h51 => ?_) (fun h51 => ?_)
        · exfalso; omega
        · refine z_iconst (pc := 54) gg dX11_state_54 ?_
          refine z_goto (pc := 55) 59 gg dX11_state_55 (by decide) ?_
          refine z_iast (pc := 59) 1 ((250 + (6 * x.toNat)) + 5) [cO 11 h [.ref a0, .ref a1, .ref a2, .ref a3, .ref a4, .ref a5, .ref a6, .ref a7, .ref a8], cI M a0 1280 (zU (zU A ((250 + (6 * x.toNat)) + 4) 1) ((250 + (6 * x.toNat)) + 5) 1), cZ M a1 3 hs, cI M a2 9 ht, cI M a3 9 bf, cI M a4 9 cu, cI M a5 32 fr, cI M a6 625 wo, cI M a7 625 wy, cI M a8 625 my] gg dX11_state_59 rfl (by omega) (by omega) (by decide) rfl ?_
          refine z_iconst (pc := 60) gg dX11_state_60 ?_
          exact hret 1 () 61 _ _ _ (Nat.le_of_ble_eq_true rfl) (Nat.le_of_ble_eq_true rfl) dX11_state_61 (zB01 (by omega)) (by omega)
    · exfalso; omega
set_option maxHeartbeats 4000000 in
set_option maxRecDepth 100000 in
theorem c_m_state_no (M : KM) (h a0 a1 a2 a3 a4 a5 a6 a7 a8 : Nat) (A hs ht bf cu fr wo wy my : Nat → Int) (x e y : Int) (hs0 : zR x) (hc : x < 0 ∨ 8 ≤ x) : kCI M yX11_state cX11_state 4 .boolean 1 0 0 [cO 11 h [.ref a0, .ref a1, .ref a2, .ref a3, .ref a4, .ref a5, .ref a6, .ref a7, .ref a8], cI M a0 1280 A, cZ M a1 3 hs, cI M a2 9 ht, cI M a3 9 bf, cI M a4 9 cu, cI M a5 32 fr, cI M a6 625 wo, cI M a7 625 wy, cI M a8 625 my] [.ref h, .int (zI x), .int (zI e), .int (zI y)] (fun z (u : Unit) => z = 0) (fun u => [cO 11 h [.ref a0, .ref a1, .ref a2, .ref a3, .ref a4, .ref a5, .ref a6, .ref a7, .ref a8], cI M a0 1280 A, cZ M a1 3 hs, cI M a2 9 ht, cI M a3 9 bf, cI M a4 9 cu, cI M a5 32 fr, cI M a6 625 wo, cI M a7 625 wy, cI M a8 625 my]) := by
  refine kCI.of [(0, .ref h), (1, .int (zI x)), (2, .int (zI e)), (3, .int (zI y))] (by decide) (Nat.le_of_ble_eq_true rfl) rfl (fun E gg hret => ?_)
  have r1_hs0 := hs0.1
  have r2_hs0 := hs0.2
  refine z_iload_n (pc := 0) 1 gg dX11_state_0 rfl rfl ?_
  refine z_iconst (pc := 1) gg dX11_state_1 ?_
  refine z_bipush (pc := 2) gg dX11_state_2 (by decide +kernel) ?_
  refine z_callS (pc := 4) (As := [.int (zI x), .int (zI 0), .int (zI 7)]) (st := []) gg (c_mIn M x (0 : Int) (7 : Int) (by first | assumption | omega | exact ⟨by omega, by omega⟩) (by first | assumption | omega | exact ⟨by omega, by omega⟩) (by first | assumption | omega | exact ⟨by omega, by omega⟩)) ys_11_isIn ml_X11_38 dX11_state_4 (by decide) (Nat.le_of_ble_eq_true rfl) (Nat.le_of_ble_eq_true rfl) (Nat.le_of_ble_eq_true rfl) rfl rfl (fun z4 u4 hz4 => ?_)
  refine z_if_ne (pc := 7) 12 gg dX11_state_7 (by decide) ⟨by omega, by omega⟩ (fun h7 => ?_) (fun h7 => ?_)
  · exfalso; omega
  · refine z_iconst (pc := 10) gg dX11_state_10 ?_
    exact hret 0 () 11 _ _ _ (Nat.le_of_ble_eq_true rfl) (Nat.le_of_ble_eq_true rfl) dX11_state_11 (zB01 (by omega)) (by omega)
set_option maxHeartbeats 4000000 in
set_option maxRecDepth 100000 in
theorem c_m_sheet_ok (M : KM) (h a0 a1 a2 a3 a4 a5 a6 a7 a8 : Nat) (A hs ht bf cu fr wo wy my : Nat → Int) (x y v : Int) (h4 : 0 ≤ A 4 ∧ A 4 < 6) (hw : 1 ≤ x ∧ x ≤ 24) (hx : 1 ≤ y ∧ y ≤ 24) (hv : 1 ≤ v ∧ v ≤ 999) : kCI M yX11_sheet cX11_sheet 5 .int 1 0 0 [cO 11 h [.ref a0, .ref a1, .ref a2, .ref a3, .ref a4, .ref a5, .ref a6, .ref a7, .ref a8], cI M a0 1280 A, cZ M a1 3 hs, cI M a2 9 ht, cI M a3 9 bf, cI M a4 9 cu, cI M a5 32 fr, cI M a6 625 wo, cI M a7 625 wy, cI M a8 625 my] [.ref h, .int (zI x), .int (zI y), .int (zI v)] (fun z (u : Unit) => z = A 4) (fun u => [cO 11 h [.ref a0, .ref a1, .ref a2, .ref a3, .ref a4, .ref a5, .ref a6, .ref a7, .ref a8], cI M a0 1280 (zU (zU (zU (zU A (300 + (3 * (A 4).toNat)) x) ((300 + (3 * (A 4).toNat)) + 1) y) ((300 + (3 * (A 4).toNat)) + 2) v) 4 ((A 4) + 1)), cZ M a1 3 hs, cI M a2 9 ht, cI M a3 9 bf, cI M a4 9 cu, cI M a5 32 fr, cI M a6 625 wo, cI M a7 625 wy, cI M a8 625 my]) := by
  refine kCI.of [(0, .ref h), (1, .int (zI x)), (2, .int (zI y)), (3, .int (zI v))] (by decide) (Nat.le_of_ble_eq_true rfl) rfl (fun E gg hret => ?_)
  refine z_aload_n (pc := 0) 0 gg dX11_sheet_0 rfl rfl ?_
  refine z_get (pc := 1) 0 gg fl_X11_7 dX11_sheet_1 rfl rfl ?_
  refine z_iconst (pc := 4) gg dX11_sheet_4 ?_
  refine z_iald (pc := 5) 1 4 gg dX11_sheet_5 rfl (by omega) (by omega) (by decide) ?_
  refine z_bipush (pc := 6) gg dX11_sheet_6 (by decide +kernel) ?_
  refine z_icmp_eq (pc := 8) 42 gg dX11_sheet_8 (by decide) ⟨by omega, by omega⟩ ⟨by omega, by omega⟩ (fun h8 => ?_) (fun h8 => ?_)
  · exfalso; omega
  · refine z_iload_n (pc := 11) 1 gg dX11_sheet_11 rfl rfl ?_
    refine z_iconst (pc := 12) gg dX11_sheet_12 ?_
    refine z_bipush (pc := 13) gg dX11_sheet_13 (by decide +kernel) ?_
    refine z_callS (pc := 15) (As := [.int (zI x), .int (zI 1), .int (zI 24)]) (st := []) gg (c_mIn M x (1 : Int) (24 : Int) (by first | assumption | omega | exact ⟨by omega, by omega⟩) (by first | assumption | omega | exact ⟨by omega, by omega⟩) (by first | assumption | omega | exact ⟨by omega, by omega⟩)) ys_11_isIn ml_X11_38 dX11_sheet_15 (by decide) (Nat.le_of_ble_eq_true rfl) (Nat.le_of_ble_eq_true rfl) (Nat.le_of_ble_eq_true rfl) rfl rfl (fun z15 u15 hz15 => ?_)
    refine z_if_eq (pc := 18) 42 gg dX11_sheet_18 (by decide) ⟨by omega, by omega⟩ (fun h18 => ?_) (fun h18 => ?_)
    · exfalso; omega
    · refine z_iload_n (pc := 21) 2 gg dX11_sheet_21 rfl rfl ?_
      refine z_iconst (pc := 22) gg dX11_sheet_22 ?_
      refine z_bipush (pc := 23) gg dX11_sheet_23 (by decide +kernel) ?_
      refine z_callS (pc := 25) (As := [.int (zI y), .int (zI 1), .int (zI 24)]) (st := []) gg (c_mIn M y (1 : Int) (24 : Int) (by first | assumption | omega | exact ⟨by omega, by omega⟩) (by first | assumption | omega | exact ⟨by omega, by omega⟩) (by first | assumption | omega | exact ⟨by omega, by omega⟩)) ys_11_isIn ml_X11_38 dX11_sheet_25 (by decide) (Nat.le_of_ble_eq_true rfl) (Nat.le_of_ble_eq_true rfl) (Nat.le_of_ble_eq_true rfl) rfl rfl (fun z25 u25 hz25 => ?_)
      refine z_if_eq (pc := 28) 42 gg dX11_sheet_28 (by decide) ⟨by omega, by omega⟩ (fun h28 => ?_) (fun h28 => ?_)
      · exfalso; omega
      · refine z_iload_n (pc := 31) 3 gg dX11_sheet_31 rfl rfl ?_
        refine z_iconst (pc := 32) gg dX11_sheet_32 ?_
        refine z_sipush (pc := 33) gg dX11_sheet_33 (by decide +kernel) ?_
        refine z_callS (pc := 36) (As := [.int (zI v), .int (zI 1), .int (zI 999)]) (st := []) gg (c_mIn M v (1 : Int) (999 : Int) (by first | assumption | omega | exact ⟨by omega, by omega⟩) (by first | assumption | omega | exact ⟨by omega, by omega⟩) (by first | assumption | omega | exact ⟨by omega, by omega⟩)) ys_11_isIn ml_X11_38 dX11_sheet_36 (by decide) (Nat.le_of_ble_eq_true rfl) (Nat.le_of_ble_eq_true rfl) (Nat.le_of_ble_eq_true rfl) rfl rfl (fun z36 u36 hz36 => ?_)
        refine z_if_ne (pc := 39) 44 gg dX11_sheet_39 (by decide) ⟨by omega, by omega⟩ (fun h39 => ?_) (fun h39 => ?_)
        · refine z_sipush (pc := 44) gg dX11_sheet_44 (by decide +kernel) ?_
          refine z_iconst (pc := 47) gg dX11_sheet_47 ?_
          refine z_aload_n (pc := 48) 0 gg dX11_sheet_48 rfl rfl ?_
          refine z_get (pc := 49) 0 gg fl_X11_7 dX11_sheet_49 rfl rfl ?_
          refine z_iconst (pc := 52) gg dX11_sheet_52 ?_
          refine z_iald (pc := 53) 1 4 gg dX11_sheet_53 rfl (by omega) (by omega) (by decide) ?_
          refine z_imul (pc := 54) gg dX11_sheet_54 ?_
          refine z_iadd (pc := 55) gg dX11_sheet_55 ?_
          refine z_istore (pc := 56) [(4, .int (zI (300 + (3 * (A 4))))), (0, .ref h), (1, .int (zI x)), (2, .int (zI y)), (3, .int (zI v))] gg dX11_sheet_56 (Nat.le_of_ble_eq_true rfl) rfl ?_
          refine z_aload_n (pc := 58) 1 gg dX11_sheet_58 rfl rfl ?_
          refine z_get (pc := 59) 0 gg fl_X11_7 dX11_sheet_59 rfl rfl ?_
          refine z_iload (pc := 62) 0 gg dX11_sheet_62 rfl ?_
          refine z_iload_n (pc := 64) 2 gg dX11_sheet_64 rfl rfl ?_
          refine z_iast (pc := 65) 1 (300 + (3 * (A 4).toNat)) [cO 11 h [.ref a0, .ref a1, .ref a2, .ref a3, .ref a4, .ref a5, .ref a6, .ref a7, .ref a8], cI M a0 1280 (zU A (300 + (3 * (A 4).toNat)) x), cZ M a1 3 hs, cI M a2 9 ht, cI M a3 9 bf, cI M a4 9 cu, cI M a5 32 fr, cI M a6 625 wo, cI M a7 625 wy, cI M a8 625 my] gg dX11_sheet_65 rfl (by omega) (by omega) (by decide) rfl ?_
          refine z_aload_n (pc := 66) 1 gg dX11_sheet_66 rfl rfl ?_
          refine z_get (pc := 67) 0 gg fl_X11_7 dX11_sheet_67 rfl rfl ?_
          refine z_iload (pc := 70) 0 gg dX11_sheet_70 rfl ?_
          refine z_iconst (pc := 72) gg dX11_sheet_72 ?_
          refine z_iadd (pc := 73) gg dX11_sheet_73 ?_
          refine z_iload_n (pc := 74) 3 gg dX11_sheet_74 rfl rfl ?_
          refine z_iast (pc := 75) 1 ((300 + (3 * (A 4).toNat)) + 1) [cO 11 h [.ref a0, .ref a1, .ref a2, .ref a3, .ref a4, .ref a5, .ref a6, .ref a7, .ref a8], cI M a0 1280 (zU (zU A (300 + (3 * (A 4).toNat)) x) ((300 + (3 * (A 4).toNat)) + 1) y), cZ M a1 3 hs, cI M a2 9 ht, cI M a3 9 bf, cI M a4 9 cu, cI M a5 32 fr, cI M a6 625 wo, cI M a7 625 wy, cI M a8 625 my] gg dX11_sheet_75 rfl (by omega) (by omega) (by decide) rfl ?_
          refine z_aload_n (pc := 76) 1 gg dX11_sheet_76 rfl rfl ?_
          refine z_get (pc := 77) 0 gg fl_X11_7 dX11_sheet_77 rfl rfl ?_
          refine z_iload (pc := 80) 0 gg dX11_sheet_80 rfl ?_
          refine z_iconst (pc := 82) gg dX11_sheet_82 ?_
          refine z_iadd (pc := 83) gg dX11_sheet_83 ?_
          refine z_iload_n (pc := 84) 4 gg dX11_sheet_84 rfl rfl ?_
          refine z_iast (pc := 85) 1 ((300 + (3 * (A 4).toNat)) + 2) [cO 11 h [.ref a0, .ref a1, .ref a2, .ref a3, .ref a4, .ref a5, .ref a6, .ref a7, .ref a8], cI M a0 1280 (zU (zU (zU A (300 + (3 * (A 4).toNat)) x) ((300 + (3 * (A 4).toNat)) + 1) y) ((300 + (3 * (A 4).toNat)) + 2) v), cZ M a1 3 hs, cI M a2 9 ht, cI M a3 9 bf, cI M a4 9 cu, cI M a5 32 fr, cI M a6 625 wo, cI M a7 625 wy, cI M a8 625 my] gg dX11_sheet_85 rfl (by omega) (by omega) (by decide) rfl ?_
          refine z_aload_n (pc := 86) 1 gg dX11_sheet_86 rfl rfl ?_
          refine z_get (pc := 87) 0 gg fl_X11_7 dX11_sheet_87 rfl rfl ?_
          refine z_iconst (pc := 90) gg dX11_sheet_90 ?_
          refine z_dup2 (pc := 91) gg dX11_sheet_91 rfl rfl ?_
          refine z_iald (pc := 92) 1 4 gg dX11_sheet_92 rfl (by omega) (by omega) (by decide) ?_
          rw [show ((zU (zU (zU A (300 + (3 * (A 4).toNat)) x) ((300 + (3 * (A 4).toNat)) + 1) y) ((300 + (3 * (A 4).toNat)) + 2) v) 4) = (A 4) from by rw [zU_n _ _ (by omega), zU_n _ _ (by omega), zU_n _ _ (by omega)]]
          refine z_iconst (pc := 93) gg dX11_sheet_93 ?_
          refine z_iadd (pc := 94) gg dX11_sheet_94 ?_
          refine z_iast (pc := 95) 1 4 [cO 11 h [.ref a0, .ref a1, .ref a2, .ref a3, .ref a4, .ref a5, .ref a6, .ref a7, .ref a8], cI M a0 1280 (zU (zU (zU (zU A (300 + (3 * (A 4).toNat)) x) ((300 + (3 * (A 4).toNat)) + 1) y) ((300 + (3 * (A 4).toNat)) + 2) v) 4 ((A 4) + 1)), cZ M a1 3 hs, cI M a2 9 ht, cI M a3 9 bf, cI M a4 9 cu, cI M a5 32 fr, cI M a6 625 wo, cI M a7 625 wy, cI M a8 625 my] gg dX11_sheet_95 rfl (by omega) (by omega) (by decide) rfl ?_
          refine z_aload_n (pc := 96) 1 gg dX11_sheet_96 rfl rfl ?_
          refine z_get (pc := 97) 0 gg fl_X11_7 dX11_sheet_97 rfl rfl ?_
          refine z_iconst (pc := 100) gg dX11_sheet_100 ?_
          refine z_iald (pc := 101) 1 4 gg dX11_sheet_101 rfl (by omega) (by omega) (by decide) ?_
          rw [show ((zU (zU (zU (zU A (300 + (3 * (A 4).toNat)) x) ((300 + (3 * (A 4).toNat)) + 1) y) ((300 + (3 * (A 4).toNat)) + 2) v) 4 ((A 4) + 1)) 4) = ((A 4) + 1) from by rw [zU_s]]
          refine z_iconst (pc := 102) gg dX11_sheet_102 ?_
          refine z_isub (pc := 103) gg dX11_sheet_103 ?_
          exact hret (((A 4) + 1) - 1) () 104 _ _ _ (Nat.le_of_ble_eq_true rfl) (Nat.le_of_ble_eq_true rfl) dX11_sheet_104 rfl (by omega)
        · exfalso; omega
set_option maxHeartbeats 4000000 in
set_option maxRecDepth 100000 in
theorem c_m_sheet_no (M : KM) (h a0 a1 a2 a3 a4 a5 a6 a7 a8 : Nat) (A hs ht bf cu fr wo wy my : Nat → Int) (x y v : Int) (h4 : 0 ≤ A 4 ∧ A 4 ≤ 6) (hw : zR x) (hx : zR y) (hv : zR v) (hc : A 4 = 6 ∨ x < 1 ∨ 24 < x ∨ y < 1 ∨ 24 < y ∨ v < 1 ∨ 999 < v) : kCI M yX11_sheet cX11_sheet 5 .int 1 0 0 [cO 11 h [.ref a0, .ref a1, .ref a2, .ref a3, .ref a4, .ref a5, .ref a6, .ref a7, .ref a8], cI M a0 1280 A, cZ M a1 3 hs, cI M a2 9 ht, cI M a3 9 bf, cI M a4 9 cu, cI M a5 32 fr, cI M a6 625 wo, cI M a7 625 wy, cI M a8 625 my] [.ref h, .int (zI x), .int (zI y), .int (zI v)] (fun z (u : Unit) => z = -1) (fun u => [cO 11 h [.ref a0, .ref a1, .ref a2, .ref a3, .ref a4, .ref a5, .ref a6, .ref a7, .ref a8], cI M a0 1280 A, cZ M a1 3 hs, cI M a2 9 ht, cI M a3 9 bf, cI M a4 9 cu, cI M a5 32 fr, cI M a6 625 wo, cI M a7 625 wy, cI M a8 625 my]) := by
  refine kCI.of [(0, .ref h), (1, .int (zI x)), (2, .int (zI y)), (3, .int (zI v))] (by decide) (Nat.le_of_ble_eq_true rfl) rfl (fun E gg hret => ?_)
  have r1_hw := hw.1
  have r2_hw := hw.2
  have r1_hx := hx.1
  have r2_hx := hx.2
  have r1_hv := hv.1
  have r2_hv := hv.2
  refine z_aload_n (pc := 0) 0 gg dX11_sheet_0 rfl rfl ?_
  refine z_get (pc := 1) 0 gg fl_X11_7 dX11_sheet_1 rfl rfl ?_
  refine z_iconst (pc := 4) gg dX11_sheet_4 ?_
  refine z_iald (pc := 5) 1 4 gg dX11_sheet_5 rfl (by omega) (by omega) (by decide) ?_
  refine z_bipush (pc := 6) gg dX11_sheet_6 (by decide +kernel) ?_
  refine z_icmp_eq (pc := 8) 42 gg dX11_sheet_8 (by decide) ⟨by omega, by omega⟩ ⟨by omega, by omega⟩ (fun h8 => ?_) (fun h8 => ?_)
  · refine z_iconst (pc := 42) gg dX11_sheet_42 ?_
    exact hret (-1) () 43 _ _ _ (Nat.le_of_ble_eq_true rfl) (Nat.le_of_ble_eq_true rfl) dX11_sheet_43 rfl (by omega)
  · refine z_iload_n (pc := 11) 1 gg dX11_sheet_11 rfl rfl ?_
    refine z_iconst (pc := 12) gg dX11_sheet_12 ?_
    refine z_bipush (pc := 13) gg dX11_sheet_13 (by decide +kernel) ?_
    refine z_callS (pc := 15) (As := [.int (zI x), .int (zI 1), .int (zI 24)]) (st := []) gg (c_mIn M x (1 : Int) (24 : Int) (by first | assumption | omega | exact ⟨by omega, by omega⟩) (by first | assumption | omega | exact ⟨by omega, by omega⟩) (by first | assumption | omega | exact ⟨by omega, by omega⟩)) ys_11_isIn ml_X11_38 dX11_sheet_15 (by decide) (Nat.le_of_ble_eq_true rfl) (Nat.le_of_ble_eq_true rfl) (Nat.le_of_ble_eq_true rfl) rfl rfl (fun z15 u15 hz15 => ?_)
    refine z_if_eq (pc := 18) 42 gg dX11_sheet_18 (by decide) ⟨by omega, by omega⟩ (fun h18 => ?_) (fun h18 => ?_)
    · refine z_iconst (pc := 42) gg dX11_sheet_42 ?_
      exact hret (-1) () 43 _ _ _ (Nat.le_of_ble_eq_true rfl) (Nat.le_of_ble_eq_true rfl) dX11_sheet_43 rfl (by omega)
    · refine z_iload_n (pc := 21) 2 gg dX11_sheet_21 rfl rfl ?_
      refine z_iconst (pc := 22) gg dX11_sheet_22 ?_
      refine z_bipush (pc := 23) gg dX11_sheet_23 (by decide +kernel) ?_
      refine z_callS (pc := 25) (As := [.int (zI y), .int (zI 1), .int (zI 24)]) (st := []) gg (c_mIn M y (1 : Int) (24 : Int) (by first | assumption | omega | exact ⟨by omega, by omega⟩) (by first | assumption | omega | exact ⟨by omega, by omega⟩) (by first | assumption | omega | exact ⟨by omega, by omega⟩)) ys_11_isIn ml_X11_38 dX11_sheet_25 (by decide) (Nat.le_of_ble_eq_true rfl) (Nat.le_of_ble_eq_true rfl) (Nat.le_of_ble_eq_true rfl) rfl rfl (fun z25 u25 hz25 => ?_)
      refine z_if_eq (pc := 28) 42 gg dX11_sheet_28 (by decide) ⟨by omega, by omega⟩ (fun h28 => ?_) (fun h28 => ?_)
      · refine z_iconst (pc := 42) gg dX11_sheet_42 ?_
        exact hret (-1) () 43 _ _ _ (Nat.le_of_ble_eq_true rfl) (Nat.le_of_ble_eq_true rfl) dX11_sheet_43 rfl (by omega)
      · refine z_iload_n (pc := 31) 3 gg dX11_sheet_31 rfl rfl ?_
        refine z_iconst (pc := 32) gg dX11_sheet_32 ?_
        refine z_sipush (pc := 33) gg dX11_sheet_33 (by decide +kernel) ?_
        refine z_callS (pc := 36) (As := [.int (zI v), .int (zI 1), .int (zI 999)]) (st := []) gg (c_mIn M v (1 : Int) (999 : Int) (by first | assumption | omega | exact ⟨by omega, by omega⟩) (by first | assumption | omega | exact ⟨by omega, by omega⟩) (by first | assumption | omega | exact ⟨by omega, by omega⟩)) ys_11_isIn ml_X11_38 dX11_sheet_36 (by decide) (Nat.le_of_ble_eq_true rfl) (Nat.le_of_ble_eq_true rfl) (Nat.le_of_ble_eq_true rfl) rfl rfl (fun z36 u36 hz36 => ?_)
        refine z_if_ne (pc := 39) 44 gg dX11_sheet_39 (by decide) ⟨by omega, by omega⟩ (fun h39 => ?_) (fun h39 => ?_)
        · exfalso; omega
        · refine z_iconst (pc := 42) gg dX11_sheet_42 ?_
          exact hret (-1) () 43 _ _ _ (Nat.le_of_ble_eq_true rfl) (Nat.le_of_ble_eq_true rfl) dX11_sheet_43 rfl (by omega)
set_option maxHeartbeats 4000000 in
set_option maxRecDepth 100000 in
theorem c_m_image_ok (M : KM) (h a0 a1 a2 a3 a4 a5 a6 a7 a8 : Nat) (A hs ht bf cu fr wo wy my : Nat → Int) (k : Int) (hk : 0 ≤ k ∧ k < 3) : kCI M yX11_image cX11_image 3 .boolean 1 0 0 [cO 11 h [.ref a0, .ref a1, .ref a2, .ref a3, .ref a4, .ref a5, .ref a6, .ref a7, .ref a8], cI M a0 1280 A, cZ M a1 3 hs, cI M a2 9 ht, cI M a3 9 bf, cI M a4 9 cu, cI M a5 32 fr, cI M a6 625 wo, cI M a7 625 wy, cI M a8 625 my] [.ref h, .int (zI k)] (fun z (u : Unit) => z = 1) (fun u => [cO 11 h [.ref a0, .ref a1, .ref a2, .ref a3, .ref a4, .ref a5, .ref a6, .ref a7, .ref a8], cI M a0 1280 (cpA A 0 (320 * (k.toNat + 1)) 320), cZ M a1 3 (zU hs k.toNat 1), cI M a2 9 ht, cI M a3 9 bf, cI M a4 9 cu, cI M a5 32 fr, cI M a6 625 wo, cI M a7 625 wy, cI M a8 625 my]) := by
  refine kCI.of [(0, .ref h), (1, .int (zI k))] (by decide) (Nat.le_of_ble_eq_true rfl) rfl (fun E gg hret => ?_)
  refine z_iload_n (pc := 0) 1 gg dX11_image_0 rfl rfl ?_
  refine z_iconst (pc := 1) gg dX11_image_1 ?_
  refine z_iconst (pc := 2) gg dX11_image_2 ?_
  refine z_callS (pc := 3) (As := [.int (zI k), .int (zI 0), .int (zI 2)]) (st := []) gg (c_mIn M k (0 : Int) (2 : Int) (by first | assumption | omega | exact ⟨by omega, by omega⟩) (by first | assumption | omega | exact ⟨by omega, by omega⟩) (by first | assumption | omega | exact ⟨by omega, by omega⟩)) ys_11_isIn ml_X11_38 dX11_image_3 (by decide) (Nat.le_of_ble_eq_true rfl) (Nat.le_of_ble_eq_true rfl) (Nat.le_of_ble_eq_true rfl) rfl rfl (fun z3 u3 hz3 => ?_)
  refine z_if_ne (pc := 6) 11 gg dX11_image_6 (by decide) ⟨by omega, by omega⟩ (fun h6 => ?_) (fun h6 => ?_)
  · refine z_aload_n (pc := 11) 0 gg dX11_image_11 rfl rfl ?_
    refine z_get (pc := 12) 0 gg fl_X11_13 dX11_image_12 rfl rfl ?_
    refine z_iload_n (pc := 15) 1 gg dX11_image_15 rfl rfl ?_
    refine z_iconst (pc := 16) gg dX11_image_16 ?_
    refine z_zast (pc := 17) 2 k.toNat [cO 11 h [.ref a0, .ref a1, .ref a2, .ref a3, .ref a4, .ref a5, .ref a6, .ref a7, .ref a8], cI M a0 1280 A, cZ M a1 3 (zU hs k.toNat 1), cI M a2 9 ht, cI M a3 9 bf, cI M a4 9 cu, cI M a5 32 fr, cI M a6 625 wo, cI M a7 625 wy, cI M a8 625 my] gg dX11_image_17 rfl (by omega) (by omega) (by decide) (by omega) rfl ?_
    refine z_iconst (pc := 18) gg dX11_image_18 ?_
    refine z_istore_n (pc := 19) [(2, .int (zI 0)), (0, .ref h), (1, .int (zI k))] gg dX11_image_19 rfl (Nat.le_of_ble_eq_true rfl) rfl ?_
    have loop20 : ∀ (k20 : Nat) (i : Int) (f : Nat → Int), (0 ≤ i ∧ i ≤ 320) → (f = cpA A 0 (320 * (k.toNat + 1)) i.toNat) → 320 - i.toNat < k20 → kV M E 3 0 0 [cO 11 h [.ref a0, .ref a1, .ref a2, .ref a3, .ref a4, .ref a5, .ref a6, .ref a7, .ref a8], cI M a0 1280 f, cZ M a1 3 (zU hs k.toNat 1), cI M a2 9 ht, cI M a3 9 bf, cI M a4 9 cu, cI M a5 32 fr, cI M a6 625 wo, cI M a7 625 wy, cI M a8 625 my] [(2, .int (zI i)), (0, .ref h), (1, .int (zI k))] 20 [] := by
      intro k20
      induction k20 with
      | zero => intro i f hi hg hm20; exact absurd hm20 (Nat.not_lt_zero _)
      | succ k20 ih20 =>
        intro i f hi hg hm20
        refine z_iload_n (pc := 20) 0 gg dX11_image_20 rfl rfl ?_
        refine z_sipush (pc := 21) gg dX11_image_21 (by decide +kernel) ?_
        refine z_icmp_ge (pc := 24) 53 gg dX11_image_24 (by decide) ⟨by omega, by omega⟩ ⟨by omega, by omega⟩ (fun h24 => ?_) (fun h24 => ?_)
        · refine z_iconst (pc := 53) gg dX11_image_53 ?_
          have en : i.toNat = 320 := by omega
          rw [en] at hg
          subst hg
          exact hret 1 () 54 _ _ _ (Nat.le_of_ble_eq_true rfl) (Nat.le_of_ble_eq_true rfl) dX11_image_54 (zB01 (by omega)) rfl
        · have fi : f i.toNat = A (0 + i.toNat) := by rw [hg, cpA_out (by omega), Nat.zero_add]
          refine z_aload_n (pc := 27) 1 gg dX11_image_27 rfl rfl ?_
          refine z_get (pc := 28) 0 gg fl_X11_7 dX11_image_28 rfl rfl ?_
          refine z_sipush (pc := 31) gg dX11_image_31 (by decide +kernel) ?_
          refine z_iload_n (pc := 34) 2 gg dX11_image_34 rfl rfl ?_
          refine z_iconst (pc := 35) gg dX11_image_35 ?_
          refine z_iadd (pc := 36) gg dX11_image_36 ?_
          refine z_imul (pc := 37) gg dX11_image_37 ?_
          refine z_iload_n (pc := 38) 0 gg dX11_image_38 rfl rfl ?_
          refine z_iadd (pc := 39) gg dX11_image_39 ?_
          refine z_aload_n (pc := 40) 1 gg dX11_image_40 rfl rfl ?_
          refine z_get (pc := 41) 0 gg fl_X11_7 dX11_image_41 rfl rfl ?_
          refine z_iload_n (pc := 44) 0 gg dX11_image_44 rfl rfl ?_
          refine z_iald (pc := 45) 1 i.toNat gg dX11_image_45 rfl (by omega) (by omega) (by decide) ?_
          refine z_iast (pc := 46) 1 ((320 * (k.toNat + 1)) + i.toNat) [cO 11 h [.ref a0, .ref a1, .ref a2, .ref a3, .ref a4, .ref a5, .ref a6, .ref a7, .ref a8], cI M a0 1280 (zU f ((320 * (k.toNat + 1)) + i.toNat) (f i.toNat)), cZ M a1 3 (zU hs k.toNat 1), cI M a2 9 ht, cI M a3 9 bf, cI M a4 9 cu, cI M a5 32 fr, cI M a6 625 wo, cI M a7 625 wy, cI M a8 625 my] gg dX11_image_46 rfl (by omega) (by omega) (by decide) rfl ?_
          refine z_iinc (pc := 47) 0 [(2, .int (zI (i + 1))), (0, .ref h), (1, .int (zI k))] gg dX11_image_47 rfl (Nat.le_of_ble_eq_true rfl) rfl ?_
          refine z_goto (pc := 50) 20 gg dX11_image_50 (by decide) ?_
          exact ih20 (i + 1) (zU f ((320 * (k.toNat + 1)) + i.toNat) (f i.toNat)) (by omega) (by rw [show (i + 1).toNat = i.toNat + 1 by omega, ← cpA_s, fi, hg]) (by omega)
    exact loop20 _ 0 A (by omega) (cpA_0 A _ _).symm (Nat.lt_succ_self _)
  · exfalso; omega
set_option maxHeartbeats 4000000 in
set_option maxRecDepth 100000 in
theorem c_m_image_no (M : KM) (h a0 a1 a2 a3 a4 a5 a6 a7 a8 : Nat) (A hs ht bf cu fr wo wy my : Nat → Int) (k : Int) (hr : zR k) (hk : k < 0 ∨ 3 ≤ k) : kCI M yX11_image cX11_image 3 .boolean 1 0 0 [cO 11 h [.ref a0, .ref a1, .ref a2, .ref a3, .ref a4, .ref a5, .ref a6, .ref a7, .ref a8], cI M a0 1280 A, cZ M a1 3 hs, cI M a2 9 ht, cI M a3 9 bf, cI M a4 9 cu, cI M a5 32 fr, cI M a6 625 wo, cI M a7 625 wy, cI M a8 625 my] [.ref h, .int (zI k)] (fun z (u : Unit) => z = 0) (fun u => [cO 11 h [.ref a0, .ref a1, .ref a2, .ref a3, .ref a4, .ref a5, .ref a6, .ref a7, .ref a8], cI M a0 1280 A, cZ M a1 3 hs, cI M a2 9 ht, cI M a3 9 bf, cI M a4 9 cu, cI M a5 32 fr, cI M a6 625 wo, cI M a7 625 wy, cI M a8 625 my]) := by
  refine kCI.of [(0, .ref h), (1, .int (zI k))] (by decide) (Nat.le_of_ble_eq_true rfl) rfl (fun E gg hret => ?_)
  have r1_hr := hr.1
  have r2_hr := hr.2
  refine z_iload_n (pc := 0) 1 gg dX11_image_0 rfl rfl ?_
  refine z_iconst (pc := 1) gg dX11_image_1 ?_
  refine z_iconst (pc := 2) gg dX11_image_2 ?_
  refine z_callS (pc := 3) (As := [.int (zI k), .int (zI 0), .int (zI 2)]) (st := []) gg (c_mIn M k (0 : Int) (2 : Int) (by first | assumption | omega | exact ⟨by omega, by omega⟩) (by first | assumption | omega | exact ⟨by omega, by omega⟩) (by first | assumption | omega | exact ⟨by omega, by omega⟩)) ys_11_isIn ml_X11_38 dX11_image_3 (by decide) (Nat.le_of_ble_eq_true rfl) (Nat.le_of_ble_eq_true rfl) (Nat.le_of_ble_eq_true rfl) rfl rfl (fun z3 u3 hz3 => ?_)
  refine z_if_ne (pc := 6) 11 gg dX11_image_6 (by decide) ⟨by omega, by omega⟩ (fun h6 => ?_) (fun h6 => ?_)
  · exfalso; omega
  · refine z_iconst (pc := 9) gg dX11_image_9 ?_
    exact hret 0 () 10 _ _ _ (Nat.le_of_ble_eq_true rfl) (Nat.le_of_ble_eq_true rfl) dX11_image_10 (zB01 (by omega)) (by omega)
set_option maxHeartbeats 4000000 in
set_option maxRecDepth 100000 in
theorem c_m_again_ok (M : KM) (h a0 a1 a2 a3 a4 a5 a6 a7 a8 : Nat) (A hs ht bf cu fr wo wy my : Nat → Int) (k : Int) (hk : 0 ≤ k ∧ k < 3) (hh : hs k.toNat = 1) : kCI M yX11_again cX11_again 3 .boolean 1 0 0 [cO 11 h [.ref a0, .ref a1, .ref a2, .ref a3, .ref a4, .ref a5, .ref a6, .ref a7, .ref a8], cI M a0 1280 A, cZ M a1 3 hs, cI M a2 9 ht, cI M a3 9 bf, cI M a4 9 cu, cI M a5 32 fr, cI M a6 625 wo, cI M a7 625 wy, cI M a8 625 my] [.ref h, .int (zI k)] (fun z (u : Unit) => z = 1) (fun u => [cO 11 h [.ref a0, .ref a1, .ref a2, .ref a3, .ref a4, .ref a5, .ref a6, .ref a7, .ref a8], cI M a0 1280 (cpA A (320 * (k.toNat + 1)) 0 320), cZ M a1 3 hs, cI M a2 9 ht, cI M a3 9 bf, cI M a4 9 cu, cI M a5 32 fr, cI M a6 625 wo, cI M a7 625 wy, cI M a8 625 my]) := by
  refine kCI.of [(0, .ref h), (1, .int (zI k))] (by decide) (Nat.le_of_ble_eq_true rfl) rfl (fun E gg hret => ?_)
  refine z_iload_n (pc := 0) 1 gg dX11_again_0 rfl rfl ?_
  refine z_iconst (pc := 1) gg dX11_again_1 ?_
  refine z_iconst (pc := 2) gg dX11_again_2 ?_
  refine z_callS (pc := 3) (As := [.int (zI k), .int (zI 0), .int (zI 2)]) (st := []) gg (c_mIn M k (0 : Int) (2 : Int) (by first | assumption | omega | exact ⟨by omega, by omega⟩) (by first | assumption | omega | exact ⟨by omega, by omega⟩) (by first | assumption | omega | exact ⟨by omega, by omega⟩)) ys_11_isIn ml_X11_38 dX11_again_3 (by decide) (Nat.le_of_ble_eq_true rfl) (Nat.le_of_ble_eq_true rfl) (Nat.le_of_ble_eq_true rfl) rfl rfl (fun z3 u3 hz3 => ?_)
  refine z_if_eq (pc := 6) 18 gg dX11_again_6 (by decide) ⟨by omega, by omega⟩ (fun h6 => ?_) (fun h6 => ?_)
  · exfalso; omega
  · refine z_aload_n (pc := 9) 0 gg dX11_again_9 rfl rfl ?_
    refine z_get (pc := 10) 0 gg fl_X11_13 dX11_again_10 rfl rfl ?_
    refine z_iload_n (pc := 13) 1 gg dX11_again_13 rfl rfl ?_
    refine z_zald (pc := 14) 2 k.toNat gg dX11_again_14 rfl (by omega) (by omega) (by decide) ?_
    refine z_if_ne (pc := 15) 20 gg dX11_again_15 (by decide) ⟨by omega, by omega⟩ (fun h15 => ?_) (fun h15 => ?_)
    · refine z_iconst (pc := 20) gg dX11_again_20 ?_
      refine z_istore_n (pc := 21) [(2, .int (zI 0)), (0, .ref h), (1, .int (zI k))] gg dX11_again_21 rfl (Nat.le_of_ble_eq_true rfl) rfl ?_
      have loop22 : ∀ (k22 : Nat) (i : Int) (f : Nat → Int), (0 ≤ i ∧ i ≤ 320) → (f = cpA A (320 * (k.toNat + 1)) 0 i.toNat) → 320 - i.toNat < k22 → kV M E 3 0 0 [cO 11 h [.ref a0, .ref a1, .ref a2, .ref a3, .ref a4, .ref a5, .ref a6, .ref a7, .ref a8], cI M a0 1280 f, cZ M a1 3 hs, cI M a2 9 ht, cI M a3 9 bf, cI M a4 9 cu, cI M a5 32 fr, cI M a6 625 wo, cI M a7 625 wy, cI M a8 625 my] [(2, .int (zI i)), (0, .ref h), (1, .int (zI k))] 22 [] := by
        intro k22
        induction k22 with
        | zero => intro i f hi hg hm22; exact absurd hm22 (Nat.not_lt_zero _)
        | succ k22 ih22 =>
          intro i f hi hg hm22
          have fi : f ((320 * (k.toNat + 1)) + i.toNat) = A ((320 * (k.toNat + 1)) + i.toNat) := by rw [hg, cpA_out (by omega)]
          refine z_iload_n (pc := 22) 0 gg dX11_again_22 rfl rfl ?_
          refine z_sipush (pc := 23) gg dX11_again_23 (by decide +kernel) ?_
          refine z_icmp_ge (pc := 26) 55 gg dX11_again_26 (by decide) ⟨by omega, by omega⟩ ⟨by omega, by omega⟩ (fun h26 => ?_) (fun h26 => ?_)
          · refine z_iconst (pc := 55) gg dX11_again_55 ?_
            have en : i.toNat = 320 := by omega
            rw [en] at hg
            subst hg
            exact hret 1 () 56 _ _ _ (Nat.le_of_ble_eq_true rfl) (Nat.le_of_ble_eq_true rfl) dX11_again_56 (zB01 (by omega)) rfl
          · refine z_aload_n (pc := 29) 1 gg dX11_again_29 rfl rfl ?_
            refine z_get (pc := 30) 0 gg fl_X11_7 dX11_again_30 rfl rfl ?_
            refine z_iload_n (pc := 33) 0 gg dX11_again_33 rfl rfl ?_
            refine z_aload_n (pc := 34) 1 gg dX11_again_34 rfl rfl ?_
            refine z_get (pc := 35) 0 gg fl_X11_7 dX11_again_35 rfl rfl ?_
            refine z_sipush (pc := 38) gg dX11_again_38 (by decide +kernel) ?_
            refine z_iload_n (pc := 41) 2 gg dX11_again_41 rfl rfl ?_
            refine z_iconst (pc := 42) gg dX11_again_42 ?_
            refine z_iadd (pc := 43) gg dX11_again_43 ?_
            refine z_imul (pc := 44) gg dX11_again_44 ?_
            refine z_iload_n (pc := 45) 0 gg dX11_again_45 rfl rfl ?_
            refine z_iadd (pc := 46) gg dX11_again_46 ?_
            refine z_iald (pc := 47) 1 ((320 * (k.toNat + 1)) + i.toNat) gg dX11_again_47 rfl (by omega) (by omega) (by decide) ?_
            refine z_iast (pc := 48) 1 i.toNat [cO 11 h [.ref a0, .ref a1, .ref a2, .ref a3, .ref a4, .ref a5, .ref a6, .ref a7, .ref a8], cI M a0 1280 (zU f i.toNat (f ((320 * (k.toNat + 1)) + i.toNat))), cZ M a1 3 hs, cI M a2 9 ht, cI M a3 9 bf, cI M a4 9 cu, cI M a5 32 fr, cI M a6 625 wo, cI M a7 625 wy, cI M a8 625 my] gg dX11_again_48 rfl (by omega) (by omega) (by decide) rfl ?_
            refine z_iinc (pc := 49) 0 [(2, .int (zI (i + 1))), (0, .ref h), (1, .int (zI k))] gg dX11_again_49 rfl (Nat.le_of_ble_eq_true rfl) rfl ?_
            refine z_goto (pc := 52) 22 gg dX11_again_52 (by decide) ?_
            exact ih22 (i + 1) (zU f i.toNat (f ((320 * (k.toNat + 1)) + i.toNat))) (by omega) (by rw [show (i + 1).toNat = i.toNat + 1 by omega, ← cpA_s, fi, hg, Nat.zero_add]) (by omega)
      exact loop22 _ 0 A (by omega) (cpA_0 A _ _).symm (Nat.lt_succ_self _)
    · exfalso; omega
set_option maxHeartbeats 4000000 in
set_option maxRecDepth 100000 in
theorem c_m_again_no (M : KM) (h a0 a1 a2 a3 a4 a5 a6 a7 a8 : Nat) (A hs ht bf cu fr wo wy my : Nat → Int) (k : Int) (hr : zR k) (hk : k < 0 ∨ 3 ≤ k ∨ (0 ≤ k ∧ k < 3 ∧ hs k.toNat = 0)) : kCI M yX11_again cX11_again 3 .boolean 1 0 0 [cO 11 h [.ref a0, .ref a1, .ref a2, .ref a3, .ref a4, .ref a5, .ref a6, .ref a7, .ref a8], cI M a0 1280 A, cZ M a1 3 hs, cI M a2 9 ht, cI M a3 9 bf, cI M a4 9 cu, cI M a5 32 fr, cI M a6 625 wo, cI M a7 625 wy, cI M a8 625 my] [.ref h, .int (zI k)] (fun z (u : Unit) => z = 0) (fun u => [cO 11 h [.ref a0, .ref a1, .ref a2, .ref a3, .ref a4, .ref a5, .ref a6, .ref a7, .ref a8], cI M a0 1280 A, cZ M a1 3 hs, cI M a2 9 ht, cI M a3 9 bf, cI M a4 9 cu, cI M a5 32 fr, cI M a6 625 wo, cI M a7 625 wy, cI M a8 625 my]) := by
  refine kCI.of [(0, .ref h), (1, .int (zI k))] (by decide) (Nat.le_of_ble_eq_true rfl) rfl (fun E gg hret => ?_)
  have r1_hr := hr.1
  have r2_hr := hr.2
  refine z_iload_n (pc := 0) 1 gg dX11_again_0 rfl rfl ?_
  refine z_iconst (pc := 1) gg dX11_again_1 ?_
  refine z_iconst (pc := 2) gg dX11_again_2 ?_
  refine z_callS (pc := 3) (As := [.int (zI k), .int (zI 0), .int (zI 2)]) (st := []) gg (c_mIn M k (0 : Int) (2 : Int) (by first | assumption | omega | exact ⟨by omega, by omega⟩) (by first | assumption | omega | exact ⟨by omega, by omega⟩) (by first | assumption | omega | exact ⟨by omega, by omega⟩)) ys_11_isIn ml_X11_38 dX11_again_3 (by decide) (Nat.le_of_ble_eq_true rfl) (Nat.le_of_ble_eq_true rfl) (Nat.le_of_ble_eq_true rfl) rfl rfl (fun z3 u3 hz3 => ?_)
  refine z_if_eq (pc := 6) 18 gg dX11_again_6 (by decide) ⟨by omega, by omega⟩ (fun h6 => ?_) (fun h6 => ?_)
  · refine z_iconst (pc := 18) gg dX11_again_18 ?_
    exact hret 0 () 19 _ _ _ (Nat.le_of_ble_eq_true rfl) (Nat.le_of_ble_eq_true rfl) dX11_again_19 (zB01 (by omega)) (by omega)
  · refine z_aload_n (pc := 9) 0 gg dX11_again_9 rfl rfl ?_
    refine z_get (pc := 10) 0 gg fl_X11_13 dX11_again_10 rfl rfl ?_
    refine z_iload_n (pc := 13) 1 gg dX11_again_13 rfl rfl ?_
    refine z_zald (pc := 14) 2 k.toNat gg dX11_again_14 rfl (by omega) (by omega) (by decide) ?_
    refine z_if_ne (pc := 15) 20 gg dX11_again_15 (by decide) ⟨by omega, by omega⟩ (fun h15 => ?_) (fun h15 => ?_)
    · exfalso; omega
    · refine z_iconst (pc := 18) gg dX11_again_18 ?_
      exact hret 0 () 19 _ _ _ (Nat.le_of_ble_eq_true rfl) (Nat.le_of_ble_eq_true rfl) dX11_again_19 (zB01 (by omega)) (by omega)
