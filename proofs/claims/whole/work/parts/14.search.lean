set_option maxHeartbeats 4000000 in
set_option maxRecDepth 100000 in
theorem c_R_init (M : KM) (h : Nat)  : kCV M yX7_init cX7_init 1 1 5 160 [cO 7 h [.null, .null, .null, .null, .null, .int (zI 0)]] [.ref h] (fun u : Nat × Nat × Nat × Nat × Nat => True) (fun u => [cO 7 h [.ref u.1, .ref u.2.1, .ref u.2.2.1, .ref u.2.2.2.1, .ref u.2.2.2.2, .int (zI 0)], cZ M u.1 32 (fun _ => 0), cI M u.2.1 32 (fun _ => 0), cI M u.2.2.1 32 (fun _ => 0), cI M u.2.2.2.1 32 (fun _ => 0), cI M u.2.2.2.2 32 (fun _ => 0)]) := by
  refine kCV.of [(0, .ref h)] (by decide) (Nat.le_of_ble_eq_true rfl) rfl (fun E gg gn hret => ?_)
  refine z_aload_n (pc := 0) 0 gg dX7_init_0 rfl rfl ?_
  refine z_obj (pc := 1) gg dX7_init_1 ml_X7_7 oi_1 oi_2 (by decide) (Nat.le_of_ble_eq_true rfl) ?_
  refine z_aload_n (pc := 4) 0 gg dX7_init_4 rfl rfl ?_
  refine z_bipush (pc := 5) gg dX7_init_5 (by decide +kernel) ?_
  refine z_newaZ (pc := 7) gg dX7_init_7 ar_Z rfl (by decide) (Nat.le_of_ble_eq_true rfl) (Nat.le_of_ble_eq_true rfl) (fun q1 => ?_)
  show kV M E 1 _ _ [cO 7 h [.null, .null, .null, .null, .null, .int (zI 0)], cZ M q1 32 (fun _ => 0)] _ _ _
  refine z_putF (pc := 9) 0 [cO 7 h [.ref q1, .null, .null, .null, .null, .int (zI 0)], cZ M q1 32 (fun _ => 0)] gg gn fp_X7_13 dX7_init_9 rfl rfl rfl (Nat.le_of_ble_eq_true rfl) rfl ?_
  refine z_aload_n (pc := 12) 0 gg dX7_init_12 rfl rfl ?_
  refine z_bipush (pc := 13) gg dX7_init_13 (by decide +kernel) ?_
  refine z_newaI (pc := 15) gg dX7_init_15 ar_I rfl (by decide) (Nat.le_of_ble_eq_true rfl) (Nat.le_of_ble_eq_true rfl) (fun q2 => ?_)
  show kV M E 1 _ _ [cO 7 h [.ref q1, .null, .null, .null, .null, .int (zI 0)], cZ M q1 32 (fun _ => 0), cI M q2 32 (fun _ => 0)] _ _ _
  refine z_putF (pc := 17) 0 [cO 7 h [.ref q1, .ref q2, .null, .null, .null, .int (zI 0)], cZ M q1 32 (fun _ => 0), cI M q2 32 (fun _ => 0)] gg gn fp_X7_17 dX7_init_17 rfl rfl rfl (Nat.le_of_ble_eq_true rfl) rfl ?_
  refine z_aload_n (pc := 20) 0 gg dX7_init_20 rfl rfl ?_
  refine z_bipush (pc := 21) gg dX7_init_21 (by decide +kernel) ?_
  refine z_newaI (pc := 23) gg dX7_init_23 ar_I rfl (by decide) (Nat.le_of_ble_eq_true rfl) (Nat.le_of_ble_eq_true rfl) (fun q3 => ?_)
  show kV M E 1 _ _ [cO 7 h [.ref q1, .ref q2, .null, .null, .null, .int (zI 0)], cZ M q1 32 (fun _ => 0), cI M q2 32 (fun _ => 0), cI M q3 32 (fun _ => 0)] _ _ _
  refine z_putF (pc := 25) 0 [cO 7 h [.ref q1, .ref q2, .ref q3, .null, .null, .int (zI 0)], cZ M q1 32 (fun _ => 0), cI M q2 32 (fun _ => 0), cI M q3 32 (fun _ => 0)] gg gn fp_X7_21 dX7_init_25 rfl rfl rfl (Nat.le_of_ble_eq_true rfl) rfl ?_
  refine z_aload_n (pc := 28) 0 gg dX7_init_28 rfl rfl ?_
  refine z_bipush (pc := 29) gg dX7_init_29 (by decide +kernel) ?_
  refine z_newaI (pc := 31) gg dX7_init_31 ar_I rfl (by decide) (Nat.le_of_ble_eq_true rfl) (Nat.le_of_ble_eq_true rfl) (fun q4 => ?_)
  show kV M E 1 _ _ [cO 7 h [.ref q1, .ref q2, .ref q3, .null, .null, .int (zI 0)], cZ M q1 32 (fun _ => 0), cI M q2 32 (fun _ => 0), cI M q3 32 (fun _ => 0), cI M q4 32 (fun _ => 0)] _ _ _
  refine z_putF (pc := 33) 0 [cO 7 h [.ref q1, .ref q2, .ref q3, .ref q4, .null, .int (zI 0)], cZ M q1 32 (fun _ => 0), cI M q2 32 (fun _ => 0), cI M q3 32 (fun _ => 0), cI M q4 32 (fun _ => 0)] gg gn fp_X7_24 dX7_init_33 rfl rfl rfl (Nat.le_of_ble_eq_true rfl) rfl ?_
  refine z_aload_n (pc := 36) 0 gg dX7_init_36 rfl rfl ?_
  refine z_bipush (pc := 37) gg dX7_init_37 (by decide +kernel) ?_
  refine z_newaI (pc := 39) gg dX7_init_39 ar_I rfl (by decide) (Nat.le_of_ble_eq_true rfl) (Nat.le_of_ble_eq_true rfl) (fun q5 => ?_)
  show kV M E 1 _ _ [cO 7 h [.ref q1, .ref q2, .ref q3, .ref q4, .null, .int (zI 0)], cZ M q1 32 (fun _ => 0), cI M q2 32 (fun _ => 0), cI M q3 32 (fun _ => 0), cI M q4 32 (fun _ => 0), cI M q5 32 (fun _ => 0)] _ _ _
  refine z_putF (pc := 41) 0 [cO 7 h [.ref q1, .ref q2, .ref q3, .ref q4, .ref q5, .int (zI 0)], cZ M q1 32 (fun _ => 0), cI M q2 32 (fun _ => 0), cI M q3 32 (fun _ => 0), cI M q4 32 (fun _ => 0), cI M q5 32 (fun _ => 0)] gg gn fp_X7_27 dX7_init_41 rfl rfl rfl (Nat.le_of_ble_eq_true rfl) rfl ?_
  refine z_aload_n (pc := 44) 0 gg dX7_init_44 rfl rfl ?_
  refine z_iconst (pc := 45) gg dX7_init_45 ?_
  refine z_put (pc := 46) 0 [cO 7 h [.ref q1, .ref q2, .ref q3, .ref q4, .ref q5, .int (zI 0)], cZ M q1 32 (fun _ => 0), cI M q2 32 (fun _ => 0), cI M q3 32 (fun _ => 0), cI M q4 32 (fun _ => 0), cI M q5 32 (fun _ => 0)] gg fp_X7_30 dX7_init_46 rfl rfl rfl (Nat.le_of_ble_eq_true rfl) rfl ?_
  exact hret (q1, q2, q3, q4, q5) 49 _ _ _ (Nat.le_of_ble_eq_true rfl) (Nat.le_of_ble_eq_true rfl) dX7_init_49 trivial
set_option maxHeartbeats 4000000 in
set_option maxRecDepth 100000 in
theorem c_R_eventAt (M : KM) (h s0 q0 f0 b0 r0 : Nat) (n : Int) (fs fq ff fb fr : Nat → Int) (k : Int) (hk : zR k) : kCI M yX7_eventAt cX7_eventAt 2 .int 0 0 0 [cO 7 h [.ref s0, .ref q0, .ref f0, .ref b0, .ref r0, .int (zI n)], cZ M s0 32 fs, cI M q0 32 fq, cI M f0 32 ff, cI M b0 32 fb, cI M r0 32 fr] [.ref h, .int (zI k)] (fun z (u : Unit) => (0 ≤ k ∧ k < 32 ∧ z = fr k.toNat) ∨ ((k < 0 ∨ 32 ≤ k) ∧ z = -1)) (fun u => [cO 7 h [.ref s0, .ref q0, .ref f0, .ref b0, .ref r0, .int (zI n)], cZ M s0 32 fs, cI M q0 32 fq, cI M f0 32 ff, cI M b0 32 fb, cI M r0 32 fr]) := by
  refine kCI.of [(0, .ref h), (1, .int (zI k))] (by decide) (Nat.le_of_ble_eq_true rfl) rfl (fun E gg hret => ?_)
  have r1_hk := hk.1
  have r2_hk := hk.2
  refine z_iload_n (pc := 0) 1 gg dX7_eventAt_0 rfl rfl ?_
  refine z_if_lt (pc := 1) 19 gg dX7_eventAt_1 (by decide) ⟨by omega, by omega⟩ (fun h1 => ?_) (fun h1 => ?_)
  · refine z_iconst (pc := 19) gg dX7_eventAt_19 ?_
    exact hret (-1) () 20 _ _ _ (Nat.le_of_ble_eq_true rfl) (Nat.le_of_ble_eq_true rfl) dX7_eventAt_20 rfl (by omega)
  · refine z_iload_n (pc := 4) 1 gg dX7_eventAt_4 rfl rfl ?_
    refine z_bipush (pc := 5) gg dX7_eventAt_5 (by decide +kernel) ?_
    refine z_icmp_ge (pc := 7) 19 gg dX7_eventAt_7 (by decide) ⟨by omega, by omega⟩ ⟨by omega, by omega⟩ (fun h7 => ?_) (fun h7 => ?_)
    · refine z_iconst (pc := 19) gg dX7_eventAt_19 ?_
      exact hret (-1) () 20 _ _ _ (Nat.le_of_ble_eq_true rfl) (Nat.le_of_ble_eq_true rfl) dX7_eventAt_20 rfl (by omega)
    · refine z_aload_n (pc := 10) 0 gg dX7_eventAt_10 rfl rfl ?_
      refine z_get (pc := 11) 0 gg fl_X7_27 dX7_eventAt_11 rfl rfl ?_
      refine z_iload_n (pc := 14) 1 gg dX7_eventAt_14 rfl rfl ?_
      refine z_iald (pc := 15) 5 k.toNat gg dX7_eventAt_15 rfl (by omega) (by omega) (by decide) ?_
      refine z_goto (pc := 16) 20 gg dX7_eventAt_16 (by decide) ?_
      exact hret (fr k.toNat) () 20 _ _ _ (Nat.le_of_ble_eq_true rfl) (Nat.le_of_ble_eq_true rfl) dX7_eventAt_20 rfl (by omega)
set_option maxHeartbeats 4000000 in
set_option maxRecDepth 100000 in
theorem c_R_dangerAfter (M : KM) (d e w : Int) (hd : 0 ≤ d ∧ d ≤ 3) (he : 0 ≤ e ∧ e < 4) (hw : w = 0 ∨ w = 1) : kCI M yX7_dangerAfter cX7_dangerAfter 3 .int 1 0 0 [] [.int (zI d), .int (zI e), .int (zI w)] (fun z (u : Unit) => (e = 1 ∧ z = 3) ∨ (e ≠ 1 ∧ w = 0 ∧ ((d < 1 ∧ z = 0) ∨ (1 ≤ d ∧ z = d - 1))) ∨ (e ≠ 1 ∧ w = 1 ∧ ((d < 2 ∧ z = 0) ∨ (2 ≤ d ∧ z = d - 2)))) (fun u => []) := by
  refine kCI.of [(0, .int (zI d)), (1, .int (zI e)), (2, .int (zI w))] (by decide) (Nat.le_of_ble_eq_true rfl) rfl (fun E gg hret => ?_)
  refine z_iload_n (pc := 0) 1 gg dX7_dangerAfter_0 rfl rfl ?_
  refine z_iconst (pc := 1) gg dX7_dangerAfter_1 ?_
  refine z_icmp_ne (pc := 2) 7 gg dX7_dangerAfter_2 (by decide) ⟨by omega, by omega⟩ ⟨by omega, by omega⟩ (fun h2 => ?_) (fun h2 => ?_)
  · refine z_iconst (pc := 7) gg dX7_dangerAfter_7 ?_
    refine z_iload_n (pc := 8) 0 gg dX7_dangerAfter_8 rfl rfl ?_
    refine z_iload_n (pc := 9) 2 gg dX7_dangerAfter_9 rfl rfl ?_
    refine z_if_eq (pc := 10) 17 gg dX7_dangerAfter_10 (by decide) ⟨by omega, by omega⟩ (fun h10 => ?_) (fun h10 => ?_)
    · refine z_iconst (pc := 17) gg dX7_dangerAfter_17 ?_
      refine z_isub (pc := 18) gg dX7_dangerAfter_18 ?_
      refine z_max (pc := 19) gg dX7_dangerAfter_19 ml_X7_57 mm_max1 mm_0 mm_max2 (by decide) (Nat.le_of_ble_eq_true rfl) (Nat.le_of_ble_eq_true rfl) (Nat.le_of_ble_eq_true rfl) ⟨by omega, by omega⟩ ⟨by omega, by omega⟩ ?_
      exact hret (if 0 < (d - 1) then (d - 1) else 0) () 22 _ _ _ (Nat.le_of_ble_eq_true rfl) (Nat.le_of_ble_eq_true rfl) dX7_dangerAfter_22 rfl (by split <;> omega)
    · refine z_iconst (pc := 13) gg dX7_dangerAfter_13 ?_
      refine z_goto (pc := 14) 18 gg dX7_dangerAfter_14 (by decide) ?_
      refine z_isub (pc := 18) gg dX7_dangerAfter_18 ?_
      refine z_max (pc := 19) gg dX7_dangerAfter_19 ml_X7_57 mm_max1 mm_0 mm_max2 (by decide) (Nat.le_of_ble_eq_true rfl) (Nat.le_of_ble_eq_true rfl) (Nat.le_of_ble_eq_true rfl) ⟨by omega, by omega⟩ ⟨by omega, by omega⟩ ?_
      exact hret (if 0 < (d - 2) then (d - 2) else 0) () 22 _ _ _ (Nat.le_of_ble_eq_true rfl) (Nat.le_of_ble_eq_true rfl) dX7_dangerAfter_22 rfl (by split <;> omega)
  · refine z_iconst (pc := 5) gg dX7_dangerAfter_5 ?_
    exact hret 3 () 6 _ _ _ (Nat.le_of_ble_eq_true rfl) (Nat.le_of_ble_eq_true rfl) dX7_dangerAfter_6 rfl (by omega)
set_option maxHeartbeats 4000000 in
set_option maxRecDepth 100000 in
theorem c_R_reach_new (M : KM) (h s0 q0 f0 b0 r0 : Nat) (n : Int) (fs fq ff fb fr : Nat → Int) (v f e : Int) (hn : 0 ≤ n ∧ n < 32) (hv : 0 ≤ v ∧ v < 32) (hs : fs v.toNat = 0) : kCI M yX7_reach cX7_reach 4 .boolean 0 0 0 [cO 7 h [.ref s0, .ref q0, .ref f0, .ref b0, .ref r0, .int (zI n)], cZ M s0 32 fs, cI M q0 32 fq, cI M f0 32 ff, cI M b0 32 fb, cI M r0 32 fr] [.ref h, .int (zI v), .int (zI f), .int (zI e)] (fun z (u : Unit) => z = 1) (fun u => [cO 7 h [.ref s0, .ref q0, .ref f0, .ref b0, .ref r0, .int (zI (n + 1))], cZ M s0 32 (zU fs v.toNat 1), cI M q0 32 (zU fq n.toNat v), cI M f0 32 (zU ff n.toNat f), cI M b0 32 (zU fb n.toNat e), cI M r0 32 fr]) := by
  refine kCI.of [(0, .ref h), (1, .int (zI v)), (2, .int (zI f)), (3, .int (zI e))] (by decide) (Nat.le_of_ble_eq_true rfl) rfl (fun E gg hret => ?_)
  refine z_iload_n (pc := 0) 1 gg dX7_reach_0 rfl rfl ?_
  refine z_if_lt (pc := 1) 35 gg dX7_reach_1 (by decide) ⟨by omega, by omega⟩ (fun h1 => ?_) (fun h1 => ?_)
  · exfalso; omega
  · refine z_iload_n (pc := 4) 1 gg dX7_reach_4 rfl rfl ?_
    refine z_bipush (pc := 5) gg dX7_reach_5 (by decide +kernel) ?_
    refine z_icmp_ge (pc := 7) 35 gg dX7_reach_7 (by decide) ⟨by omega, by omega⟩ ⟨by omega, by omega⟩ (fun h7 => ?_) (fun h7 => ?_)
    · exfalso; omega
    · refine z_aload_n (pc := 10) 0 gg dX7_reach_10 rfl rfl ?_
      refine z_get (pc := 11) 0 gg fl_X7_13 dX7_reach_11 rfl rfl ?_
      refine z_iload_n (pc := 14) 1 gg dX7_reach_14 rfl rfl ?_
      refine z_zald (pc := 15) 1 v.toNat gg dX7_reach_15 rfl (by omega) (by omega) (by decide) ?_
      refine z_if_ne (pc := 16) 35 gg dX7_reach_16 (by decide) ⟨by omega, by omega⟩ (fun h16 => ?_) (fun h16 => ?_)
      · exfalso; omega
      · refine z_aload_n (pc := 19) 0 gg dX7_reach_19 rfl rfl ?_
        refine z_get (pc := 20) 0 gg fl_X7_30 dX7_reach_20 rfl rfl ?_
        refine z_if_lt (pc := 23) 35 gg dX7_reach_23 (by decide) ⟨by omega, by omega⟩ (fun h23 => ?_) (fun h23 => ?_)
        · exfalso; omega
        · refine z_aload_n (pc := 26) 0 gg dX7_reach_26 rfl rfl ?_
          refine z_get (pc := 27) 0 gg fl_X7_30 dX7_reach_27 rfl rfl ?_
          refine z_bipush (pc := 30) gg dX7_reach_30 (by decide +kernel) ?_
          refine z_icmp_lt (pc := 32) 37 gg dX7_reach_32 (by decide) ⟨by omega, by omega⟩ ⟨by omega, by omega⟩ (fun h32 => ?_) (fun h32 => ?_)
          · refine z_aload_n (pc := 37) 0 gg dX7_reach_37 rfl rfl ?_
            refine z_get (pc := 38) 0 gg fl_X7_13 dX7_reach_38 rfl rfl ?_
            refine z_iload_n (pc := 41) 1 gg dX7_reach_41 rfl rfl ?_
            refine z_iconst (pc := 42) gg dX7_reach_42 ?_
            refine z_zast (pc := 43) 1 v.toNat [cO 7 h [.ref s0, .ref q0, .ref f0, .ref b0, .ref r0, .int (zI n)], cZ M s0 32 (zU fs v.toNat 1), cI M q0 32 fq, cI M f0 32 ff, cI M b0 32 fb, cI M r0 32 fr] gg dX7_reach_43 rfl (by omega) (by omega) (by decide) (by omega) rfl ?_
            refine z_aload_n (pc := 44) 0 gg dX7_reach_44 rfl rfl ?_
            refine z_get (pc := 45) 0 gg fl_X7_17 dX7_reach_45 rfl rfl ?_
            refine z_aload_n (pc := 48) 0 gg dX7_reach_48 rfl rfl ?_
            refine z_get (pc := 49) 0 gg fl_X7_30 dX7_reach_49 rfl rfl ?_
            refine z_iload_n (pc := 52) 1 gg dX7_reach_52 rfl rfl ?_
            refine z_iast (pc := 53) 2 n.toNat [cO 7 h [.ref s0, .ref q0, .ref f0, .ref b0, .ref r0, .int (zI n)], cZ M s0 32 (zU fs v.toNat 1), cI M q0 32 (zU fq n.toNat v), cI M f0 32 ff, cI M b0 32 fb, cI M r0 32 fr] gg dX7_reach_53 rfl (by omega) (by omega) (by decide) rfl ?_
            refine z_aload_n (pc := 54) 0 gg dX7_reach_54 rfl rfl ?_
            refine z_get (pc := 55) 0 gg fl_X7_21 dX7_reach_55 rfl rfl ?_
            refine z_aload_n (pc := 58) 0 gg dX7_reach_58 rfl rfl ?_
            refine z_get (pc := 59) 0 gg fl_X7_30 dX7_reach_59 rfl rfl ?_
            refine z_iload_n (pc := 62) 2 gg dX7_reach_62 rfl rfl ?_
            refine z_iast (pc := 63) 3 n.toNat [cO 7 h [.ref s0, .ref q0, .ref f0, .ref b0, .ref r0, .int (zI n)], cZ M s0 32 (zU fs v.toNat 1), cI M q0 32 (zU fq n.toNat v), cI M f0 32 (zU ff n.toNat f), cI M b0 32 fb, cI M r0 32 fr] gg dX7_reach_63 rfl (by omega) (by omega) (by decide) rfl ?_
            refine z_aload_n (pc := 64) 0 gg dX7_reach_64 rfl rfl ?_
            refine z_get (pc := 65) 0 gg fl_X7_24 dX7_reach_65 rfl rfl ?_
            refine z_aload_n (pc := 68) 0 gg dX7_reach_68 rfl rfl ?_
            refine z_get (pc := 69) 0 gg fl_X7_30 dX7_reach_69 rfl rfl ?_
            refine z_iload_n (pc := 72) 3 gg dX7_reach_72 rfl rfl ?_
            refine z_iast (pc := 73) 4 n.toNat [cO 7 h [.ref s0, .ref q0, .ref f0, .ref b0, .ref r0, .int (zI n)], cZ M s0 32 (zU fs v.toNat 1), cI M q0 32 (zU fq n.toNat v), cI M f0 32 (zU ff n.toNat f), cI M b0 32 (zU fb n.toNat e), cI M r0 32 fr] gg dX7_reach_73 rfl (by omega) (by omega) (by decide) rfl ?_
            refine z_aload_n (pc := 74) 0 gg dX7_reach_74 rfl rfl ?_
            refine z_dup (pc := 75) gg dX7_reach_75 rfl ?_
            refine z_get (pc := 76) 0 gg fl_X7_30 dX7_reach_76 rfl rfl ?_
            refine z_iconst (pc := 79) gg dX7_reach_79 ?_
            refine z_iadd (pc := 80) gg dX7_reach_80 ?_
            refine z_put (pc := 81) 0 [cO 7 h [.ref s0, .ref q0, .ref f0, .ref b0, .ref r0, .int (zI (n + 1))], cZ M s0 32 (zU fs v.toNat 1), cI M q0 32 (zU fq n.toNat v), cI M f0 32 (zU ff n.toNat f), cI M b0 32 (zU fb n.toNat e), cI M r0 32 fr] gg fp_X7_30 dX7_reach_81 rfl rfl rfl (Nat.le_of_ble_eq_true rfl) rfl ?_
            refine z_iconst (pc := 84) gg dX7_reach_84 ?_
            exact hret 1 () 85 _ _ _ (Nat.le_of_ble_eq_true rfl) (Nat.le_of_ble_eq_true rfl) dX7_reach_85 (zB01 (by omega)) (by omega)
          · exfalso; omega
set_option maxHeartbeats 4000000 in
set_option maxRecDepth 100000 in
theorem c_R_reach_old (M : KM) (h s0 q0 f0 b0 r0 : Nat) (n : Int) (fs fq ff fb fr : Nat → Int) (v f e : Int) (hv : 0 ≤ v ∧ v < 32) (hs : fs v.toNat = 1) : kCI M yX7_reach cX7_reach 4 .boolean 0 0 0 [cO 7 h [.ref s0, .ref q0, .ref f0, .ref b0, .ref r0, .int (zI n)], cZ M s0 32 fs, cI M q0 32 fq, cI M f0 32 ff, cI M b0 32 fb, cI M r0 32 fr] [.ref h, .int (zI v), .int (zI f), .int (zI e)] (fun z (u : Unit) => z = 0) (fun u => [cO 7 h [.ref s0, .ref q0, .ref f0, .ref b0, .ref r0, .int (zI n)], cZ M s0 32 fs, cI M q0 32 fq, cI M f0 32 ff, cI M b0 32 fb, cI M r0 32 fr]) := by
  refine kCI.of [(0, .ref h), (1, .int (zI v)), (2, .int (zI f)), (3, .int (zI e))] (by decide) (Nat.le_of_ble_eq_true rfl) rfl (fun E gg hret => ?_)
  refine z_iload_n (pc := 0) 1 gg dX7_reach_0 rfl rfl ?_
  refine z_if_lt (pc := 1) 35 gg dX7_reach_1 (by decide) ⟨by omega, by omega⟩ (fun h1 => ?_) (fun h1 => ?_)
  · exfalso; omega
  · refine z_iload_n (pc := 4) 1 gg dX7_reach_4 rfl rfl ?_
    refine z_bipush (pc := 5) gg dX7_reach_5 (by decide +kernel) ?_
    refine z_icmp_ge (pc := 7) 35 gg dX7_reach_7 (by decide) ⟨by omega, by omega⟩ ⟨by omega, by omega⟩ (fun h7 => ?_) (fun h7 => ?_)
    · exfalso; omega
    · refine z_aload_n (pc := 10) 0 gg dX7_reach_10 rfl rfl ?_
      refine z_get (pc := 11) 0 gg fl_X7_13 dX7_reach_11 rfl rfl ?_
      refine z_iload_n (pc := 14) 1 gg dX7_reach_14 rfl rfl ?_
      refine z_zald (pc := 15) 1 v.toNat gg dX7_reach_15 rfl (by omega) (by omega) (by decide) ?_
      refine z_if_ne (pc := 16) 35 gg dX7_reach_16 (by decide) ⟨by omega, by omega⟩ (fun h16 => ?_) (fun h16 => ?_)
      · refine z_iconst (pc := 35) gg dX7_reach_35 ?_
        exact hret 0 () 36 _ _ _ (Nat.le_of_ble_eq_true rfl) (Nat.le_of_ble_eq_true rfl) dX7_reach_36 (zB01 (by omega)) (by omega)
      · exfalso; omega
set_option maxHeartbeats 4000000 in
set_option maxRecDepth 100000 in
theorem c_R_writeRow (M : KM) (h s0 q0 f0 b0 r0 : Nat) (n : Int) (fs fq ff fb fr : Nat → Int) (a : Int) (fn : Nat → Nat) (L : Nat) (hl : 1 ≤ a ∧ a < 32) (hL : L ≤ 31) (he : anc fn a.toNat L = 0) (hc : ∀ j, j < L → 1 ≤ anc fn a.toNat j ∧ anc fn a.toNat j < 32 ∧ ff (anc fn a.toNat j) = (fn (anc fn a.toNat j) : Int)) : kCI M yX7_writeRow cX7_writeRow 5 .int 0 0 0 [cO 7 h [.ref s0, .ref q0, .ref f0, .ref b0, .ref r0, .int (zI n)], cZ M s0 32 fs, cI M q0 32 fq, cI M f0 32 ff, cI M b0 32 fb, cI M r0 32 fr] [.ref h, .int (zI a)] (fun z (u : Nat → Int) => z = L ∧ ∀ i, i < L → u i = fb (anc fn a.toNat (L - 1 - i))) (fun u => [cO 7 h [.ref s0, .ref q0, .ref f0, .ref b0, .ref r0, .int (zI n)], cZ M s0 32 fs, cI M q0 32 fq, cI M f0 32 ff, cI M b0 32 fb, cI M r0 32 u]) := by
  refine kCI.of [(0, .ref h), (1, .int (zI a))] (by decide) (Nat.le_of_ble_eq_true rfl) rfl (fun E gg hret => ?_)
  refine z_iconst (pc := 0) gg dX7_writeRow_0 ?_
  refine z_istore_n (pc := 1) [(2, .int (zI 0)), (0, .ref h), (1, .int (zI a))] gg dX7_writeRow_1 rfl (Nat.le_of_ble_eq_true rfl) rfl ?_
  refine z_iload_n (pc := 2) 2 gg dX7_writeRow_2 rfl rfl ?_
  refine z_istore_n (pc := 3) [(3, .int (zI a)), (2, .int (zI 0)), (0, .ref h), (1, .int (zI a))] gg dX7_writeRow_3 rfl (Nat.le_of_ble_eq_true rfl) rfl ?_
  have loop4 : ∀ (k4 : Nat) (p m : Int) (x : Nat → Int), (0 ≤ m ∧ m ≤ L) → (p = (anc fn a.toNat m.toNat : Int)) → (∀ j, j < m.toNat → x j = fb (anc fn a.toNat j)) → L - m.toNat < k4 → kV M E 5 0 0 [cO 7 h [.ref s0, .ref q0, .ref f0, .ref b0, .ref r0, .int (zI n)], cZ M s0 32 fs, cI M q0 32 fq, cI M f0 32 ff, cI M b0 32 fb, cI M r0 32 x] [(3, .int (zI p)), (2, .int (zI m)), (0, .ref h), (1, .int (zI a))] 4 [] := by
    intro k4
    induction k4 with
    | zero => intro p m x hm hp hx hm4; exact absurd hm4 (Nat.not_lt_zero _)
    | succ k4 ih4 =>
      intro p m x hm hp hx hm4
      have hpb : p < 32 := by
        rcases Nat.lt_or_ge m.toNat L with q | q
        · have := hc m.toNat q; omega
        · rw [hp, show m.toNat = L by omega, he]; omega
      have hpz : m = L → p = 0 := fun q => by rw [hp, show m.toNat = L by omega, he]; rfl
      refine z_iload_n (pc := 4) 0 gg dX7_writeRow_4 rfl rfl ?_
      refine z_if_le (pc := 5) 45 gg dX7_writeRow_5 (by decide) ⟨by omega, by omega⟩ (fun h5 => ?_) (fun h5 => ?_)
      · have hmL : m = L := by
          by_cases q : m < L
          · have := hc m.toNat (by omega); omega
          · omega
        refine z_iconst (pc := 45) gg dX7_writeRow_45 ?_
        refine z_istore_n (pc := 46) [(3, .int (zI 0)), (2, .int (zI m)), (0, .ref h), (1, .int (zI a))] gg dX7_writeRow_46 rfl (Nat.le_of_ble_eq_true rfl) rfl ?_
        have loop47 : ∀ (k47 : Nat) (k : Int) (y : Nat → Int), (0 ≤ k ∧ k ≤ m / 2) → (∀ j, j < L → y j = if j < k.toNat ∨ L - 1 - j < k.toNat then x (L - 1 - j) else x j) → L - k.toNat < k47 → kV M E 5 0 0 [cO 7 h [.ref s0, .ref q0, .ref f0, .ref b0, .ref r0, .int (zI n)], cZ M s0 32 fs, cI M q0 32 fq, cI M f0 32 ff, cI M b0 32 fb, cI M r0 32 y] [(3, .int (zI k)), (2, .int (zI m)), (0, .ref h), (1, .int (zI a))] 47 [] := by
          intro k47
          induction k47 with
          | zero => intro k y hk hy hm47; exact absurd hm47 (Nat.not_lt_zero _)
          | succ k47 ih47 =>
            intro k y hk hy hm47
            refine z_iload_n (pc := 47) 0 gg dX7_writeRow_47 rfl rfl ?_
            refine z_iload_n (pc := 48) 1 gg dX7_writeRow_48 rfl rfl ?_
            refine z_iconst (pc := 49) gg dX7_writeRow_49 ?_
            refine z_idivn (pc := 50) gg dX7_writeRow_50 (by omega) (by omega) (by omega) (by omega) ?_
            refine z_icmp_ge (pc := 51) 96 gg dX7_writeRow_51 (by decide) ⟨by omega, by omega⟩ ⟨by omega, by omega⟩ (fun h51 => ?_) (fun h51 => ?_)
            · refine z_iload_n (pc := 96) 1 gg dX7_writeRow_96 rfl rfl ?_
              exact hret m y 97 _ _ _ (Nat.le_of_ble_eq_true rfl) (Nat.le_of_ble_eq_true rfl) dX7_writeRow_97 rfl ⟨hmL, fun i hi => by
            rw [hy i hi]
            by_cases e : i < k.toNat ∨ L - 1 - i < k.toNat
            · rw [if_pos e, hx _ (by omega)]
            · have : L - 1 - i = i := by omega
              rw [if_neg e, hx _ (by omega), this]⟩
            · refine z_aload_n (pc := 54) 2 gg dX7_writeRow_54 rfl rfl ?_
              refine z_get (pc := 55) 0 gg fl_X7_27 dX7_writeRow_55 rfl rfl ?_
              refine z_iload_n (pc := 58) 0 gg dX7_writeRow_58 rfl rfl ?_
              refine z_iald (pc := 59) 5 k.toNat gg dX7_writeRow_59 rfl (by omega) (by omega) (by decide) ?_
              refine z_istore (pc := 60) [(4, .int (zI (y k.toNat))), (3, .int (zI k)), (2, .int (zI m)), (0, .ref h), (1, .int (zI a))] gg dX7_writeRow_60 (Nat.le_of_ble_eq_true rfl) rfl ?_
              refine z_aload_n (pc := 62) 3 gg dX7_writeRow_62 rfl rfl ?_
              refine z_get (pc := 63) 0 gg fl_X7_27 dX7_writeRow_63 rfl rfl ?_
              refine z_iload_n (pc := 66) 1 gg dX7_writeRow_66 rfl rfl ?_
              refine z_aload_n (pc := 67) 3 gg dX7_writeRow_67 rfl rfl ?_
              refine z_get (pc := 68) 0 gg fl_X7_27 dX7_writeRow_68 rfl rfl ?_
              refine z_iload_n (pc := 71) 2 gg dX7_writeRow_71 rfl rfl ?_
              refine z_iconst (pc := 72) gg dX7_writeRow_72 ?_
              refine z_isub (pc := 73) gg dX7_writeRow_73 ?_
              refine z_iload_n (pc := 74) 1 gg dX7_writeRow_74 rfl rfl ?_
              refine z_isub (pc := 75) gg dX7_writeRow_75 ?_
              refine z_iald (pc := 76) 5 ((m.toNat - 1) - k.toNat) gg dX7_writeRow_76 rfl (by omega) (by omega) (by decide) ?_
              refine z_iast (pc := 77) 5 k.toNat [cO 7 h [.ref s0, .ref q0, .ref f0, .ref b0, .ref r0, .int (zI n)], cZ M s0 32 fs, cI M q0 32 fq, cI M f0 32 ff, cI M b0 32 fb, cI M r0 32 (zU y k.toNat (y ((m.toNat - 1) - k.toNat)))] gg dX7_writeRow_77 rfl (by omega) (by omega) (by decide) rfl ?_
              refine z_aload_n (pc := 78) 3 gg dX7_writeRow_78 rfl rfl ?_
              refine z_get (pc := 79) 0 gg fl_X7_27 dX7_writeRow_79 rfl rfl ?_
              refine z_iload_n (pc := 82) 2 gg dX7_writeRow_82 rfl rfl ?_
              refine z_iconst (pc := 83) gg dX7_writeRow_83 ?_
              refine z_isub (pc := 84) gg dX7_writeRow_84 ?_
              refine z_iload_n (pc := 85) 1 gg dX7_writeRow_85 rfl rfl ?_
              refine z_isub (pc := 86) gg dX7_writeRow_86 ?_
              refine z_iload (pc := 87) 0 gg dX7_writeRow_87 rfl ?_
              refine z_iast (pc := 89) 5 ((m.toNat - 1) - k.toNat) [cO 7 h [.ref s0, .ref q0, .ref f0, .ref b0, .ref r0, .int (zI n)], cZ M s0 32 fs, cI M q0 32 fq, cI M f0 32 ff, cI M b0 32 fb, cI M r0 32 (zU (zU y k.toNat (y ((m.toNat - 1) - k.toNat))) ((m.toNat - 1) - k.toNat) (y k.toNat))] gg dX7_writeRow_89 rfl (by omega) (by omega) (by decide) rfl ?_
              refine z_iinc (pc := 90) 1 [(3, .int (zI (k + 1))), (4, .int (zI (y k.toNat))), (2, .int (zI m)), (0, .ref h), (1, .int (zI a))] gg dX7_writeRow_90 rfl (Nat.le_of_ble_eq_true rfl) rfl ?_
              refine z_goto (pc := 93) 47 gg dX7_writeRow_93 (by decide) ?_
              refine z_lv [(3, .int (zI (k + 1))), (2, .int (zI m)), (0, .ref h), (1, .int (zI a))] [0, 2, 3, 4] rfl ?_
              exact ih47 (k + 1) (zU (zU y k.toNat (y (m.toNat - 1 - k.toNat))) (m.toNat - 1 - k.toNat) (y k.toNat)) (by omega) (fun j hj => by
          have y1 := hy k.toNat (by omega)
          have y2 := hy (m.toNat - 1 - k.toNat) (by omega)
          rw [if_neg (by omega)] at y1 y2
          by_cases e1 : j = m.toNat - 1 - k.toNat
          · rw [e1, zU_s, y1, if_pos (by omega)]; congr 1; omega
          · rw [zU_n _ _ e1]
            by_cases e2 : j = k.toNat
            · rw [e2, zU_s, y2, if_pos (by omega)]; congr 1; omega
            · rw [zU_n _ _ e2, hy j hj]
              by_cases e3 : j < k.toNat ∨ L - 1 - j < k.toNat
              · rw [if_pos e3, if_pos (by omega)]
              · rw [if_neg e3, if_neg (by omega)]) (by omega)
        exact loop47 _ 0 x (by omega) (fun j hj => by rw [if_neg (by omega)]) (Nat.lt_succ_self _)
      · refine z_iload_n (pc := 8) 0 gg dX7_writeRow_8 rfl rfl ?_
        refine z_bipush (pc := 9) gg dX7_writeRow_9 (by decide +kernel) ?_
        refine z_icmp_ge (pc := 11) 45 gg dX7_writeRow_11 (by decide) ⟨by omega, by omega⟩ ⟨by omega, by omega⟩ (fun h11 => ?_) (fun h11 => ?_)
        · exfalso; omega
        · refine z_iload_n (pc := 14) 1 gg dX7_writeRow_14 rfl rfl ?_
          refine z_bipush (pc := 15) gg dX7_writeRow_15 (by decide +kernel) ?_
          refine z_icmp_ge (pc := 17) 45 gg dX7_writeRow_17 (by decide) ⟨by omega, by omega⟩ ⟨by omega, by omega⟩ (fun h17 => ?_) (fun h17 => ?_)
          · exfalso; omega
          · refine z_aload_n (pc := 20) 2 gg dX7_writeRow_20 rfl rfl ?_
            refine z_get (pc := 21) 0 gg fl_X7_27 dX7_writeRow_21 rfl rfl ?_
            refine z_iload_n (pc := 24) 1 gg dX7_writeRow_24 rfl rfl ?_
            refine z_aload_n (pc := 25) 2 gg dX7_writeRow_25 rfl rfl ?_
            refine z_get (pc := 26) 0 gg fl_X7_24 dX7_writeRow_26 rfl rfl ?_
            refine z_iload_n (pc := 29) 0 gg dX7_writeRow_29 rfl rfl ?_
            refine z_iald (pc := 30) 4 p.toNat gg dX7_writeRow_30 rfl (by omega) (by omega) (by decide) ?_
            refine z_iast (pc := 31) 5 m.toNat [cO 7 h [.ref s0, .ref q0, .ref f0, .ref b0, .ref r0, .int (zI n)], cZ M s0 32 fs, cI M q0 32 fq, cI M f0 32 ff, cI M b0 32 fb, cI M r0 32 (zU x m.toNat (fb p.toNat))] gg dX7_writeRow_31 rfl (by omega) (by omega) (by decide) rfl ?_
            refine z_iinc (pc := 32) 1 [(2, .int (zI (m + 1))), (3, .int (zI p)), (0, .ref h), (1, .int (zI a))] gg dX7_writeRow_32 rfl (Nat.le_of_ble_eq_true rfl) rfl ?_
            refine z_aload_n (pc := 35) 2 gg dX7_writeRow_35 rfl rfl ?_
            refine z_get (pc := 36) 0 gg fl_X7_21 dX7_writeRow_36 rfl rfl ?_
            refine z_iload_n (pc := 39) 1 gg dX7_writeRow_39 rfl rfl ?_
            refine z_iald (pc := 40) 3 p.toNat gg dX7_writeRow_40 rfl (by omega) (by omega) (by decide) ?_
            refine z_istore_n (pc := 41) [(3, .int (zI (ff p.toNat))), (2, .int (zI (m + 1))), (0, .ref h), (1, .int (zI a))] gg dX7_writeRow_41 rfl (Nat.le_of_ble_eq_true rfl) rfl ?_
            refine z_goto (pc := 42) 4 gg dX7_writeRow_42 (by decide) ?_
            exact ih4 (ff p.toNat) (m + 1) (zU x m.toNat (fb p.toNat)) (by omega) (by rw [show (m + 1).toNat = m.toNat + 1 by omega]; have q := hc m.toNat (by omega); rw [show p.toNat = anc fn a.toNat m.toNat by omega, q.2.2]; rfl) (zU_eq (g := fun j => fb (anc fn a.toNat j)) (by omega) hx (by rw [show p.toNat = anc fn a.toNat m.toNat by omega])) (by omega)
  exact loop4 _ a 0 fr (by omega) (by show a = (a.toNat : Int); omega) (fun j hj => absurd hj (by omega)) (Nat.lt_succ_self _)
set_option maxHeartbeats 4000000 in
set_option maxRecDepth 100000 in
theorem c_R_find (M : KM) (h s0 q0 f0 b0 r0 : Nat) (n : Int) (fs fq ff fb fr : Nat → Int) (h2 l2 g2 w2 : Nat) (dl df dw : Nat → Int) (hdl : ∀ j, j < 32 → 0 ≤ dl j ∧ dl j < 8) (hdf : ∀ j, j < 8 → df j = 0 ∨ df j = 1) (hdw : ∀ j, j < 8 → dw j = 0 ∨ dw j = 1) : kCI M yX7_find cX7_find 9 .int 2 0 0 [cO 7 h [.ref s0, .ref q0, .ref f0, .ref b0, .ref r0, .int (zI n)], cZ M s0 32 fs, cI M q0 32 fq, cI M f0 32 ff, cI M b0 32 fb, cI M r0 32 fr, cO 2 h2 [.ref l2, .ref g2, .ref w2], cI M l2 32 dl, cZ M g2 8 df, cZ M w2 8 dw] [.ref h, .ref h2] (fun z (u : Int × (Nat → Int) × (Nat → Int) × (Nat → Int) × (Nat → Int) × (Nat → Int)) => (z = -1 ∧ noRow (nxD dl dw) (bdD df)) ∨ (∃ (L : Nat) (ev : Nat → Nat), z = L ∧ L ≤ 31 ∧ isRow (nxD dl dw) (bdD df) L ev ∧ ∀ i, i < L → u.2.2.2.2.2 i = (ev i : Int))) (fun u => [cO 7 h [.ref s0, .ref q0, .ref f0, .ref b0, .ref r0, .int (zI u.1)], cZ M s0 32 u.2.1, cI M q0 32 u.2.2.1, cI M f0 32 u.2.2.2.1, cI M b0 32 u.2.2.2.2.1, cI M r0 32 u.2.2.2.2.2, cO 2 h2 [.ref l2, .ref g2, .ref w2], cI M l2 32 dl, cZ M g2 8 df, cZ M w2 8 dw]) := by
  refine kCI.of [(0, .ref h), (1, .ref h2)] (by decide) (Nat.le_of_ble_eq_true rfl) rfl (fun E gg hret => ?_)
  refine z_iconst (pc := 0) gg dX7_find_0 ?_
  refine z_istore_n (pc := 1) [(2, .int (zI 0)), (0, .ref h), (1, .ref h2)] gg dX7_find_1 rfl (Nat.le_of_ble_eq_true rfl) rfl ?_
  have loop2 : ∀ (k2 : Nat) (i : Int) (x : Nat → Int), (0 ≤ i ∧ i ≤ 32) → (∀ j, j < i.toNat → x j = 0) → 32 - i.toNat < k2 → kV M E 9 0 0 [cO 7 h [.ref s0, .ref q0, .ref f0, .ref b0, .ref r0, .int (zI n)], cZ M s0 32 x, cI M q0 32 fq, cI M f0 32 ff, cI M b0 32 fb, cI M r0 32 fr, cO 2 h2 [.ref l2, .ref g2, .ref w2], cI M l2 32 dl, cZ M g2 8 df, cZ M w2 8 dw] [(2, .int (zI i)), (0, .ref h), (1, .ref h2)] 2 [] := by
    intro k2
    induction k2 with
    | zero => intro i x hi hx hm2; exact absurd hm2 (Nat.not_lt_zero _)
    | succ k2 ih2 =>
      intro i x hi hx hm2
      refine z_iload_n (pc := 2) 0 gg dX7_find_2 rfl rfl ?_
      refine z_bipush (pc := 3) gg dX7_find_3 (by decide +kernel) ?_
      refine z_icmp_ge (pc := 5) 21 gg dX7_find_5 (by decide) ⟨by omega, by omega⟩ ⟨by omega, by omega⟩ (fun h5 => ?_) (fun h5 => ?_)
      · refine z_aload_n (pc := 21) 1 gg dX7_find_21 rfl rfl ?_
        refine z_iconst (pc := 22) gg dX7_find_22 ?_
        refine z_put (pc := 23) 0 [cO 7 h [.ref s0, .ref q0, .ref f0, .ref b0, .ref r0, .int (zI 0)], cZ M s0 32 x, cI M q0 32 fq, cI M f0 32 ff, cI M b0 32 fb, cI M r0 32 fr, cO 2 h2 [.ref l2, .ref g2, .ref w2], cI M l2 32 dl, cZ M g2 8 df, cZ M w2 8 dw] gg fp_X7_30 dX7_find_23 rfl rfl rfl (Nat.le_of_ble_eq_true rfl) rfl ?_
        refine z_aload_n (pc := 26) 1 gg dX7_find_26 rfl rfl ?_
        refine z_iconst (pc := 27) gg dX7_find_27 ?_
        refine z_iconst (pc := 28) gg dX7_find_28 ?_
        refine z_iconst (pc := 29) gg dX7_find_29 ?_
        refine z_callVi (pc := 30) (wr := [cO 2 h2 [.ref l2, .ref g2, .ref w2], cI M l2 32 dl, cZ M g2 8 df, cZ M w2 8 dw]) (As := [.int (zI 0), .int (zI (-1)), .int (zI (-1))]) (st := []) [0, 1, 2, 3, 4, 5] [6, 7, 8, 9] [4, 5, 6, 7, 8, 9, 0, 1, 2, 3] (fun u => [cO 7 h [.ref s0, .ref q0, .ref f0, .ref b0, .ref r0, .int (zI ((0 : Int) + 1))], cZ M s0 32 (zU x (0 : Int).toNat 1), cI M q0 32 (zU fq (0 : Int).toNat (0 : Int)), cI M f0 32 (zU ff (0 : Int).toNat (-1 : Int)), cI M b0 32 (zU fb (0 : Int).toNat (-1 : Int)), cI M r0 32 fr, cO 2 h2 [.ref l2, .ref g2, .ref w2], cI M l2 32 dl, cZ M g2 8 df, cZ M w2 8 dw]) gg (c_R_reach_new M h s0 q0 f0 b0 r0 (0 : Int) x fq ff fb fr (0 : Int) (-1 : Int) (-1 : Int) (by first | assumption | omega | exact ⟨by omega, by omega⟩) (by first | assumption | omega | exact ⟨by omega, by omega⟩) (hx 0 (by omega))) yv_7_reach ml_X7_34 dX7_find_30 (by decide) (Nat.le_of_ble_eq_true rfl) (Nat.le_of_ble_eq_true rfl) (Nat.le_of_ble_eq_true rfl) rfl rfl rfl rfl (by decide) rfl (fun _ => rfl) rfl rfl rfl (fun z30 u30 hz30 => ?_)
        subst hz30
        refine z_pop (pc := 33) gg dX7_find_33 rfl ?_
        refine z_iconst (pc := 34) gg dX7_find_34 ?_
        refine z_istore_n (pc := 35) [(2, .int (zI 0)), (0, .ref h), (1, .ref h2)] gg dX7_find_35 rfl (Nat.le_of_ble_eq_true rfl) rfl ?_
        have loop36 : ∀ (k36 : Nat) (p : Int) (n1 : Int) (gs gq gf gb : Nat → Int), (0 ≤ p ∧ p ≤ n1) → (∃ qn fn bn dp : Nat → Nat, QI dl dw df n1 gs gq gf gb qn fn bn dp (4 * p.toNat)) → 32 - p.toNat < k36 → kV M E 9 0 0 [cO 7 h [.ref s0, .ref q0, .ref f0, .ref b0, .ref r0, .int (zI n1)], cZ M s0 32 gs, cI M q0 32 gq, cI M f0 32 gf, cI M b0 32 gb, cI M r0 32 fr, cO 2 h2 [.ref l2, .ref g2, .ref w2], cI M l2 32 dl, cZ M g2 8 df, cZ M w2 8 dw] [(2, .int (zI p)), (0, .ref h), (1, .ref h2)] 36 [] := by
          intro k36
          induction k36 with
          | zero => intro p n1 gs gq gf gb hp hQ0 hm36; exact absurd hm36 (Nat.not_lt_zero _)
          | succ k36 ih36 =>
            intro p n1 gs gq gf gb hp hQ0 hm36
            obtain ⟨qn, fn, bn, dp, hQ0⟩ := hQ0
            have hn32 := hQ0.2.1
            refine z_iload_n (pc := 36) 0 gg dX7_find_36 rfl rfl ?_
            refine z_aload_n (pc := 37) 1 gg dX7_find_37 rfl rfl ?_
            refine z_get (pc := 38) 0 gg fl_X7_30 dX7_find_38 rfl rfl ?_
            refine z_icmp_ge (pc := 41) 161 gg dX7_find_41 (by decide) ⟨by omega, by omega⟩ ⟨by omega, by omega⟩ (fun h41 => ?_) (fun h41 => ?_)
            · refine z_iconst (pc := 161) gg dX7_find_161 ?_
              exact hret (-1) (n1, gs, gq, gf, gb, fr) 162 _ _ _ (Nat.le_of_ble_eq_true rfl) (Nat.le_of_ble_eq_true rfl) dX7_find_162 rfl (Or.inl ⟨rfl, QI_end hQ0 (by omega)⟩)
            · refine z_iload_n (pc := 44) 0 gg dX7_find_44 rfl rfl ?_
              refine z_bipush (pc := 45) gg dX7_find_45 (by decide +kernel) ?_
              refine z_icmp_ge (pc := 47) 161 gg dX7_find_47 (by decide) ⟨by omega, by omega⟩ ⟨by omega, by omega⟩ (fun h47 => ?_) (fun h47 => ?_)
              · exfalso; omega
              · have hQv := hQ0.2.2.1 p.toNat (by omega)
                have hQl := hQ0.1.1.2.2.2 p.toNat (by omega)
                obtain ⟨Q, hQe⟩ : ∃ Q, Q = qn p.toNat := ⟨_, rfl⟩
                rw [← hQe] at hQv hQl
                refine z_aload_n (pc := 50) 1 gg dX7_find_50 rfl rfl ?_
                refine z_get (pc := 51) 0 gg fl_X7_17 dX7_find_51 rfl rfl ?_
                refine z_iload_n (pc := 54) 0 gg dX7_find_54 rfl rfl ?_
                refine z_iald (pc := 55) 2 p.toNat gg dX7_find_55 rfl (by omega) (by omega) (by decide) ?_
                refine z_iconst (pc := 56) gg dX7_find_56 ?_
                refine z_idivn (pc := 57) gg dX7_find_57 (by omega) (by omega) (by omega) (by omega) ?_
                refine z_top (fun x3 h_x3 => ?_)
                refine z_istore_n (pc := 58) [(3, .int (zI x3)), (2, .int (zI p)), (0, .ref h), (1, .ref h2)] gg dX7_find_58 rfl (Nat.le_of_ble_eq_true rfl) rfl ?_
                refine z_aload_n (pc := 59) 2 gg dX7_find_59 rfl rfl ?_
                refine z_get (pc := 60) 0 gg fl_X7_17 dX7_find_60 rfl rfl ?_
                refine z_iload_n (pc := 63) 1 gg dX7_find_63 rfl rfl ?_
                refine z_iald (pc := 64) 2 p.toNat gg dX7_find_64 rfl (by omega) (by omega) (by decide) ?_
                refine z_iconst (pc := 65) gg dX7_find_65 ?_
                refine z_iremn (pc := 66) gg dX7_find_66 (by omega) (by omega) (by omega) (by omega) ?_
                refine z_top (fun x4 h_x4 => ?_)
                refine z_istore (pc := 67) [(4, .int (zI x4)), (3, .int (zI x3)), (2, .int (zI p)), (0, .ref h), (1, .ref h2)] gg dX7_find_67 (Nat.le_of_ble_eq_true rfl) rfl ?_
                refine z_iconst (pc := 69) gg dX7_find_69 ?_
                refine z_istore (pc := 70) [(5, .int (zI 0)), (4, .int (zI x4)), (3, .int (zI x3)), (2, .int (zI p)), (0, .ref h), (1, .ref h2)] gg dX7_find_70 (Nat.le_of_ble_eq_true rfl) rfl ?_
                have loop72 : ∀ (k72 : Nat) (e : Int) (n1 : Int) (gs gq gf gb : Nat → Int), (0 ≤ e ∧ e ≤ 4) → (0 ≤ p ∧ p < n1) → (∃ qn fn bn dp : Nat → Nat, QI dl dw df n1 gs gq gf gb qn fn bn dp (4 * p.toNat + e.toNat) ∧ qn p.toNat = Q) → 4 - e.toNat < k72 → kV M E 9 0 0 [cO 7 h [.ref s0, .ref q0, .ref f0, .ref b0, .ref r0, .int (zI n1)], cZ M s0 32 gs, cI M q0 32 gq, cI M f0 32 gf, cI M b0 32 gb, cI M r0 32 fr, cO 2 h2 [.ref l2, .ref g2, .ref w2], cI M l2 32 dl, cZ M g2 8 df, cZ M w2 8 dw] [(5, .int (zI e)), (4, .int (zI x4)), (3, .int (zI x3)), (2, .int (zI p)), (0, .ref h), (1, .ref h2)] 72 [] := by
                  intro k72
                  induction k72 with
                  | zero => intro e n1 gs gq gf gb he0 hpn hQ1 hm72; exact absurd hm72 (Nat.not_lt_zero _)
                  | succ k72 ih72 =>
                    intro e n1 gs gq gf gb he0 hpn hQ1 hm72
                    obtain ⟨qn, fn, bn, dp, hQ, hQq⟩ := hQ1
                    have hn32 := hQ.2.1
                    refine z_iload (pc := 72) 0 gg dX7_find_72 rfl ?_
                    refine z_iconst (pc := 74) gg dX7_find_74 ?_
                    refine z_icmp_ge (pc := 75) 155 gg dX7_find_75 (by decide) ⟨by omega, by omega⟩ ⟨by omega, by omega⟩ (fun h75 => ?_) (fun h75 => ?_)
                    · refine z_iinc (pc := 155) 3 [(2, .int (zI (p + 1))), (5, .int (zI e)), (4, .int (zI x4)), (3, .int (zI x3)), (0, .ref h), (1, .ref h2)] gg dX7_find_155 rfl (Nat.le_of_ble_eq_true rfl) rfl ?_
                      refine z_goto (pc := 158) 36 gg dX7_find_158 (by decide) ?_
                      refine z_lv [(2, .int (zI (p + 1))), (0, .ref h), (1, .ref h2)] [0, 4, 5] rfl ?_
                      exact ih36 (p + 1) n1 gs gq gf gb (by omega) ⟨qn, fn, bn, dp, by rw [show 4 * (p + 1).toNat = 4 * p.toNat + e.toNat by omega]; exact hQ⟩ (by omega)
                    · have he : 0 ≤ e ∧ e < 4 := by omega
                      have hx3 : x3.toNat = Q / 4 := by omega
                      have hx4 : x4 = ((Q % 4 : Nat) : Int) := by omega
                      refine z_aload_n (pc := 78) 5 gg dX7_find_78 rfl rfl ?_
                      refine z_iload_n (pc := 79) 2 gg dX7_find_79 rfl rfl ?_
                      refine z_iload (pc := 80) 0 gg dX7_find_80 rfl ?_
                      refine z_callVi (pc := 82) (wr := [cO 7 h [.ref s0, .ref q0, .ref f0, .ref b0, .ref r0, .int (zI n1)], cZ M s0 32 gs, cI M q0 32 gq, cI M f0 32 gf, cI M b0 32 gb, cI M r0 32 fr]) (As := [.int (zI x3), .int (zI e)]) (st := []) [6, 7, 8, 9] [0, 1, 2, 3, 4, 5] [0, 1, 2, 3, 4, 5, 6, 7, 8, 9] (fun u => [cO 7 h [.ref s0, .ref q0, .ref f0, .ref b0, .ref r0, .int (zI n1)], cZ M s0 32 gs, cI M q0 32 gq, cI M f0 32 gf, cI M b0 32 gb, cI M r0 32 fr, cO 2 h2 [.ref l2, .ref g2, .ref w2], cI M l2 32 dl, cZ M g2 8 df, cZ M w2 8 dw]) gg (c_D_after M h2 l2 g2 w2 dl df dw x3 e (by first | assumption | omega | exact ⟨by omega, by omega⟩) (by first | assumption | omega | exact ⟨by omega, by omega⟩)) yv_2_after ml_X7_38 dX7_find_82 (by decide) (Nat.le_of_ble_eq_true rfl) (Nat.le_of_ble_eq_true rfl) (Nat.le_of_ble_eq_true rfl) rfl rfl rfl rfl (by decide) rfl (fun _ => rfl) rfl rfl rfl (fun z82 u82 hz82 => ?_)
                      have ht2 := hdl (x3.toNat * 4 + e.toNat) (by omega)
                      rw [← hz82] at ht2
                      rw [hx3] at hz82
                      refine z_istore (pc := 85) [(6, .int (zI z82)), (5, .int (zI e)), (4, .int (zI x4)), (3, .int (zI x3)), (2, .int (zI p)), (0, .ref h), (1, .ref h2)] gg dX7_find_85 (Nat.le_of_ble_eq_true rfl) rfl ?_
                      refine z_iload (pc := 87) 2 gg dX7_find_87 rfl ?_
                      refine z_iload (pc := 89) 1 gg dX7_find_89 rfl ?_
                      refine z_aload_n (pc := 91) 6 gg dX7_find_91 rfl rfl ?_
                      refine z_iload (pc := 92) 0 gg dX7_find_92 rfl ?_
                      refine z_callVi (pc := 94) (wr := [cO 7 h [.ref s0, .ref q0, .ref f0, .ref b0, .ref r0, .int (zI n1)], cZ M s0 32 gs, cI M q0 32 gq, cI M f0 32 gf, cI M b0 32 gb, cI M r0 32 fr]) (As := [.int (zI z82)]) (st := [.int (zI e), .int (zI x4)]) [6, 7, 8, 9] [0, 1, 2, 3, 4, 5] [0, 1, 2, 3, 4, 5, 6, 7, 8, 9] (fun u => [cO 7 h [.ref s0, .ref q0, .ref f0, .ref b0, .ref r0, .int (zI n1)], cZ M s0 32 gs, cI M q0 32 gq, cI M f0 32 gf, cI M b0 32 gb, cI M r0 32 fr, cO 2 h2 [.ref l2, .ref g2, .ref w2], cI M l2 32 dl, cZ M g2 8 df, cZ M w2 8 dw]) gg (c_D_waters M h2 l2 g2 w2 dl df dw z82 (by first | assumption | omega | exact ⟨by omega, by omega⟩) hdw) yv_2_waters ml_X7_42 dX7_find_94 (by decide) (Nat.le_of_ble_eq_true rfl) (Nat.le_of_ble_eq_true rfl) (Nat.le_of_ble_eq_true rfl) rfl rfl rfl rfl (by decide) rfl (fun _ => rfl) rfl rfl rfl (fun z94 u94 hz94 => ?_)
                      have hw2 := hdw z82.toNat (by omega)
                      rw [← hz94] at hw2
                      refine z_callS (pc := 97) (As := [.int (zI x4), .int (zI e), .int (zI z94)]) (st := []) gg (c_R_dangerAfter M x4 e z94 (by first | assumption | omega | exact ⟨by omega, by omega⟩) (by first | assumption | omega | exact ⟨by omega, by omega⟩) (by first | assumption | omega | exact ⟨by omega, by omega⟩)) ys_7_dangerAfter ml_X7_46 dX7_find_97 (by decide) (Nat.le_of_ble_eq_true rfl) (Nat.le_of_ble_eq_true rfl) (Nat.le_of_ble_eq_true rfl) rfl rfl (fun z97 u97 hz97 => ?_)
                      obtain ⟨hv1, hv2, hv3, hv4, hv5, hv6⟩ := nxD_of (Q := Q) (e := e.toNat) hz82 ht2 hz94 hw2 hQl (d := z97) (by omega)
                      rw [← hQq] at hv1 hv4 hv5 hv6
                      refine z_istore (pc := 100) [(7, .int (zI z97)), (6, .int (zI z82)), (5, .int (zI e)), (4, .int (zI x4)), (3, .int (zI x3)), (2, .int (zI p)), (0, .ref h), (1, .ref h2)] gg dX7_find_100 (Nat.le_of_ble_eq_true rfl) rfl ?_
                      have hs8 := hQ.2.2.2.2 (z82 * 4 + z97).toNat (by omega)
                      rcases (show gs (z82 * 4 + z97).toNat = 0 ∨ gs (z82 * 4 + z97).toNat = 1 by rcases hs8 with q | q <;> omega) with hs9 | hs9
                      · refine z_aload_n (pc := 102) 6 gg dX7_find_102 rfl rfl ?_
                        refine z_iload (pc := 103) 1 gg dX7_find_103 rfl ?_
                        refine z_iconst (pc := 105) gg dX7_find_105 ?_
                        refine z_imul (pc := 106) gg dX7_find_106 ?_
                        refine z_iload (pc := 107) 0 gg dX7_find_107 rfl ?_
                        refine z_iadd (pc := 109) gg dX7_find_109 ?_
                        refine z_iload_n (pc := 110) 5 gg dX7_find_110 rfl rfl ?_
                        refine z_iload (pc := 111) 2 gg dX7_find_111 rfl ?_
                        refine z_callVi (pc := 113) (wr := [cO 2 h2 [.ref l2, .ref g2, .ref w2], cI M l2 32 dl, cZ M g2 8 df, cZ M w2 8 dw]) (As := [.int (zI ((z82 * 4) + z97)), .int (zI p), .int (zI e)]) (st := []) [0, 1, 2, 3, 4, 5] [6, 7, 8, 9] [4, 5, 6, 7, 8, 9, 0, 1, 2, 3] (fun u => [cO 7 h [.ref s0, .ref q0, .ref f0, .ref b0, .ref r0, .int (zI (n1 + 1))], cZ M s0 32 (zU gs ((z82 * 4) + z97).toNat 1), cI M q0 32 (zU gq n1.toNat ((z82 * 4) + z97)), cI M f0 32 (zU gf n1.toNat p), cI M b0 32 (zU gb n1.toNat e), cI M r0 32 fr, cO 2 h2 [.ref l2, .ref g2, .ref w2], cI M l2 32 dl, cZ M g2 8 df, cZ M w2 8 dw]) gg (c_R_reach_new M h s0 q0 f0 b0 r0 n1 gs gq gf gb fr ((z82 * 4) + z97) p e ⟨by omega, QI_room hQ (v := (z82 * 4 + z97).toNat) (by omega) hs9⟩ (by first | assumption | omega | exact ⟨by omega, by omega⟩) hs9) yv_7_reach ml_X7_34 dX7_find_113 (by decide) (Nat.le_of_ble_eq_true rfl) (Nat.le_of_ble_eq_true rfl) (Nat.le_of_ble_eq_true rfl) rfl rfl rfl rfl (by decide) rfl (fun _ => rfl) rfl rfl rfl (fun z113 u113 hz113 => ?_)
                        refine z_istore (pc := 116) [(8, .int (zI z113)), (7, .int (zI z97)), (6, .int (zI z82)), (5, .int (zI e)), (4, .int (zI x4)), (3, .int (zI x3)), (2, .int (zI p)), (0, .ref h), (1, .ref h2)] gg dX7_find_116 (Nat.le_of_ble_eq_true rfl) rfl ?_
                        refine z_iload (pc := 118) 0 gg dX7_find_118 rfl ?_
                        refine z_if_eq (pc := 120) 149 gg dX7_find_120 (by decide) ⟨by omega, by omega⟩ (fun h120 => ?_) (fun h120 => ?_)
                        · exfalso; omega
                        · refine z_iload (pc := 123) 1 gg dX7_find_123 rfl ?_
                          refine z_iconst (pc := 125) gg dX7_find_125 ?_
                          refine z_icmp_lt (pc := 126) 149 gg dX7_find_126 (by decide) ⟨by omega, by omega⟩ ⟨by omega, by omega⟩ (fun h126 => ?_) (fun h126 => ?_)
                          · refine z_iinc (pc := 149) 3 [(5, .int (zI (e + 1))), (8, .int (zI z113)), (7, .int (zI z97)), (6, .int (zI z82)), (4, .int (zI x4)), (3, .int (zI x3)), (2, .int (zI p)), (0, .ref h), (1, .ref h2)] gg dX7_find_149 rfl (Nat.le_of_ble_eq_true rfl) rfl ?_
                            refine z_goto (pc := 152) 72 gg dX7_find_152 (by decide) ?_
                            refine z_lv [(5, .int (zI (e + 1))), (4, .int (zI x4)), (3, .int (zI x3)), (2, .int (zI p)), (0, .ref h), (1, .ref h2)] [0, 4, 5, 6, 7, 8] rfl ?_
                            exact ih72 (e + 1) (n1 + 1) (zU gs ((z82 * 4) + z97).toNat 1) (zU gq n1.toNat ((z82 * 4) + z97)) (zU gf n1.toNat p) (zU gb n1.toNat e) (by omega) (by omega) ⟨_, _, _, _, QI_new hQ hpn he hv1 (by omega) hs9 (by rintro ⟨b1, b2⟩; rw [hv1, hv5] at b1; rw [hv1] at b2; omega) (by omega), by rw [nU_n _ _ (by omega)]; exact hQq⟩ (by omega)
                          · refine z_aload_n (pc := 129) 8 gg dX7_find_129 rfl rfl ?_
                            refine z_iload (pc := 130) 2 gg dX7_find_130 rfl ?_
                            refine z_callVi (pc := 132) (wr := [cO 7 h [.ref s0, .ref q0, .ref f0, .ref b0, .ref r0, .int (zI (n1 + 1))], cZ M s0 32 (zU gs ((z82 * 4) + z97).toNat 1), cI M q0 32 (zU gq n1.toNat ((z82 * 4) + z97)), cI M f0 32 (zU gf n1.toNat p), cI M b0 32 (zU gb n1.toNat e), cI M r0 32 fr]) (As := [.int (zI z82)]) (st := []) [6, 7, 8, 9] [0, 1, 2, 3, 4, 5] [0, 1, 2, 3, 4, 5, 6, 7, 8, 9] (fun u => [cO 7 h [.ref s0, .ref q0, .ref f0, .ref b0, .ref r0, .int (zI (n1 + 1))], cZ M s0 32 (zU gs ((z82 * 4) + z97).toNat 1), cI M q0 32 (zU gq n1.toNat ((z82 * 4) + z97)), cI M f0 32 (zU gf n1.toNat p), cI M b0 32 (zU gb n1.toNat e), cI M r0 32 fr, cO 2 h2 [.ref l2, .ref g2, .ref w2], cI M l2 32 dl, cZ M g2 8 df, cZ M w2 8 dw]) gg (c_D_feeds M h2 l2 g2 w2 dl df dw z82 (by first | assumption | omega | exact ⟨by omega, by omega⟩) hdf) yv_2_feeds ml_X7_50 dX7_find_132 (by decide) (Nat.le_of_ble_eq_true rfl) (Nat.le_of_ble_eq_true rfl) (Nat.le_of_ble_eq_true rfl) rfl rfl rfl rfl (by decide) rfl (fun _ => rfl) rfl rfl rfl (fun z132 u132 hz132 => ?_)
                            have hdf2 := hdf z82.toNat (by omega)
                            refine z_if_eq (pc := 135) 149 gg dX7_find_135 (by decide) ⟨by omega, by omega⟩ (fun h135 => ?_) (fun h135 => ?_)
                            · refine z_iinc (pc := 149) 3 [(5, .int (zI (e + 1))), (8, .int (zI z113)), (7, .int (zI z97)), (6, .int (zI z82)), (4, .int (zI x4)), (3, .int (zI x3)), (2, .int (zI p)), (0, .ref h), (1, .ref h2)] gg dX7_find_149 rfl (Nat.le_of_ble_eq_true rfl) rfl ?_
                              refine z_goto (pc := 152) 72 gg dX7_find_152 (by decide) ?_
                              refine z_lv [(5, .int (zI (e + 1))), (4, .int (zI x4)), (3, .int (zI x3)), (2, .int (zI p)), (0, .ref h), (1, .ref h2)] [0, 4, 5, 6, 7, 8] rfl ?_
                              exact ih72 (e + 1) (n1 + 1) (zU gs ((z82 * 4) + z97).toNat 1) (zU gq n1.toNat ((z82 * 4) + z97)) (zU gf n1.toNat p) (zU gb n1.toNat e) (by omega) (by omega) ⟨_, _, _, _, QI_new hQ hpn he hv1 (by omega) hs9 (by rintro ⟨b1, b2⟩; rw [hv1, hv5] at b1; rw [hv1] at b2; omega) (by omega), by rw [nU_n _ _ (by omega)]; exact hQq⟩ (by omega)
                            · have hn31 := QI_room hQ (v := (z82 * 4 + z97).toNat) (by omega) hs9
                              obtain ⟨f2, b2, L, k1, k2, k3, k4, k5⟩ := QI_found hQ hpn he hv1 (QI_room hQ (v := (z82 * 4 + z97).toNat) (by omega) hs9) ⟨by rw [hv1, hv5]; omega, by rw [hv1]; omega⟩
                              refine z_aload_n (pc := 138) 7 gg dX7_find_138 rfl rfl ?_
                              refine z_aload_n (pc := 139) 7 gg dX7_find_139 rfl rfl ?_
                              refine z_get (pc := 140) 0 gg fl_X7_30 dX7_find_140 rfl rfl ?_
                              refine z_iconst (pc := 143) gg dX7_find_143 ?_
                              refine z_isub (pc := 144) gg dX7_find_144 ?_
                              refine z_callVi (pc := 145) (wr := [cO 2 h2 [.ref l2, .ref g2, .ref w2], cI M l2 32 dl, cZ M g2 8 df, cZ M w2 8 dw]) (As := [.int (zI ((n1 + 1) - 1))]) (st := []) [0, 1, 2, 3, 4, 5] [6, 7, 8, 9] [4, 5, 6, 7, 8, 9, 0, 1, 2, 3] (fun u => [cO 7 h [.ref s0, .ref q0, .ref f0, .ref b0, .ref r0, .int (zI (n1 + 1))], cZ M s0 32 (zU gs ((z82 * 4) + z97).toNat 1), cI M q0 32 (zU gq n1.toNat ((z82 * 4) + z97)), cI M f0 32 (zU gf n1.toNat p), cI M b0 32 (zU gb n1.toNat e), cI M r0 32 u, cO 2 h2 [.ref l2, .ref g2, .ref w2], cI M l2 32 dl, cZ M g2 8 df, cZ M w2 8 dw]) gg (c_R_writeRow M h s0 q0 f0 b0 r0 (n1 + 1) (zU gs ((z82 * 4) + z97).toNat 1) (zU gq n1.toNat ((z82 * 4) + z97)) (zU gf n1.toNat p) (zU gb n1.toNat e) fr ((n1 + 1) - 1) f2 L (by first | assumption | omega | exact ⟨by omega, by omega⟩) k1 (by rw [show (n1 + 1 - 1).toNat = n1.toNat by omega]; exact k3) (by rw [show (n1 + 1 - 1).toNat = n1.toNat by omega]; exact k4)) yv_7_writeRow ml_X7_53 dX7_find_145 (by decide) (Nat.le_of_ble_eq_true rfl) (Nat.le_of_ble_eq_true rfl) (Nat.le_of_ble_eq_true rfl) rfl rfl rfl rfl (by decide) rfl (fun _ => rfl) rfl rfl rfl (fun z145 u145 hz145 => ?_)
                              exact hret z145 (n1 + 1, (zU gs ((z82 * 4) + z97).toNat 1), (zU gq n1.toNat ((z82 * 4) + z97)), (zU gf n1.toNat p), (zU gb n1.toNat e), u145) 148 _ _ _ (Nat.le_of_ble_eq_true rfl) (Nat.le_of_ble_eq_true rfl) dX7_find_148 rfl (Or.inr ⟨L, _, hz145.1, k1, k2, fun i hi => by
                          have e5 := hz145.2 i hi
                          rw [show (n1 + 1 - 1).toNat = n1.toNat by omega] at e5
                          exact e5.trans (k5 _ (by omega))⟩)
                      · refine z_aload_n (pc := 102) 6 gg dX7_find_102 rfl rfl ?_
                        refine z_iload (pc := 103) 1 gg dX7_find_103 rfl ?_
                        refine z_iconst (pc := 105) gg dX7_find_105 ?_
                        refine z_imul (pc := 106) gg dX7_find_106 ?_
                        refine z_iload (pc := 107) 0 gg dX7_find_107 rfl ?_
                        refine z_iadd (pc := 109) gg dX7_find_109 ?_
                        refine z_iload_n (pc := 110) 5 gg dX7_find_110 rfl rfl ?_
                        refine z_iload (pc := 111) 2 gg dX7_find_111 rfl ?_
                        refine z_callVi (pc := 113) (wr := [cO 2 h2 [.ref l2, .ref g2, .ref w2], cI M l2 32 dl, cZ M g2 8 df, cZ M w2 8 dw]) (As := [.int (zI ((z82 * 4) + z97)), .int (zI p), .int (zI e)]) (st := []) [0, 1, 2, 3, 4, 5] [6, 7, 8, 9] [4, 5, 6, 7, 8, 9, 0, 1, 2, 3] (fun u => [cO 7 h [.ref s0, .ref q0, .ref f0, .ref b0, .ref r0, .int (zI n1)], cZ M s0 32 gs, cI M q0 32 gq, cI M f0 32 gf, cI M b0 32 gb, cI M r0 32 fr, cO 2 h2 [.ref l2, .ref g2, .ref w2], cI M l2 32 dl, cZ M g2 8 df, cZ M w2 8 dw]) gg (c_R_reach_old M h s0 q0 f0 b0 r0 n1 gs gq gf gb fr ((z82 * 4) + z97) p e (by first | assumption | omega | exact ⟨by omega, by omega⟩) hs9) yv_7_reach ml_X7_34 dX7_find_113 (by decide) (Nat.le_of_ble_eq_true rfl) (Nat.le_of_ble_eq_true rfl) (Nat.le_of_ble_eq_true rfl) rfl rfl rfl rfl (by decide) rfl (fun _ => rfl) rfl rfl rfl (fun z113 u113 hz113 => ?_)
                        refine z_istore (pc := 116) [(8, .int (zI z113)), (7, .int (zI z97)), (6, .int (zI z82)), (5, .int (zI e)), (4, .int (zI x4)), (3, .int (zI x3)), (2, .int (zI p)), (0, .ref h), (1, .ref h2)] gg dX7_find_116 (Nat.le_of_ble_eq_true rfl) rfl ?_
                        refine z_iload (pc := 118) 0 gg dX7_find_118 rfl ?_
                        refine z_if_eq (pc := 120) 149 gg dX7_find_120 (by decide) ⟨by omega, by omega⟩ (fun h120 => ?_) (fun h120 => ?_)
                        · refine z_iinc (pc := 149) 3 [(5, .int (zI (e + 1))), (8, .int (zI z113)), (7, .int (zI z97)), (6, .int (zI z82)), (4, .int (zI x4)), (3, .int (zI x3)), (2, .int (zI p)), (0, .ref h), (1, .ref h2)] gg dX7_find_149 rfl (Nat.le_of_ble_eq_true rfl) rfl ?_
                          refine z_goto (pc := 152) 72 gg dX7_find_152 (by decide) ?_
                          refine z_lv [(5, .int (zI (e + 1))), (4, .int (zI x4)), (3, .int (zI x3)), (2, .int (zI p)), (0, .ref h), (1, .ref h2)] [0, 4, 5, 6, 7, 8] rfl ?_
                          exact ih72 (e + 1) n1 gs gq gf gb (by omega) (by omega) ⟨qn, fn, bn, dp, QI_old hQ hpn he hv1 (by omega) hs9, hQq⟩ (by omega)
                        · exfalso; omega
                exact loop72 _ 0 n1 gs gq gf gb (by omega) (by omega) ⟨qn, fn, bn, dp, hQ0, hQe.symm⟩ (Nat.lt_succ_self _)
        exact loop36 _ 0 ((0 : Int) + 1) (zU x (0 : Int).toNat 1) (zU fq (0 : Int).toNat (0 : Int)) (zU ff (0 : Int).toNat (-1 : Int)) (zU fb (0 : Int).toNat (-1 : Int)) (by omega) ⟨_, _, _, _, QI_start (fun j hj => hx j (by omega))⟩ (Nat.lt_succ_self _)
      · refine z_aload_n (pc := 8) 1 gg dX7_find_8 rfl rfl ?_
        refine z_get (pc := 9) 0 gg fl_X7_13 dX7_find_9 rfl rfl ?_
        refine z_iload_n (pc := 12) 0 gg dX7_find_12 rfl rfl ?_
        refine z_iconst (pc := 13) gg dX7_find_13 ?_
        refine z_zast (pc := 14) 1 i.toNat [cO 7 h [.ref s0, .ref q0, .ref f0, .ref b0, .ref r0, .int (zI n)], cZ M s0 32 (zU x i.toNat 0), cI M q0 32 fq, cI M f0 32 ff, cI M b0 32 fb, cI M r0 32 fr, cO 2 h2 [.ref l2, .ref g2, .ref w2], cI M l2 32 dl, cZ M g2 8 df, cZ M w2 8 dw] gg dX7_find_14 rfl (by omega) (by omega) (by decide) (by omega) rfl ?_
        refine z_iinc (pc := 15) 0 [(2, .int (zI (i + 1))), (0, .ref h), (1, .ref h2)] gg dX7_find_15 rfl (Nat.le_of_ble_eq_true rfl) rfl ?_
        refine z_goto (pc := 18) 2 gg dX7_find_18 (by decide) ?_
        exact ih2 (i + 1) (zU x i.toNat 0) (by omega) (zU_eq (g := fun _ => 0) (by omega) hx rfl) (by omega)
  exact loop2 _ 0 fs (by omega) (fun j hj => absurd hj (by omega)) (Nat.lt_succ_self _)
