set_option maxHeartbeats 4000000 in
set_option maxRecDepth 100000 in
theorem c_T_set0 (M : KM) (t t1 t5 t7 t9 t11 t15 : Nat) (ag al an aw v : Int) (hv : 1 ≤ v ∧ v ≤ 30) : kCI M yX9_setRule cX9_setRule 3 .boolean 0 0 0 [cO 9 t [.ref t1, .ref t5, .ref t7, .ref t9, .ref t11, .ref t15, .int (zI ag), .int (zI al), .int (zI an), .int (zI aw)]] [.ref t, .int (zI 0), .int (zI v)] (fun z (u : Unit) => z = 1) (fun u => [cO 9 t [.ref t1, .ref t5, .ref t7, .ref t9, .ref t11, .ref t15, .int (zI v), .int (zI al), .int (zI an), .int (zI aw)]]) := by
  refine kCI.of [(0, .ref t), (1, .int (zI 0)), (2, .int (zI v))] (by decide) (Nat.le_of_ble_eq_true rfl) rfl (fun E gg hret => ?_)
  refine z_iload_n (pc := 0) 1 gg dX9_setRule_0 rfl rfl ?_
  refine z_if_ne (pc := 1) 23 gg dX9_setRule_1 (by decide) ⟨by omega, by omega⟩ (fun h1 => ?_) (fun h1 => ?_)
  · exfalso; omega
  · refine z_iload_n (pc := 4) 2 gg dX9_setRule_4 rfl rfl ?_
    refine z_iconst (pc := 5) gg dX9_setRule_5 ?_
    refine z_icmp_lt (pc := 6) 23 gg dX9_setRule_6 (by decide) ⟨by omega, by omega⟩ ⟨by omega, by omega⟩ (fun h6 => ?_) (fun h6 => ?_)
    · exfalso; omega
    · refine z_iload_n (pc := 9) 2 gg dX9_setRule_9 rfl rfl ?_
      refine z_bipush (pc := 10) gg dX9_setRule_10 (by decide +kernel) ?_
      refine z_icmp_gt (pc := 12) 23 gg dX9_setRule_12 (by decide) ⟨by omega, by omega⟩ ⟨by omega, by omega⟩ (fun h12 => ?_) (fun h12 => ?_)
      · exfalso; omega
      · refine z_aload_n (pc := 15) 0 gg dX9_setRule_15 rfl rfl ?_
        refine z_iload_n (pc := 16) 2 gg dX9_setRule_16 rfl rfl ?_
        refine z_put (pc := 17) 0 [cO 9 t [.ref t1, .ref t5, .ref t7, .ref t9, .ref t11, .ref t15, .int (zI v), .int (zI al), .int (zI an), .int (zI aw)]] gg fp_X9_51 dX9_setRule_17 rfl rfl rfl (Nat.le_of_ble_eq_true rfl) rfl ?_
        refine z_goto (pc := 20) 95 gg dX9_setRule_20 (by decide) ?_
        refine z_iconst (pc := 95) gg dX9_setRule_95 ?_
        exact hret 1 () 96 _ _ _ (Nat.le_of_ble_eq_true rfl) (Nat.le_of_ble_eq_true rfl) dX9_setRule_96 (zB01 (by omega)) (by omega)
set_option maxHeartbeats 4000000 in
set_option maxRecDepth 100000 in
theorem c_T_set1 (M : KM) (t t1 t5 t7 t9 t11 t15 : Nat) (ag al an aw v : Int) (hv : 0 ≤ v ∧ v ≤ 100) : kCI M yX9_setRule cX9_setRule 3 .boolean 0 0 0 [cO 9 t [.ref t1, .ref t5, .ref t7, .ref t9, .ref t11, .ref t15, .int (zI ag), .int (zI al), .int (zI an), .int (zI aw)]] [.ref t, .int (zI 1), .int (zI v)] (fun z (u : Unit) => z = 1) (fun u => [cO 9 t [.ref t1, .ref t5, .ref t7, .ref t9, .ref t11, .ref t15, .int (zI ag), .int (zI v), .int (zI an), .int (zI aw)]]) := by
  refine kCI.of [(0, .ref t), (1, .int (zI 1)), (2, .int (zI v))] (by decide) (Nat.le_of_ble_eq_true rfl) rfl (fun E gg hret => ?_)
  refine z_iload_n (pc := 0) 1 gg dX9_setRule_0 rfl rfl ?_
  refine z_if_ne (pc := 1) 23 gg dX9_setRule_1 (by decide) ⟨by omega, by omega⟩ (fun h1 => ?_) (fun h1 => ?_)
  · refine z_iload_n (pc := 23) 1 gg dX9_setRule_23 rfl rfl ?_
    refine z_iconst (pc := 24) gg dX9_setRule_24 ?_
    refine z_icmp_ne (pc := 25) 46 gg dX9_setRule_25 (by decide) ⟨by omega, by omega⟩ ⟨by omega, by omega⟩ (fun h25 => ?_) (fun h25 => ?_)
    · exfalso; omega
    · refine z_iload_n (pc := 28) 2 gg dX9_setRule_28 rfl rfl ?_
      refine z_if_lt (pc := 29) 46 gg dX9_setRule_29 (by decide) ⟨by omega, by omega⟩ (fun h29 => ?_) (fun h29 => ?_)
      · exfalso; omega
      · refine z_iload_n (pc := 32) 2 gg dX9_setRule_32 rfl rfl ?_
        refine z_bipush (pc := 33) gg dX9_setRule_33 (by decide +kernel) ?_
        refine z_icmp_gt (pc := 35) 46 gg dX9_setRule_35 (by decide) ⟨by omega, by omega⟩ ⟨by omega, by omega⟩ (fun h35 => ?_) (fun h35 => ?_)
        · exfalso; omega
        · refine z_aload_n (pc := 38) 0 gg dX9_setRule_38 rfl rfl ?_
          refine z_iload_n (pc := 39) 2 gg dX9_setRule_39 rfl rfl ?_
          refine z_put (pc := 40) 0 [cO 9 t [.ref t1, .ref t5, .ref t7, .ref t9, .ref t11, .ref t15, .int (zI ag), .int (zI v), .int (zI an), .int (zI aw)]] gg fp_X9_55 dX9_setRule_40 rfl rfl rfl (Nat.le_of_ble_eq_true rfl) rfl ?_
          refine z_goto (pc := 43) 95 gg dX9_setRule_43 (by decide) ?_
          refine z_iconst (pc := 95) gg dX9_setRule_95 ?_
          exact hret 1 () 96 _ _ _ (Nat.le_of_ble_eq_true rfl) (Nat.le_of_ble_eq_true rfl) dX9_setRule_96 (zB01 (by omega)) (by omega)
  · exfalso; omega
set_option maxHeartbeats 4000000 in
set_option maxRecDepth 100000 in
theorem c_T_set2 (M : KM) (t t1 t5 t7 t9 t11 t15 : Nat) (ag al an aw v : Int) (hv : 1 ≤ v ∧ v ≤ 5000) : kCI M yX9_setRule cX9_setRule 3 .boolean 0 0 0 [cO 9 t [.ref t1, .ref t5, .ref t7, .ref t9, .ref t11, .ref t15, .int (zI ag), .int (zI al), .int (zI an), .int (zI aw)]] [.ref t, .int (zI 2), .int (zI v)] (fun z (u : Unit) => z = 1) (fun u => [cO 9 t [.ref t1, .ref t5, .ref t7, .ref t9, .ref t11, .ref t15, .int (zI ag), .int (zI al), .int (zI v), .int (zI aw)]]) := by
  refine kCI.of [(0, .ref t), (1, .int (zI 2)), (2, .int (zI v))] (by decide) (Nat.le_of_ble_eq_true rfl) rfl (fun E gg hret => ?_)
  refine z_iload_n (pc := 0) 1 gg dX9_setRule_0 rfl rfl ?_
  refine z_if_ne (pc := 1) 23 gg dX9_setRule_1 (by decide) ⟨by omega, by omega⟩ (fun h1 => ?_) (fun h1 => ?_)
  · refine z_iload_n (pc := 23) 1 gg dX9_setRule_23 rfl rfl ?_
    refine z_iconst (pc := 24) gg dX9_setRule_24 ?_
    refine z_icmp_ne (pc := 25) 46 gg dX9_setRule_25 (by decide) ⟨by omega, by omega⟩ ⟨by omega, by omega⟩ (fun h25 => ?_) (fun h25 => ?_)
    · refine z_iload_n (pc := 46) 1 gg dX9_setRule_46 rfl rfl ?_
      refine z_iconst (pc := 47) gg dX9_setRule_47 ?_
      refine z_icmp_ne (pc := 48) 71 gg dX9_setRule_48 (by decide) ⟨by omega, by omega⟩ ⟨by omega, by omega⟩ (fun h48 => ?_) (fun h48 => ?_)
      · exfalso; omega
      · refine z_iload_n (pc := 51) 2 gg dX9_setRule_51 rfl rfl ?_
        refine z_iconst (pc := 52) gg dX9_setRule_52 ?_
        refine z_icmp_lt (pc := 53) 71 gg dX9_setRule_53 (by decide) ⟨by omega, by omega⟩ ⟨by omega, by omega⟩ (fun h53 => ?_) (fun h53 => ?_)
        · exfalso; omega
        · refine z_iload_n (pc := 56) 2 gg dX9_setRule_56 rfl rfl ?_
          refine z_sipush (pc := 57) gg dX9_setRule_57 (by decide +kernel) ?_
          refine z_icmp_gt (pc := 60) 71 gg dX9_setRule_60 (by decide) ⟨by omega, by omega⟩ ⟨by omega, by omega⟩ (fun h60 => ?_) (fun h60 => ?_)
          · exfalso; omega
          · refine z_aload_n (pc := 63) 0 gg dX9_setRule_63 rfl rfl ?_
            refine z_iload_n (pc := 64) 2 gg dX9_setRule_64 rfl rfl ?_
            refine z_put (pc := 65) 0 [cO 9 t [.ref t1, .ref t5, .ref t7, .ref t9, .ref t11, .ref t15, .int (zI ag), .int (zI al), .int (zI v), .int (zI aw)]] gg fp_X9_58 dX9_setRule_65 rfl rfl rfl (Nat.le_of_ble_eq_true rfl) rfl ?_
            refine z_goto (pc := 68) 95 gg dX9_setRule_68 (by decide) ?_
            refine z_iconst (pc := 95) gg dX9_setRule_95 ?_
            exact hret 1 () 96 _ _ _ (Nat.le_of_ble_eq_true rfl) (Nat.le_of_ble_eq_true rfl) dX9_setRule_96 (zB01 (by omega)) (by omega)
    · exfalso; omega
  · exfalso; omega
set_option maxHeartbeats 4000000 in
set_option maxRecDepth 100000 in
theorem c_T_set3 (M : KM) (t t1 t5 t7 t9 t11 t15 : Nat) (ag al an aw v : Int) (hv : 0 ≤ v ∧ v ≤ 3) : kCI M yX9_setRule cX9_setRule 3 .boolean 0 0 0 [cO 9 t [.ref t1, .ref t5, .ref t7, .ref t9, .ref t11, .ref t15, .int (zI ag), .int (zI al), .int (zI an), .int (zI aw)]] [.ref t, .int (zI 3), .int (zI v)] (fun z (u : Unit) => z = 1) (fun u => [cO 9 t [.ref t1, .ref t5, .ref t7, .ref t9, .ref t11, .ref t15, .int (zI ag), .int (zI al), .int (zI an), .int (zI v)]]) := by
  refine kCI.of [(0, .ref t), (1, .int (zI 3)), (2, .int (zI v))] (by decide) (Nat.le_of_ble_eq_true rfl) rfl (fun E gg hret => ?_)
  refine z_iload_n (pc := 0) 1 gg dX9_setRule_0 rfl rfl ?_
  refine z_if_ne (pc := 1) 23 gg dX9_setRule_1 (by decide) ⟨by omega, by omega⟩ (fun h1 => ?_) (fun h1 => ?_)
  · refine z_iload_n (pc := 23) 1 gg dX9_setRule_23 rfl rfl ?_
    refine z_iconst (pc := 24) gg dX9_setRule_24 ?_
    refine z_icmp_ne (pc := 25) 46 gg dX9_setRule_25 (by decide) ⟨by omega, by omega⟩ ⟨by omega, by omega⟩ (fun h25 => ?_) (fun h25 => ?_)
    · refine z_iload_n (pc := 46) 1 gg dX9_setRule_46 rfl rfl ?_
      refine z_iconst (pc := 47) gg dX9_setRule_47 ?_
      refine z_icmp_ne (pc := 48) 71 gg dX9_setRule_48 (by decide) ⟨by omega, by omega⟩ ⟨by omega, by omega⟩ (fun h48 => ?_) (fun h48 => ?_)
      · refine z_iload_n (pc := 71) 1 gg dX9_setRule_71 rfl rfl ?_
        refine z_iconst (pc := 72) gg dX9_setRule_72 ?_
        refine z_icmp_ne (pc := 73) 93 gg dX9_setRule_73 (by decide) ⟨by omega, by omega⟩ ⟨by omega, by omega⟩ (fun h73 => ?_) (fun h73 => ?_)
        · exfalso; omega
        · refine z_iload_n (pc := 76) 2 gg dX9_setRule_76 rfl rfl ?_
          refine z_if_lt (pc := 77) 93 gg dX9_setRule_77 (by decide) ⟨by omega, by omega⟩ (fun h77 => ?_) (fun h77 => ?_)
          · exfalso; omega
          · refine z_iload_n (pc := 80) 2 gg dX9_setRule_80 rfl rfl ?_
            refine z_iconst (pc := 81) gg dX9_setRule_81 ?_
            refine z_icmp_gt (pc := 82) 93 gg dX9_setRule_82 (by decide) ⟨by omega, by omega⟩ ⟨by omega, by omega⟩ (fun h82 => ?_) (fun h82 => ?_)
            · exfalso; omega
            · refine z_aload_n (pc := 85) 0 gg dX9_setRule_85 rfl rfl ?_
              refine z_iload_n (pc := 86) 2 gg dX9_setRule_86 rfl rfl ?_
              refine z_put (pc := 87) 0 [cO 9 t [.ref t1, .ref t5, .ref t7, .ref t9, .ref t11, .ref t15, .int (zI ag), .int (zI al), .int (zI an), .int (zI v)]] gg fp_X9_61 dX9_setRule_87 rfl rfl rfl (Nat.le_of_ble_eq_true rfl) rfl ?_
              refine z_goto (pc := 90) 95 gg dX9_setRule_90 (by decide) ?_
              refine z_iconst (pc := 95) gg dX9_setRule_95 ?_
              exact hret 1 () 96 _ _ _ (Nat.le_of_ble_eq_true rfl) (Nat.le_of_ble_eq_true rfl) dX9_setRule_96 (zB01 (by omega)) (by omega)
      · exfalso; omega
    · exfalso; omega
  · exfalso; omega
set_option maxHeartbeats 4000000 in
set_option maxRecDepth 100000 in
theorem c_T_setno (M : KM) (t t1 t5 t7 t9 t11 t15 : Nat) (ag al an aw v : Int) (w : Int) (hw : zR w) (hv : zR v) (hc : w < 0 ∨ 3 < w ∨ (w = 0 ∧ (v < 1 ∨ 30 < v)) ∨ (w = 1 ∧ (v < 0 ∨ 100 < v)) ∨ (w = 2 ∧ (v < 1 ∨ 5000 < v)) ∨ (w = 3 ∧ (v < 0 ∨ 3 < v))) : kCI M yX9_setRule cX9_setRule 3 .boolean 0 0 0 [cO 9 t [.ref t1, .ref t5, .ref t7, .ref t9, .ref t11, .ref t15, .int (zI ag), .int (zI al), .int (zI an), .int (zI aw)]] [.ref t, .int (zI w), .int (zI v)] (fun z (u : Unit) => z = 0) (fun u => [cO 9 t [.ref t1, .ref t5, .ref t7, .ref t9, .ref t11, .ref t15, .int (zI ag), .int (zI al), .int (zI an), .int (zI aw)]]) := by
  refine kCI.of [(0, .ref t), (1, .int (zI w)), (2, .int (zI v))] (by decide) (Nat.le_of_ble_eq_true rfl) rfl (fun E gg hret => ?_)
  have r1_hw := hw.1
  have r2_hw := hw.2
  have r1_hv := hv.1
  have r2_hv := hv.2
  refine z_iload_n (pc := 0) 1 gg dX9_setRule_0 rfl rfl ?_
  refine z_if_ne (pc := 1) 23 gg dX9_setRule_1 (by decide) ⟨by omega, by omega⟩ (fun h1 => ?_) (fun h1 => ?_)
  · refine z_iload_n (pc := 23) 1 gg dX9_setRule_23 rfl rfl ?_
    refine z_iconst (pc := 24) gg dX9_setRule_24 ?_
    refine z_icmp_ne (pc := 25) 46 gg dX9_setRule_25 (by decide) ⟨by omega, by omega⟩ ⟨by omega, by omega⟩ (fun h25 => ?_) (fun h25 => ?_)
    · refine z_iload_n (pc := 46) 1 gg dX9_setRule_46 rfl rfl ?_
      refine z_iconst (pc := 47) gg dX9_setRule_47 ?_
      refine z_icmp_ne (pc := 48) 71 gg dX9_setRule_48 (by decide) ⟨by omega, by omega⟩ ⟨by omega, by omega⟩ (fun h48 => ?_) (fun h48 => ?_)
      · refine z_iload_n (pc := 71) 1 gg dX9_setRule_71 rfl rfl ?_
        refine z_iconst (pc := 72) gg dX9_setRule_72 ?_
        refine z_icmp_ne (pc := 73) 93 gg dX9_setRule_73 (by decide) ⟨by omega, by omega⟩ ⟨by omega, by omega⟩ (fun h73 => ?_) (fun h73 => ?_)
        · refine z_iconst (pc := 93) gg dX9_setRule_93 ?_
          exact hret 0 () 94 _ _ _ (Nat.le_of_ble_eq_true rfl) (Nat.le_of_ble_eq_true rfl) dX9_setRule_94 (zB01 (by omega)) (by omega)
        · refine z_iload_n (pc := 76) 2 gg dX9_setRule_76 rfl rfl ?_
          refine z_if_lt (pc := 77) 93 gg dX9_setRule_77 (by decide) ⟨by omega, by omega⟩ (fun h77 => ?_) (fun h77 => ?_)
          · refine z_iconst (pc := 93) gg dX9_setRule_93 ?_
            exact hret 0 () 94 _ _ _ (Nat.le_of_ble_eq_true rfl) (Nat.le_of_ble_eq_true rfl) dX9_setRule_94 (zB01 (by omega)) (by omega)
          · refine z_iload_n (pc := 80) 2 gg dX9_setRule_80 rfl rfl ?_
            refine z_iconst (pc := 81) gg dX9_setRule_81 ?_
            refine z_icmp_gt (pc := 82) 93 gg dX9_setRule_82 (by decide) ⟨by omega, by omega⟩ ⟨by omega, by omega⟩ (fun h82 => ?_) (fun h82 => ?_)
            · refine z_iconst (pc := 93) gg dX9_setRule_93 ?_
              exact hret 0 () 94 _ _ _ (Nat.le_of_ble_eq_true rfl) (Nat.le_of_ble_eq_true rfl) dX9_setRule_94 (zB01 (by omega)) (by omega)
            · exfalso; omega
      · refine z_iload_n (pc := 51) 2 gg dX9_setRule_51 rfl rfl ?_
        refine z_iconst (pc := 52) gg dX9_setRule_52 ?_
        refine z_icmp_lt (pc := 53) 71 gg dX9_setRule_53 (by decide) ⟨by omega, by omega⟩ ⟨by omega, by omega⟩ (fun h53 => ?_) (fun h53 => ?_)
        · refine z_iload_n (pc := 71) 1 gg dX9_setRule_71 rfl rfl ?_
          refine z_iconst (pc := 72) gg dX9_setRule_72 ?_
          refine z_icmp_ne (pc := 73) 93 gg dX9_setRule_73 (by decide) ⟨by omega, by omega⟩ ⟨by omega, by omega⟩ (fun h73 => ?_) (fun h73 => ?_)
          · refine z_iconst (pc := 93) gg dX9_setRule_93 ?_
            exact hret 0 () 94 _ _ _ (Nat.le_of_ble_eq_true rfl) (Nat.le_of_ble_eq_true rfl) dX9_setRule_94 (zB01 (by omega)) (by omega)
          · refine z_iload_n (pc := 76) 2 gg dX9_setRule_76 rfl rfl ?_
            refine z_if_lt (pc := 77) 93 gg dX9_setRule_77 (by decide) ⟨by omega, by omega⟩ (fun h77 => ?_) (fun h77 => ?_)
            · refine z_iconst (pc := 93) gg dX9_setRule_93 ?_
              exact hret 0 () 94 _ _ _ (Nat.le_of_ble_eq_true rfl) (Nat.le_of_ble_eq_true rfl) dX9_setRule_94 (zB01 (by omega)) (by omega)
            · refine z_iload_n (pc := 80) 2 gg dX9_setRule_80 rfl rfl ?_
              refine z_iconst (pc := 81) gg dX9_setRule_81 ?_
              refine z_icmp_gt (pc := 82) 93 gg dX9_setRule_82 (by decide) ⟨by omega, by omega⟩ ⟨by omega, by omega⟩ (fun h82 => ?_) (fun h82 => ?_)
              · refine z_iconst (pc := 93) gg dX9_setRule_93 ?_
                exact hret 0 () 94 _ _ _ (Nat.le_of_ble_eq_true rfl) (Nat.le_of_ble_eq_true rfl) dX9_setRule_94 (zB01 (by omega)) (by omega)
              · exfalso; omega
        · refine z_iload_n (pc := 56) 2 gg dX9_setRule_56 rfl rfl ?_
          refine z_sipush (pc := 57) gg dX9_setRule_57 (by decide +kernel) ?_
          refine z_icmp_gt (pc := 60) 71 gg dX9_setRule_60 (by decide) ⟨by omega, by omega⟩ ⟨by omega, by omega⟩ (fun h60 => ?_) (fun h60 => ?_)
          · refine z_iload_n (pc := 71) 1 gg dX9_setRule_71 rfl rfl ?_
            refine z_iconst (pc := 72) gg dX9_setRule_72 ?_
            refine z_icmp_ne (pc := 73) 93 gg dX9_setRule_73 (by decide) ⟨by omega, by omega⟩ ⟨by omega, by omega⟩ (fun h73 => ?_) (fun h73 => ?_)
            · refine z_iconst (pc := 93) gg dX9_setRule_93 ?_
              exact hret 0 () 94 _ _ _ (Nat.le_of_ble_eq_true rfl) (Nat.le_of_ble_eq_true rfl) dX9_setRule_94 (zB01 (by omega)) (by omega)
            · refine z_iload_n (pc := 76) 2 gg dX9_setRule_76 rfl rfl ?_
              refine z_if_lt (pc := 77) 93 gg dX9_setRule_77 (by decide) ⟨by omega, by omega⟩ (fun h77 => ?_) (fun h77 => ?_)
              · refine z_iconst (pc := 93) gg dX9_setRule_93 ?_
                exact hret 0 () 94 _ _ _ (Nat.le_of_ble_eq_true rfl) (Nat.le_of_ble_eq_true rfl) dX9_setRule_94 (zB01 (by omega)) (by omega)
              · refine z_iload_n (pc := 80) 2 gg dX9_setRule_80 rfl rfl ?_
                refine z_iconst (pc := 81) gg dX9_setRule_81 ?_
                refine z_icmp_gt (pc := 82) 93 gg dX9_setRule_82 (by decide) ⟨by omega, by omega⟩ ⟨by omega, by omega⟩ (fun h82 => ?_) (fun h82 => ?_)
                · refine z_iconst (pc := 93) gg dX9_setRule_93 ?_
                  exact hret 0 () 94 _ _ _ (Nat.le_of_ble_eq_true rfl) (Nat.le_of_ble_eq_true rfl) dX9_setRule_94 (zB01 (by omega)) (by omega)
                · exfalso; omega
          · exfalso; omega
    · refine z_iload_n (pc := 28) 2 gg dX9_setRule_28 rfl rfl ?_
      refine z_if_lt (pc := 29) 46 gg dX9_setRule_29 (by decide) ⟨by omega, by omega⟩ (fun h29 => ?_) (fun h29 => ?_)
      · refine z_iload_n (pc := 46) 1 gg dX9_setRule_46 rfl rfl ?_
        refine z_iconst (pc := 47) gg dX9_setRule_47 ?_
        refine z_icmp_ne (pc := 48) 71 gg dX9_setRule_48 (by decide) ⟨by omega, by omega⟩ ⟨by omega, by omega⟩ (fun h48 => ?_) (fun h48 => ?_)
        · refine z_iload_n (pc := 71) 1 gg dX9_setRule_71 rfl rfl ?_
          refine z_iconst (pc := 72) gg dX9_setRule_72 ?_
          refine z_icmp_ne (pc := 73) 93 gg dX9_setRule_73 (by decide) ⟨by omega, by omega⟩ ⟨by omega, by omega⟩ (fun h73 => ?_) (fun h73 => ?_)
          · refine z_iconst (pc := 93) gg dX9_setRule_93 ?_
            exact hret 0 () 94 _ _ _ (Nat.le_of_ble_eq_true rfl) (Nat.le_of_ble_eq_true rfl) dX9_setRule_94 (zB01 (by omega)) (by omega)
          · refine z_iload_n (pc := 76) 2 gg dX9_setRule_76 rfl rfl ?_
            refine z_if_lt (pc := 77) 93 gg dX9_setRule_77 (by decide) ⟨by omega, by omega⟩ (fun h77 => ?_) (fun h77 => ?_)
            · refine z_iconst (pc := 93) gg dX9_setRule_93 ?_
              exact hret 0 () 94 _ _ _ (Nat.le_of_ble_eq_true rfl) (Nat.le_of_ble_eq_true rfl) dX9_setRule_94 (zB01 (by omega)) (by omega)
            · refine z_iload_n (pc := 80) 2 gg dX9_setRule_80 rfl rfl ?_
              refine z_iconst (pc := 81) gg dX9_setRule_81 ?_
              refine z_icmp_gt (pc := 82) 93 gg dX9_setRule_82 (by decide) ⟨by omega, by omega⟩ ⟨by omega, by omega⟩ (fun h82 => ?_) (fun h82 => ?_)
              · refine z_iconst (pc := 93) gg dX9_setRule_93 ?_
                exact hret 0 () 94 _ _ _ (Nat.le_of_ble_eq_true rfl) (Nat.le_of_ble_eq_true rfl) dX9_setRule_94 (zB01 (by omega)) (by omega)
              · exfalso; omega
        · refine z_iload_n (pc := 51) 2 gg dX9_setRule_51 rfl rfl ?_
          refine z_iconst (pc := 52) gg dX9_setRule_52 ?_
          refine z_icmp_lt (pc := 53) 71 gg dX9_setRule_53 (by decide) ⟨by omega, by omega⟩ ⟨by omega, by omega⟩ (fun h53 => ?_) (fun h53 => ?_)
          · refine z_iload_n (pc := 71) 1 gg dX9_setRule_71 rfl rfl ?_
            refine z_iconst (pc := 72) gg dX9_setRule_72 ?_
            refine z_icmp_ne (pc := 73) 93 gg dX9_setRule_73 (by decide) ⟨by omega, by omega⟩ ⟨by omega, by omega⟩ (fun h73 => ?_) (fun h73 => ?_)
            · refine z_iconst (pc := 93) gg dX9_setRule_93 ?_
              exact hret 0 () 94 _ _ _ (Nat.le_of_ble_eq_true rfl) (Nat.le_of_ble_eq_true rfl) dX9_setRule_94 (zB01 (by omega)) (by omega)
            · refine z_iload_n (pc := 76) 2 gg dX9_setRule_76 rfl rfl ?_
              refine z_if_lt (pc := 77) 93 gg dX9_setRule_77 (by decide) ⟨by omega, by omega⟩ (fun h77 => ?_) (fun h77 => ?_)
              · refine z_iconst (pc := 93) gg dX9_setRule_93 ?_
                exact hret 0 () 94 _ _ _ (Nat.le_of_ble_eq_true rfl) (Nat.le_of_ble_eq_true rfl) dX9_setRule_94 (zB01 (by omega)) (by omega)
              · refine z_iload_n (pc := 80) 2 gg dX9_setRule_80 rfl rfl ?_
                refine z_iconst (pc := 81) gg dX9_setRule_81 ?_
                refine z_icmp_gt (pc := 82) 93 gg dX9_setRule_82 (by decide) ⟨by omega, by omega⟩ ⟨by omega, by omega⟩ (fun h82 => ?_) (fun h82 => ?_)
                · refine z_iconst (pc := 93) gg dX9_setRule_93 ?_
                  exact hret 0 () 94 _ _ _ (Nat.le_of_ble_eq_true rfl) (Nat.le_of_ble_eq_true rfl) dX9_setRule_94 (zB01 (by omega)) (by omega)
                · exfalso; omega
          · refine z_iload_n (pc := 56) 2 gg dX9_setRule_56 rfl rfl ?_
            refine z_sipush (pc := 57) gg dX9_setRule_57 (by decide +kernel) ?_
            refine z_icmp_gt (pc := 60) 71 gg dX9_setRule_60 (by decide) ⟨by omega, by omega⟩ ⟨by omega, by omega⟩ (fun h60 => ?_) (fun h60 => ?_)
            · refine z_iload_n (pc := 71) 1 gg dX9_setRule_71 rfl rfl ?_
              refine z_iconst (pc := 72) gg dX9_setRule_72 ?_
              refine z_icmp_ne (pc := 73) 93 gg dX9_setRule_73 (by decide) ⟨by omega, by omega⟩ ⟨by omega, by omega⟩ (fun h73 => ?_) (fun h73 => ?_)
              · refine z_iconst (pc := 93) gg dX9_setRule_93 ?_
                exact hret 0 () 94 _ _ _ (Nat.le_of_ble_eq_true rfl) (Nat.le_of_ble_eq_true rfl) dX9_setRule_94 (zB01 (by omega)) (by omega)
              · refine z_iload_n (pc := 76) 2 gg dX9_setRule_76 rfl rfl ?_
                refine z_if_lt (pc := 77) 93 gg dX9_setRule_77 (by decide) ⟨by omega, by omega⟩ (fun h77 => ?_) (fun h77 => ?_)
                · refine z_iconst (pc := 93) gg dX9_setRule_93 ?_
                  exact hret 0 () 94 _ _ _ (Nat.le_of_ble_eq_true rfl) (Nat.le_of_ble_eq_true rfl) dX9_setRule_94 (zB01 (by omega)) (by omega)
                · refine z_iload_n (pc := 80) 2 gg dX9_setRule_80 rfl rfl ?_
                  refine z_iconst (pc := 81) gg dX9_setRule_81 ?_
                  refine z_icmp_gt (pc := 82) 93 gg dX9_setRule_82 (by decide) ⟨by omega, by omega⟩ ⟨by omega, by omega⟩ (fun h82 => ?_) (fun h82 => ?_)
                  · refine z_iconst (pc := 93) gg dX9_setRule_93 ?_
                    exact hret 0 () 94 _ _ _ (Nat.le_of_ble_eq_true rfl) (Nat.le_of_ble_eq_true rfl) dX9_setRule_94 (zB01 (by omega)) (by omega)
                  · exfalso; omega
            · exfalso; omega
      · refine z_iload_n (pc := 32) 2 gg dX9_setRule_32 rfl rfl ?_
        refine z_bipush (pc := 33) gg dX9_setRule_33 (by decide +kernel) ?_
        refine z_icmp_gt (pc := 35) 46 gg dX9_setRule_35 (by decide) ⟨by omega, by omega⟩ ⟨by omega, by omega⟩ (fun h35 => ?_) (fun h35 => ?_)
        · refine z_iload_n (pc := 46) 1 gg dX9_setRule_46 rfl rfl ?_
          refine z_iconst (pc := 47) gg dX9_setRule_47 ?_
          refine z_icmp_ne (pc := 48) 71 gg dX9_setRule_48 (by decide) ⟨by omega, by omega⟩ ⟨by omega, by omega⟩ (fun h48 => ?_) (fun h48 => ?_)
          · refine z_iload_n (pc := 71) 1 gg dX9_setRule_71 rfl rfl ?_
            refine z_iconst (pc := 72) gg dX9_setRule_72 ?_
            refine z_icmp_ne (pc := 73) 93 gg dX9_setRule_73 (by decide) ⟨by omega, by omega⟩ ⟨by omega, by omega⟩ (fun h73 => ?_) (fun h73 => ?_)
            · refine z_iconst (pc := 93) gg dX9_setRule_93 ?_
              exact hret 0 () 94 _ _ _ (Nat.le_of_ble_eq_true rfl) (Nat.le_of_ble_eq_true rfl) dX9_setRule_94 (zB01 (by omega)) (by omega)
            · refine z_iload_n (pc := 76) 2 gg dX9_setRule_76 rfl rfl ?_
              refine z_if_lt (pc := 77) 93 gg dX9_setRule_77 (by decide) ⟨by omega, by omega⟩ (fun h77 => ?_) (fun h77 => ?_)
              · refine z_iconst (pc := 93) gg dX9_setRule_93 ?_
                exact hret 0 () 94 _ _ _ (Nat.le_of_ble_eq_true rfl) (Nat.le_of_ble_eq_true rfl) dX9_setRule_94 (zB01 (by omega)) (by omega)
              · refine z_iload_n (pc := 80) 2 gg dX9_setRule_80 rfl rfl ?_
                refine z_iconst (pc := 81) gg dX9_setRule_81 ?_
                refine z_icmp_gt (pc := 82) 93 gg dX9_setRule_82 (by decide) ⟨by omega, by omega⟩ ⟨by omega, by omega⟩ (fun h82 => ?_) (fun h82 => ?_)
                · refine z_iconst (pc := 93) gg dX9_setRule_93 ?_
                  exact hret 0 () 94 _ _ _ (Nat.le_of_ble_eq_true rfl) (Nat.le_of_ble_eq_true rfl) dX9_setRule_94 (zB01 (by omega)) (by omega)
                · exfalso; omega
          · refine z_iload_n (pc := 51) 2 gg dX9_setRule_51 rfl rfl ?_
            refine z_iconst (pc := 52) gg dX9_setRule_52 ?_
            refine z_icmp_lt (pc := 53) 71 gg dX9_setRule_53 (by decide) ⟨by omega, by omega⟩ ⟨by omega, by omega⟩ (fun h53 => ?_) (fun h53 => ?_)
            · refine z_iload_n (pc := 71) 1 gg dX9_setRule_71 rfl rfl ?_
              refine z_iconst (pc := 72) gg dX9_setRule_72 ?_
              refine z_icmp_ne (pc := 73) 93 gg dX9_setRule_73 (by decide) ⟨by omega, by omega⟩ ⟨by omega, by omega⟩ (fun h73 => ?_) (fun h73 => ?_)
              · refine z_iconst (pc := 93) gg dX9_setRule_93 ?_
                exact hret 0 () 94 _ _ _ (Nat.le_of_ble_eq_true rfl) (Nat.le_of_ble_eq_true rfl) dX9_setRule_94 (zB01 (by omega)) (by omega)
              · refine z_iload_n (pc := 76) 2 gg dX9_setRule_76 rfl rfl ?_
                refine z_if_lt (pc := 77) 93 gg dX9_setRule_77 (by decide) ⟨by omega, by omega⟩ (fun h77 => ?_) (fun h77 => ?_)
                · refine z_iconst (pc := 93) gg dX9_setRule_93 ?_
                  exact hret 0 () 94 _ _ _ (Nat.le_of_ble_eq_true rfl) (Nat.le_of_ble_eq_true rfl) dX9_setRule_94 (zB01 (by omega)) (by omega)
                · refine z_iload_n (pc := 80) 2 gg dX9_setRule_80 rfl rfl ?_
                  refine z_iconst (pc := 81) gg dX9_setRule_81 ?_
                  refine z_icmp_gt (pc := 82) 93 gg dX9_setRule_82 (by decide) ⟨by omega, by omega⟩ ⟨by omega, by omega⟩ (fun h82 => ?_) (fun h82 => ?_)
                  · refine z_iconst (pc := 93) gg dX9_setRule_93 ?_
                    exact hret 0 () 94 _ _ _ (Nat.le_of_ble_eq_true rfl) (Nat.le_of_ble_eq_true rfl) dX9_setRule_94 (zB01 (by omega)) (by omega)
                  · exfalso; omega
            · refine z_iload_n (pc := 56) 2 gg dX9_setRule_56 rfl rfl ?_
              refine z_sipush (pc := 57) gg dX9_setRule_57 (by decide +kernel) ?_
              refine z_icmp_gt (pc := 60) 71 gg dX9_setRule_60 (by decide) ⟨by omega, by omega⟩ ⟨by omega, by omega⟩ (fun h60 => ?_) (fun h60 => ?_)
              · refine z_iload_n (pc := 71) 1 gg dX9_setRule_71 rfl rfl ?_
                refine z_iconst (pc := 72) gg dX9_setRule_72 ?_
                refine z_icmp_ne (pc := 73) 93 gg dX9_setRule_73 (by decide) ⟨by omega, by omega⟩ ⟨by omega, by omega⟩ (fun h73 => ?_) (fun h73 => ?_)
                · refine z_iconst (pc := 93) gg dX9_setRule_93 ?_
                  exact hret 0 () 94 _ _ _ (Nat.le_of_ble_eq_true rfl) (Nat.le_of_ble_eq_true rfl) dX9_setRule_94 (zB01 (by omega)) (by omega)
                · refine z_iload_n (pc := 76) 2 gg dX9_setRule_76 rfl rfl ?_
                  refine z_if_lt (pc := 77) 93 gg dX9_setRule_77 (by decide) ⟨by omega, by omega⟩ (fun h77 => ?_) (fun h77 => ?_)
                  · refine z_iconst (pc := 93) gg dX9_setRule_93 ?_
                    exact hret 0 () 94 _ _ _ (Nat.le_of_ble_eq_true rfl) (Nat.le_of_ble_eq_true rfl) dX9_setRule_94 (zB01 (by omega)) (by omega)
                  · refine z_iload_n (pc := 80) 2 gg dX9_setRule_80 rfl rfl ?_
                    refine z_iconst (pc := 81) gg dX9_setRule_81 ?_
                    refine z_icmp_gt (pc := 82) 93 gg dX9_setRule_82 (by decide) ⟨by omega, by omega⟩ ⟨by omega, by omega⟩ (fun h82 => ?_) (fun h82 => ?_)
                    · refine z_iconst (pc := 93) gg dX9_setRule_93 ?_
                      exact hret 0 () 94 _ _ _ (Nat.le_of_ble_eq_true rfl) (Nat.le_of_ble_eq_true rfl) dX9_setRule_94 (zB01 (by omega)) (by omega)
                    · exfalso; omega
              · exfalso; omega
        · exfalso; omega
  · refine z_iload_n (pc := 4) 2 gg dX9_setRule_4 rfl rfl ?_
    refine z_iconst (pc := 5) gg dX9_setRule_5 ?_
    refine z_icmp_lt (pc := 6) 23 gg dX9_setRule_6 (by decide) ⟨by omega, by omega⟩ ⟨by omega, by omega⟩ (fun h6 => ?_) (fun h6 => ?_)
    · refine z_iload_n (pc := 23) 1 gg dX9_setRule_23 rfl rfl ?_
      refine z_iconst (pc := 24) gg dX9_setRule_24 ?_
      refine z_icmp_ne (pc := 25) 46 gg dX9_setRule_25 (by decide) ⟨by omega, by omega⟩ ⟨by omega, by omega⟩ (fun h25 => ?_) (fun h25 => ?_)
      · refine z_iload_n (pc := 46) 1 gg dX9_setRule_46 rfl rfl ?_
        refine z_iconst (pc := 47) gg dX9_setRule_47 ?_
        refine z_icmp_ne (pc := 48) 71 gg dX9_setRule_48 (by decide) ⟨by omega, by omega⟩ ⟨by omega, by omega⟩ (fun h48 => ?_) (fun h48 => ?_)
        · refine z_iload_n (pc := 71) 1 gg dX9_setRule_71 rfl rfl ?_
          refine z_iconst (pc := 72) gg dX9_setRule_72 ?_
          refine z_icmp_ne (pc := 73) 93 gg dX9_setRule_73 (by decide) ⟨by omega, by omega⟩ ⟨by omega, by omega⟩ (fun h73 => ?_) (fun h73 => ?_)
          · refine z_iconst (pc := 93) gg dX9_setRule_93 ?_
            exact hret 0 () 94 _ _ _ (Nat.le_of_ble_eq_true rfl) (Nat.le_of_ble_eq_true rfl) dX9_setRule_94 (zB01 (by omega)) (by omega)
          · refine z_iload_n (pc := 76) 2 gg dX9_setRule_76 rfl rfl ?_
            refine z_if_lt (pc := 77) 93 gg dX9_setRule_77 (by decide) ⟨by omega, by omega⟩ (fun h77 => ?_) (fun h77 => ?_)
            · refine z_iconst (pc := 93) gg dX9_setRule_93 ?_
              exact hret 0 () 94 _ _ _ (Nat.le_of_ble_eq_true rfl) (Nat.le_of_ble_eq_true rfl) dX9_setRule_94 (zB01 (by omega)) (by omega)
            · refine z_iload_n (pc := 80) 2 gg dX9_setRule_80 rfl rfl ?_
              refine z_iconst (pc := 81) gg dX9_setRule_81 ?_
              refine z_icmp_gt (pc := 82) 93 gg dX9_setRule_82 (by decide) ⟨by omega, by omega⟩ ⟨by omega, by omega⟩ (fun h82 => ?_) (fun h82 => ?_)
              · refine z_iconst (pc := 93) gg dX9_setRule_93 ?_
                exact hret 0 () 94 _ _ _ (Nat.le_of_ble_eq_true rfl) (Nat.le_of_ble_eq_true rfl) dX9_setRule_94 (zB01 (by omega)) (by omega)
              · exfalso; omega
        · refine z_iload_n (pc := 51) 2 gg dX9_setRule_51 rfl rfl ?_
          refine z_iconst (pc := 52) gg dX9_setRule_52 ?_
          refine z_icmp_lt (pc := 53) 71 gg dX9_setRule_53 (by decide) ⟨by omega, by omega⟩ ⟨by omega, by omega⟩ (fun h53 => ?_) (fun h53 => ?_)
          · refine z_iload_n (pc := 71) 1 gg dX9_setRule_71 rfl rfl ?_
            refine z_iconst (pc := 72) gg dX9_setRule_72 ?_
            refine z_icmp_ne (pc := 73) 93 gg dX9_setRule_73 (by decide) ⟨by omega, by omega⟩ ⟨by omega, by omega⟩ (fun h73 => ?_) (fun h73 => ?_)
            · refine z_iconst (pc := 93) gg dX9_setRule_93 ?_
              exact hret 0 () 94 _ _ _ (Nat.le_of_ble_eq_true rfl) (Nat.le_of_ble_eq_true rfl) dX9_setRule_94 (zB01 (by omega)) (by omega)
            · refine z_iload_n (pc := 76) 2 gg dX9_setRule_76 rfl rfl ?_
              refine z_if_lt (pc := 77) 93 gg dX9_setRule_77 (by decide) ⟨by omega, by omega⟩ (fun h77 => ?_) (fun h77 => ?_)
              · refine z_iconst (pc := 93) gg dX9_setRule_93 ?_
                exact hret 0 () 94 _ _ _ (Nat.le_of_ble_eq_true rfl) (Nat.le_of_ble_eq_true rfl) dX9_setRule_94 (zB01 (by omega)) (by omega)
              · refine z_iload_n (pc := 80) 2 gg dX9_setRule_80 rfl rfl ?_
                refine z_iconst (pc := 81) gg dX9_setRule_81 ?_
                refine z_icmp_gt (pc := 82) 93 gg dX9_setRule_82 (by decide) ⟨by omega, by omega⟩ ⟨by omega, by omega⟩ (fun h82 => ?_) (fun h82 => ?_)
                · refine z_iconst (pc := 93) gg dX9_setRule_93 ?_
                  exact hret 0 () 94 _ _ _ (Nat.le_of_ble_eq_true rfl) (Nat.le_of_ble_eq_true rfl) dX9_setRule_94 (zB01 (by omega)) (by omega)
                · exfalso; omega
          · refine z_iload_n (pc := 56) 2 gg dX9_setRule_56 rfl rfl ?_
            refine z_sipush (pc := 57) gg dX9_setRule_57 (by decide +kernel) ?_
            refine z_icmp_gt (pc := 60) 71 gg dX9_setRule_60 (by decide) ⟨by omega, by omega⟩ ⟨by omega, by omega⟩ (fun h60 => ?_) (fun h60 => ?_)
            · refine z_iload_n (pc := 71) 1 gg dX9_setRule_71 rfl rfl ?_
              refine z_iconst (pc := 72) gg dX9_setRule_72 ?_
              refine z_icmp_ne (pc := 73) 93 gg dX9_setRule_73 (by decide) ⟨by omega, by omega⟩ ⟨by omega, by omega⟩ (fun h73 => ?_) (fun h73 => ?_)
              · refine z_iconst (pc := 93) gg dX9_setRule_93 ?_
                exact hret 0 () 94 _ _ _ (Nat.le_of_ble_eq_true rfl) (Nat.le_of_ble_eq_true rfl) dX9_setRule_94 (zB01 (by omega)) (by omega)
              · refine z_iload_n (pc := 76) 2 gg dX9_setRule_76 rfl rfl ?_
                refine z_if_lt (pc := 77) 93 gg dX9_setRule_77 (by decide) ⟨by omega, by omega⟩ (fun h77 => ?_) (fun h77 => ?_)
                · refine z_iconst (pc := 93) gg dX9_setRule_93 ?_
                  exact hret 0 () 94 _ _ _ (Nat.le_of_ble_eq_true rfl) (Nat.le_of_ble_eq_true rfl) dX9_setRule_94 (zB01 (by omega)) (by omega)
                · refine z_iload_n (pc := 80) 2 gg dX9_setRule_80 rfl rfl ?_
                  refine z_iconst (pc := 81) gg dX9_setRule_81 ?_
                  refine z_icmp_gt (pc := 82) 93 gg dX9_setRule_82 (by decide) ⟨by omega, by omega⟩ ⟨by omega, by omega⟩ (fun h82 => ?_) (fun h82 => ?_)
                  · refine z_iconst (pc := 93) gg dX9_setRule_93 ?_
                    exact hret 0 () 94 _ _ _ (Nat.le_of_ble_eq_true rfl) (Nat.le_of_ble_eq_true rfl) dX9_setRule_94 (zB01 (by omega)) (by omega)
                  · exfalso; omega
            · exfalso; omega
      · refine z_iload_n (pc := 28) 2 gg dX9_setRule_28 rfl rfl ?_
        refine z_if_lt (pc := 29) 46 gg dX9_setRule_29 (by decide) ⟨by omega, by omega⟩ (fun h29 => ?_) (fun h29 => ?_)
        · refine z_iload_n (pc := 46) 1 gg dX9_setRule_46 rfl rfl ?_
          refine z_iconst (pc := 47) gg dX9_setRule_47 ?_
          refine z_icmp_ne (pc := 48) 71 gg dX9_setRule_48 (by decide) ⟨by omega, by omega⟩ ⟨by omega, by omega⟩ (fun h48 => ?_) (fun h48 => ?_)
          · refine z_iload_n (pc := 71) 1 gg dX9_setRule_71 rfl rfl ?_
            refine z_iconst (pc := 72) gg dX9_setRule_72 ?_
            refine z_icmp_ne (pc := 73) 93 gg dX9_setRule_73 (by decide) ⟨by omega, by omega⟩ ⟨by omega, by omega⟩ (fun h73 => ?_) (fun h73 => ?_)
            · refine z_iconst (pc := 93) gg dX9_setRule_93 ?_
              exact hret 0 () 94 _ _ _ (Nat.le_of_ble_eq_true rfl) (Nat.le_of_ble_eq_true rfl) dX9_setRule_94 (zB01 (by omega)) (by omega)
            · refine z_iload_n (pc := 76) 2 gg dX9_setRule_76 rfl rfl ?_
              refine z_if_lt (pc := 77) 93 gg dX9_setRule_77 (by decide) ⟨by omega, by omega⟩ (fun h77 => ?_) (fun h77 => ?_)
              · refine z_iconst (pc := 93) gg dX9_setRule_93 ?_
                exact hret 0 () 94 _ _ _ (Nat.le_of_ble_eq_true rfl) (Nat.le_of_ble_eq_true rfl) dX9_setRule_94 (zB01 (by omega)) (by omega)
              · refine z_iload_n (pc := 80) 2 gg dX9_setRule_80 rfl rfl ?_
                refine z_iconst (pc := 81) gg dX9_setRule_81 ?_
                refine z_icmp_gt (pc := 82) 93 gg dX9_setRule_82 (by decide) ⟨by omega, by omega⟩ ⟨by omega, by omega⟩ (fun h82 => ?_) (fun h82 => ?_)
                · refine z_iconst (pc := 93) gg dX9_setRule_93 ?_
                  exact hret 0 () 94 _ _ _ (Nat.le_of_ble_eq_true rfl) (Nat.le_of_ble_eq_true rfl) dX9_setRule_94 (zB01 (by omega)) (by omega)
                · exfalso; omega
          · refine z_iload_n (pc := 51) 2 gg dX9_setRule_51 rfl rfl ?_
            refine z_iconst (pc := 52) gg dX9_setRule_52 ?_
            refine z_icmp_lt (pc := 53) 71 gg dX9_setRule_53 (by decide) ⟨by omega, by omega⟩ ⟨by omega, by omega⟩ (fun h53 => ?_) (fun h53 => ?_)
            · refine z_iload_n (pc := 71) 1 gg dX9_setRule_71 rfl rfl ?_
              refine z_iconst (pc := 72) gg dX9_setRule_72 ?_
              refine z_icmp_ne (pc := 73) 93 gg dX9_setRule_73 (by decide) ⟨by omega, by omega⟩ ⟨by omega, by omega⟩ (fun h73 => ?_) (fun h73 => ?_)
              · refine z_iconst (pc := 93) gg dX9_setRule_93 ?_
                exact hret 0 () 94 _ _ _ (Nat.le_of_ble_eq_true rfl) (Nat.le_of_ble_eq_true rfl) dX9_setRule_94 (zB01 (by omega)) (by omega)
              · refine z_iload_n (pc := 76) 2 gg dX9_setRule_76 rfl rfl ?_
                refine z_if_lt (pc := 77) 93 gg dX9_setRule_77 (by decide) ⟨by omega, by omega⟩ (fun h77 => ?_) (fun h77 => ?_)
                · refine z_iconst (pc := 93) gg dX9_setRule_93 ?_
                  exact hret 0 () 94 _ _ _ (Nat.le_of_ble_eq_true rfl) (Nat.le_of_ble_eq_true rfl) dX9_setRule_94 (zB01 (by omega)) (by omega)
                · refine z_iload_n (pc := 80) 2 gg dX9_setRule_80 rfl rfl ?_
                  refine z_iconst (pc := 81) gg dX9_setRule_81 ?_
                  refine z_icmp_gt (pc := 82) 93 gg dX9_setRule_82 (by decide) ⟨by omega, by omega⟩ ⟨by omega, by omega⟩ (fun h82 => ?_) (fun h82 => ?_)
                  · refine z_iconst (pc := 93) gg dX9_setRule_93 ?_
                    exact hret 0 () 94 _ _ _ (Nat.le_of_ble_eq_true rfl) (Nat.le_of_ble_eq_true rfl) dX9_setRule_94 (zB01 (by omega)) (by omega)
                  · exfalso; omega
            · refine z_iload_n (pc := 56) 2 gg dX9_setRule_56 rfl rfl ?_
              refine z_sipush (pc := 57) gg dX9_setRule_57 (by decide +kernel) ?_
              refine z_icmp_gt (pc := 60) 71 gg dX9_setRule_60 (by decide) ⟨by omega, by omega⟩ ⟨by omega, by omega⟩ (fun h60 => ?_) (fun h60 => ?_)
              · refine z_iload_n (pc := 71) 1 gg dX9_setRule_71 rfl rfl ?_
                refine z_iconst (pc := 72) gg dX9_setRule_72 ?_
                refine z_icmp_ne (pc := 73) 93 gg dX9_setRule_73 (by decide) ⟨by omega, by omega⟩ ⟨by omega, by omega⟩ (fun h73 => ?_) (fun h73 => ?_)
                · refine z_iconst (pc := 93) gg dX9_setRule_93 ?_
                  exact hret 0 () 94 _ _ _ (Nat.le_of_ble_eq_true rfl) (Nat.le_of_ble_eq_true rfl) dX9_setRule_94 (zB01 (by omega)) (by omega)
                · refine z_iload_n (pc := 76) 2 gg dX9_setRule_76 rfl rfl ?_
                  refine z_if_lt (pc := 77) 93 gg dX9_setRule_77 (by decide) ⟨by omega, by omega⟩ (fun h77 => ?_) (fun h77 => ?_)
                  · refine z_iconst (pc := 93) gg dX9_setRule_93 ?_
                    exact hret 0 () 94 _ _ _ (Nat.le_of_ble_eq_true rfl) (Nat.le_of_ble_eq_true rfl) dX9_setRule_94 (zB01 (by omega)) (by omega)
                  · refine z_iload_n (pc := 80) 2 gg dX9_setRule_80 rfl rfl ?_
                    refine z_iconst (pc := 81) gg dX9_setRule_81 ?_
                    refine z_icmp_gt (pc := 82) 93 gg dX9_setRule_82 (by decide) ⟨by omega, by omega⟩ ⟨by omega, by omega⟩ (fun h82 => ?_) (fun h82 => ?_)
                    · refine z_iconst (pc := 93) gg dX9_setRule_93 ?_
                      exact hret 0 () 94 _ _ _ (Nat.le_of_ble_eq_true rfl) (Nat.le_of_ble_eq_true rfl) dX9_setRule_94 (zB01 (by omega)) (by omega)
                    · exfalso; omega
              · exfalso; omega
        · refine z_iload_n (pc := 32) 2 gg dX9_setRule_32 rfl rfl ?_
          refine z_bipush (pc := 33) gg dX9_setRule_33 (by decide +kernel) ?_
          refine z_icmp_gt (pc := 35) 46 gg dX9_setRule_35 (by decide) ⟨by omega, by omega⟩ ⟨by omega, by omega⟩ (fun h35 => ?_) (fun h35 => ?_)
          · refine z_iload_n (pc := 46) 1 gg dX9_setRule_46 rfl rfl ?_
            refine z_iconst (pc := 47) gg dX9_setRule_47 ?_
            refine z_icmp_ne (pc := 48) 71 gg dX9_setRule_48 (by decide) ⟨by omega, by omega⟩ ⟨by omega, by omega⟩ (fun h48 => ?_) (fun h48 => ?_)
            · refine z_iload_n (pc := 71) 1 gg dX9_setRule_71 rfl rfl ?_
              refine z_iconst (pc := 72) gg dX9_setRule_72 ?_
              refine z_icmp_ne (pc := 73) 93 gg dX9_setRule_73 (by decide) ⟨by omega, by omega⟩ ⟨by omega, by omega⟩ (fun h73 => ?_) (fun h73 => ?_)
              · refine z_iconst (pc := 93) gg dX9_setRule_93 ?_
                exact hret 0 () 94 _ _ _ (Nat.le_of_ble_eq_true rfl) (Nat.le_of_ble_eq_true rfl) dX9_setRule_94 (zB01 (by omega)) (by omega)
              · refine z_iload_n (pc := 76) 2 gg dX9_setRule_76 rfl rfl ?_
                refine z_if_lt (pc := 77) 93 gg dX9_setRule_77 (by decide) ⟨by omega, by omega⟩ (fun h77 => ?_) (fun h77 => ?_)
                · refine z_iconst (pc := 93) gg dX9_setRule_93 ?_
                  exact hret 0 () 94 _ _ _ (Nat.le_of_ble_eq_true rfl) (Nat.le_of_ble_eq_true rfl) dX9_setRule_94 (zB01 (by omega)) (by omega)
                · refine z_iload_n (pc := 80) 2 gg dX9_setRule_80 rfl rfl ?_
                  refine z_iconst (pc := 81) gg dX9_setRule_81 ?_
                  refine z_icmp_gt (pc := 82) 93 gg dX9_setRule_82 (by decide) ⟨by omega, by omega⟩ ⟨by omega, by omega⟩ (fun h82 => ?_) (fun h82 => ?_)
                  · refine z_iconst (pc := 93) gg dX9_setRule_93 ?_
                    exact hret 0 () 94 _ _ _ (Nat.le_of_ble_eq_true rfl) (Nat.le_of_ble_eq_true rfl) dX9_setRule_94 (zB01 (by omega)) (by omega)
                  · exfalso; omega
            · refine z_iload_n (pc := 51) 2 gg dX9_setRule_51 rfl rfl ?_
              refine z_iconst (pc := 52) gg dX9_setRule_52 ?_
              refine z_icmp_lt (pc := 53) 71 gg dX9_setRule_53 (by decide) ⟨by omega, by omega⟩ ⟨by omega, by omega⟩ (fun h53 => ?_) (fun h53 => ?_)
              · refine z_iload_n (pc := 71) 1 gg dX9_setRule_71 rfl rfl ?_
                refine z_iconst (pc := 72) gg dX9_setRule_72 ?_
                refine z_icmp_ne (pc := 73) 93 gg dX9_setRule_73 (by decide) ⟨by omega, by omega⟩ ⟨by omega, by omega⟩ (fun h73 => ?_) (fun h73 => ?_)
                · refine z_iconst (pc := 93) gg dX9_setRule_93 ?_
                  exact hret 0 () 94 _ _ _ (Nat.le_of_ble_eq_true rfl) (Nat.le_of_ble_eq_true rfl) dX9_setRule_94 (zB01 (by omega)) (by omega)
                · refine z_iload_n (pc := 76) 2 gg dX9_setRule_76 rfl rfl ?_
                  refine z_if_lt (pc := 77) 93 gg dX9_setRule_77 (by decide) ⟨by omega, by omega⟩ (fun h77 => ?_) (fun h77 => ?_)
                  · refine z_iconst (pc := 93) gg dX9_setRule_93 ?_
                    exact hret 0 () 94 _ _ _ (Nat.le_of_ble_eq_true rfl) (Nat.le_of_ble_eq_true rfl) dX9_setRule_94 (zB01 (by omega)) (by omega)
                  · refine z_iload_n (pc := 80) 2 gg dX9_setRule_80 rfl rfl ?_
                    refine z_iconst (pc := 81) gg dX9_setRule_81 ?_
                    refine z_icmp_gt (pc := 82) 93 gg dX9_setRule_82 (by decide) ⟨by omega, by omega⟩ ⟨by omega, by omega⟩ (fun h82 => ?_) (fun h82 => ?_)
                    · refine z_iconst (pc := 93) gg dX9_setRule_93 ?_
                      exact hret 0 () 94 _ _ _ (Nat.le_of_ble_eq_true rfl) (Nat.le_of_ble_eq_true rfl) dX9_setRule_94 (zB01 (by omega)) (by omega)
                    · exfalso; omega
              · refine z_iload_n (pc := 56) 2 gg dX9_setRule_56 rfl rfl ?_
                refine z_sipush (pc := 57) gg dX9_setRule_57 (by decide +kernel) ?_
                refine z_icmp_gt (pc := 60) 71 gg dX9_setRule_60 (by decide) ⟨by omega, by omega⟩ ⟨by omega, by omega⟩ (fun h60 => ?_) (fun h60 => ?_)
                · refine z_iload_n (pc := 71) 1 gg dX9_setRule_71 rfl rfl ?_
                  refine z_iconst (pc := 72) gg dX9_setRule_72 ?_
                  refine z_icmp_ne (pc := 73) 93 gg dX9_setRule_73 (by decide) ⟨by omega, by omega⟩ ⟨by omega, by omega⟩ (fun h73 => ?_) (fun h73 => ?_)
                  · refine z_iconst (pc := 93) gg dX9_setRule_93 ?_
                    exact hret 0 () 94 _ _ _ (Nat.le_of_ble_eq_true rfl) (Nat.le_of_ble_eq_true rfl) dX9_setRule_94 (zB01 (by omega)) (by omega)
                  · refine z_iload_n (pc := 76) 2 gg dX9_setRule_76 rfl rfl ?_
                    refine z_if_lt (pc := 77) 93 gg dX9_setRule_77 (by decide) ⟨by omega, by omega⟩ (fun h77 => ?_) (fun h77 => ?_)
                    · refine z_iconst (pc := 93) gg dX9_setRule_93 ?_
                      exact hret 0 () 94 _ _ _ (Nat.le_of_ble_eq_true rfl) (Nat.le_of_ble_eq_true rfl) dX9_setRule_94 (zB01 (by omega)) (by omega)
                    · refine z_iload_n (pc := 80) 2 gg dX9_setRule_80 rfl rfl ?_
                      refine z_iconst (pc := 81) gg dX9_setRule_81 ?_
                      refine z_icmp_gt (pc := 82) 93 gg dX9_setRule_82 (by decide) ⟨by omega, by omega⟩ ⟨by omega, by omega⟩ (fun h82 => ?_) (fun h82 => ?_)
                      · refine z_iconst (pc := 93) gg dX9_setRule_93 ?_
                        exact hret 0 () 94 _ _ _ (Nat.le_of_ble_eq_true rfl) (Nat.le_of_ble_eq_true rfl) dX9_setRule_94 (zB01 (by omega)) (by omega)
                      · exfalso; omega
                · exfalso; omega
          · exfalso; omega
    · refine z_iload_n (pc := 9) 2 gg dX9_setRule_9 rfl rfl ?_
      refine z_bipush (pc := 10) gg dX9_setRule_10 (by decide +kernel) ?_
      refine z_icmp_gt (pc := 12) 23 gg dX9_setRule_12 (by decide) ⟨by omega, by omega⟩ ⟨by omega, by omega⟩ (fun h12 => ?_) (fun h12 => ?_)
      · refine z_iload_n (pc := 23) 1 gg dX9_setRule_23 rfl rfl ?_
        refine z_iconst (pc := 24) gg dX9_setRule_24 ?_
        refine z_icmp_ne (pc := 25) 46 gg dX9_setRule_25 (by decide) ⟨by omega, by omega⟩ ⟨by omega, by omega⟩ (fun h25 => ?_) (fun h25 => ?_)
        · refine z_iload_n (pc := 46) 1 gg dX9_setRule_46 rfl rfl ?_
          refine z_iconst (pc := 47) gg dX9_setRule_47 ?_
          refine z_icmp_ne (pc := 48) 71 gg dX9_setRule_48 (by decide) ⟨by omega, by omega⟩ ⟨by omega, by omega⟩ (fun h48 => ?_) (fun h48 => ?_)
          · refine z_iload_n (pc := 71) 1 gg dX9_setRule_71 rfl rfl ?_
            refine z_iconst (pc := 72) gg dX9_setRule_72 ?_
            refine z_icmp_ne (pc := 73) 93 gg dX9_setRule_73 (by decide) ⟨by omega, by omega⟩ ⟨by omega, by omega⟩ (fun h73 => ?_) (fun h73 => ?_)
            · refine z_iconst (pc := 93) gg dX9_setRule_93 ?_
              exact hret 0 () 94 _ _ _ (Nat.le_of_ble_eq_true rfl) (Nat.le_of_ble_eq_true rfl) dX9_setRule_94 (zB01 (by omega)) (by omega)
            · refine z_iload_n (pc := 76) 2 gg dX9_setRule_76 rfl rfl ?_
              refine z_if_lt (pc := 77) 93 gg dX9_setRule_77 (by decide) ⟨by omega, by omega⟩ (fun h77 => ?_) (fun h77 => ?_)
              · refine z_iconst (pc := 93) gg dX9_setRule_93 ?_
                exact hret 0 () 94 _ _ _ (Nat.le_of_ble_eq_true rfl) (Nat.le_of_ble_eq_true rfl) dX9_setRule_94 (zB01 (by omega)) (by omega)
              · refine z_iload_n (pc := 80) 2 gg dX9_setRule_80 rfl rfl ?_
                refine z_iconst (pc := 81) gg dX9_setRule_81 ?_
                refine z_icmp_gt (pc := 82) 93 gg dX9_setRule_82 (by decide) ⟨by omega, by omega⟩ ⟨by omega, by omega⟩ (fun h82 => ?_) (fun h82 => ?_)
                · refine z_iconst (pc := 93) gg dX9_setRule_93 ?_
                  exact hret 0 () 94 _ _ _ (Nat.le_of_ble_eq_true rfl) (Nat.le_of_ble_eq_true rfl) dX9_setRule_94 (zB01 (by omega)) (by omega)
                · exfalso; omega
          · refine z_iload_n (pc := 51) 2 gg dX9_setRule_51 rfl rfl ?_
            refine z_iconst (pc := 52) gg dX9_setRule_52 ?_
            refine z_icmp_lt (pc := 53) 71 gg dX9_setRule_53 (by decide) ⟨by omega, by omega⟩ ⟨by omega, by omega⟩ (fun h53 => ?_) (fun h53 => ?_)
            · refine z_iload_n (pc := 71) 1 gg dX9_setRule_71 rfl rfl ?_
              refine z_iconst (pc := 72) gg dX9_setRule_72 ?_
              refine z_icmp_ne (pc := 73) 93 gg dX9_setRule_73 (by decide) ⟨by omega, by omega⟩ ⟨by omega, by omega⟩ (fun h73 => ?_) (fun h73 => ?_)
              · refine z_iconst (pc := 93) gg dX9_setRule_93 ?_
                exact hret 0 () 94 _ _ _ (Nat.le_of_ble_eq_true rfl) (Nat.le_of_ble_eq_true rfl) dX9_setRule_94 (zB01 (by omega)) (by omega)
              · refine z_iload_n (pc := 76) 2 gg dX9_setRule_76 rfl rfl ?_
                refine z_if_lt (pc := 77) 93 gg dX9_setRule_77 (by decide) ⟨by omega, by omega⟩ (fun h77 => ?_) (fun h77 => ?_)
                · refine z_iconst (pc := 93) gg dX9_setRule_93 ?_
                  exact hret 0 () 94 _ _ _ (Nat.le_of_ble_eq_true rfl) (Nat.le_of_ble_eq_true rfl) dX9_setRule_94 (zB01 (by omega)) (by omega)
                · refine z_iload_n (pc := 80) 2 gg dX9_setRule_80 rfl rfl ?_
                  refine z_iconst (pc := 81) gg dX9_setRule_81 ?_
                  refine z_icmp_gt (pc := 82) 93 gg dX9_setRule_82 (by decide) ⟨by omega, by omega⟩ ⟨by omega, by omega⟩ (fun h82 => ?_) (fun h82 => ?_)
                  · refine z_iconst (pc := 93) gg dX9_setRule_93 ?_
                    exact hret 0 () 94 _ _ _ (Nat.le_of_ble_eq_true rfl) (Nat.le_of_ble_eq_true rfl) dX9_setRule_94 (zB01 (by omega)) (by omega)
                  · exfalso; omega
            · refine z_iload_n (pc := 56) 2 gg dX9_setRule_56 rfl rfl ?_
              refine z_sipush (pc := 57) gg dX9_setRule_57 (by decide +kernel) ?_
              refine z_icmp_gt (pc := 60) 71 gg dX9_setRule_60 (by decide) ⟨by omega, by omega⟩ ⟨by omega, by omega⟩ (fun h60 => ?_) (fun h60 => ?_)
              · refine z_iload_n (pc := 71) 1 gg dX9_setRule_71 rfl rfl ?_
                refine z_iconst (pc := 72) gg dX9_setRule_72 ?_
                refine z_icmp_ne (pc := 73) 93 gg dX9_setRule_73 (by decide) ⟨by omega, by omega⟩ ⟨by omega, by omega⟩ (fun h73 => ?_) (fun h73 => ?_)
                · refine z_iconst (pc := 93) gg dX9_setRule_93 ?_
                  exact hret 0 () 94 _ _ _ (Nat.le_of_ble_eq_true rfl) (Nat.le_of_ble_eq_true rfl) dX9_setRule_94 (zB01 (by omega)) (by omega)
                · refine z_iload_n (pc := 76) 2 gg dX9_setRule_76 rfl rfl ?_
                  refine z_if_lt (pc := 77) 93 gg dX9_setRule_77 (by decide) ⟨by omega, by omega⟩ (fun h77 => ?_) (fun h77 => ?_)
                  · refine z_iconst (pc := 93) gg dX9_setRule_93 ?_
                    exact hret 0 () 94 _ _ _ (Nat.le_of_ble_eq_true rfl) (Nat.le_of_ble_eq_true rfl) dX9_setRule_94 (zB01 (by omega)) (by omega)
                  · refine z_iload_n (pc := 80) 2 gg dX9_setRule_80 rfl rfl ?_
                    refine z_iconst (pc := 81) gg dX9_setRule_81 ?_
                    refine z_icmp_gt (pc := 82) 93 gg dX9_setRule_82 (by decide) ⟨by omega, by omega⟩ ⟨by omega, by omega⟩ (fun h82 => ?_) (fun h82 => ?_)
                    · refine z_iconst (pc := 93) gg dX9_setRule_93 ?_
                      exact hret 0 () 94 _ _ _ (Nat.le_of_ble_eq_true rfl) (Nat.le_of_ble_eq_true rfl) dX9_setRule_94 (zB01 (by omega)) (by omega)
                    · exfalso; omega
              · exfalso; omega
        · refine z_iload_n (pc := 28) 2 gg dX9_setRule_28 rfl rfl ?_
          refine z_if_lt (pc := 29) 46 gg dX9_setRule_29 (by decide) ⟨by omega, by omega⟩ (fun h29 => ?_) (fun h29 => ?_)
          · refine z_iload_n (pc := 46) 1 gg dX9_setRule_46 rfl rfl ?_
            refine z_iconst (pc := 47) gg dX9_setRule_47 ?_
            refine z_icmp_ne (pc := 48) 71 gg dX9_setRule_48 (by decide) ⟨by omega, by omega⟩ ⟨by omega, by omega⟩ (fun h48 => ?_) (fun h48 => ?_)
            · refine z_iload_n (pc := 71) 1 gg dX9_setRule_71 rfl rfl ?_
              refine z_iconst (pc := 72) gg dX9_setRule_72 ?_
              refine z_icmp_ne (pc := 73) 93 gg dX9_setRule_73 (by decide) ⟨by omega, by omega⟩ ⟨by omega, by omega⟩ (fun h73 => ?_) (fun h73 => ?_)
              · refine z_iconst (pc := 93) gg dX9_setRule_93 ?_
                exact hret 0 () 94 _ _ _ (Nat.le_of_ble_eq_true rfl) (Nat.le_of_ble_eq_true rfl) dX9_setRule_94 (zB01 (by omega)) (by omega)
              · refine z_iload_n (pc := 76) 2 gg dX9_setRule_76 rfl rfl ?_
                refine z_if_lt (pc := 77) 93 gg dX9_setRule_77 (by decide) ⟨by omega, by omega⟩ (fun h77 => ?_) (fun h77 => ?_)
                · refine z_iconst (pc := 93) gg dX9_setRule_93 ?_
                  exact hret 0 () 94 _ _ _ (Nat.le_of_ble_eq_true rfl) (Nat.le_of_ble_eq_true rfl) dX9_setRule_94 (zB01 (by omega)) (by omega)
                · refine z_iload_n (pc := 80) 2 gg dX9_setRule_80 rfl rfl ?_
                  refine z_iconst (pc := 81) gg dX9_setRule_81 ?_
                  refine z_icmp_gt (pc := 82) 93 gg dX9_setRule_82 (by decide) ⟨by omega, by omega⟩ ⟨by omega, by omega⟩ (fun h82 => ?_) (fun h82 => ?_)
                  · refine z_iconst (pc := 93) gg dX9_setRule_93 ?_
                    exact hret 0 () 94 _ _ _ (Nat.le_of_ble_eq_true rfl) (Nat.le_of_ble_eq_true rfl) dX9_setRule_94 (zB01 (by omega)) (by omega)
                  · exfalso; omega
            · refine z_iload_n (pc := 51) 2 gg dX9_setRule_51 rfl rfl ?_
              refine z_iconst (pc := 52) gg dX9_setRule_52 ?_
              refine z_icmp_lt (pc := 53) 71 gg dX9_setRule_53 (by decide) ⟨by omega, by omega⟩ ⟨by omega, by omega⟩ (fun h53 => ?_) (fun h53 => ?_)
              · refine z_iload_n (pc := 71) 1 gg dX9_setRule_71 rfl rfl ?_
                refine z_iconst (pc := 72) gg dX9_setRule_72 ?_
                refine z_icmp_ne (pc := 73) 93 gg dX9_setRule_73 (by decide) ⟨by omega, by omega⟩ ⟨by omega, by omega⟩ (fun h73 => ?_) (fun h73 => ?_)
                · refine z_iconst (pc := 93) gg dX9_setRule_93 ?_
                  exact hret 0 () 94 _ _ _ (Nat.le_of_ble_eq_true rfl) (Nat.le_of_ble_eq_true rfl) dX9_setRule_94 (zB01 (by omega)) (by omega)
                · refine z_iload_n (pc := 76) 2 gg dX9_setRule_76 rfl rfl ?_
                  refine z_if_lt (pc := 77) 93 gg dX9_setRule_77 (by decide) ⟨by omega, by omega⟩ (fun h77 => ?_) (fun h77 => ?_)
                  · refine z_iconst (pc := 93) gg dX9_setRule_93 ?_
                    exact hret 0 () 94 _ _ _ (Nat.le_of_ble_eq_true rfl) (Nat.le_of_ble_eq_true rfl) dX9_setRule_94 (zB01 (by omega)) (by omega)
                  · refine z_iload_n (pc := 80) 2 gg dX9_setRule_80 rfl rfl ?_
                    refine z_iconst (pc := 81) gg dX9_setRule_81 ?_
                    refine z_icmp_gt (pc := 82) 93 gg dX9_setRule_82 (by decide) ⟨by omega, by omega⟩ ⟨by omega, by omega⟩ (fun h82 => ?_) (fun h82 => ?_)
                    · refine z_iconst (pc := 93) gg dX9_setRule_93 ?_
                      exact hret 0 () 94 _ _ _ (Nat.le_of_ble_eq_true rfl) (Nat.le_of_ble_eq_true rfl) dX9_setRule_94 (zB01 (by omega)) (by omega)
                    · exfalso; omega
              · refine z_iload_n (pc := 56) 2 gg dX9_setRule_56 rfl rfl ?_
                refine z_sipush (pc := 57) gg dX9_setRule_57 (by decide +kernel) ?_
                refine z_icmp_gt (pc := 60) 71 gg dX9_setRule_60 (by decide) ⟨by omega, by omega⟩ ⟨by omega, by omega⟩ (fun h60 => ?_) (fun h60 => ?_)
                · refine z_iload_n (pc := 71) 1 gg dX9_setRule_71 rfl rfl ?_
                  refine z_iconst (pc := 72) gg dX9_setRule_72 ?_
                  refine z_icmp_ne (pc := 73) 93 gg dX9_setRule_73 (by decide) ⟨by omega, by omega⟩ ⟨by omega, by omega⟩ (fun h73 => ?_) (fun h73 => ?_)
                  · refine z_iconst (pc := 93) gg dX9_setRule_93 ?_
                    exact hret 0 () 94 _ _ _ (Nat.le_of_ble_eq_true rfl) (Nat.le_of_ble_eq_true rfl) dX9_setRule_94 (zB01 (by omega)) (by omega)
                  · refine z_iload_n (pc := 76) 2 gg dX9_setRule_76 rfl rfl ?_
                    refine z_if_lt (pc := 77) 93 gg dX9_setRule_77 (by decide) ⟨by omega, by omega⟩ (fun h77 => ?_) (fun h77 => ?_)
                    · refine z_iconst (pc := 93) gg dX9_setRule_93 ?_
                      exact hret 0 () 94 _ _ _ (Nat.le_of_ble_eq_true rfl) (Nat.le_of_ble_eq_true rfl) dX9_setRule_94 (zB01 (by omega)) (by omega)
                    · refine z_iload_n (pc := 80) 2 gg dX9_setRule_80 rfl rfl ?_
                      refine z_iconst (pc := 81) gg dX9_setRule_81 ?_
                      refine z_icmp_gt (pc := 82) 93 gg dX9_setRule_82 (by decide) ⟨by omega, by omega⟩ ⟨by omega, by omega⟩ (fun h82 => ?_) (fun h82 => ?_)
                      · refine z_iconst (pc := 93) gg dX9_setRule_93 ?_
                        exact hret 0 () 94 _ _ _ (Nat.le_of_ble_eq_true rfl) (Nat.le_of_ble_eq_true rfl) dX9_setRule_94 (zB01 (by omega)) (by omega)
                      · exfalso; omega
                · exfalso; omega
          · refine z_iload_n (pc := 32) 2 gg dX9_setRule_32 rfl rfl ?_
            refine z_bipush (pc := 33) gg dX9_setRule_33 (by decide +kernel) ?_
            refine z_icmp_gt (pc := 35) 46 gg dX9_setRule_35 (by decide) ⟨by omega, by omega⟩ ⟨by omega, by omega⟩ (fun h35 => ?_) (fun h35 => ?_)
            · refine z_iload_n (pc := 46) 1 gg dX9_setRule_46 rfl rfl ?_
              refine z_iconst (pc := 47) gg dX9_setRule_47 ?_
              refine z_icmp_ne (pc := 48) 71 gg dX9_setRule_48 (by decide) ⟨by omega, by omega⟩ ⟨by omega, by omega⟩ (fun h48 => ?_) (fun h48 => ?_)
              · refine z_iload_n (pc := 71) 1 gg dX9_setRule_71 rfl rfl ?_
                refine z_iconst (pc := 72) gg dX9_setRule_72 ?_
                refine z_icmp_ne (pc := 73) 93 gg dX9_setRule_73 (by decide) ⟨by omega, by omega⟩ ⟨by omega, by omega⟩ (fun h73 => ?_) (fun h73 => ?_)
                · refine z_iconst (pc := 93) gg dX9_setRule_93 ?_
                  exact hret 0 () 94 _ _ _ (Nat.le_of_ble_eq_true rfl) (Nat.le_of_ble_eq_true rfl) dX9_setRule_94 (zB01 (by omega)) (by omega)
                · refine z_iload_n (pc := 76) 2 gg dX9_setRule_76 rfl rfl ?_
                  refine z_if_lt (pc := 77) 93 gg dX9_setRule_77 (by decide) ⟨by omega, by omega⟩ (fun h77 => ?_) (fun h77 => ?_)
                  · refine z_iconst (pc := 93) gg dX9_setRule_93 ?_
                    exact hret 0 () 94 _ _ _ (Nat.le_of_ble_eq_true rfl) (Nat.le_of_ble_eq_true rfl) dX9_setRule_94 (zB01 (by omega)) (by omega)
                  · refine z_iload_n (pc := 80) 2 gg dX9_setRule_80 rfl rfl ?_
                    refine z_iconst (pc := 81) gg dX9_setRule_81 ?_
                    refine z_icmp_gt (pc := 82) 93 gg dX9_setRule_82 (by decide) ⟨by omega, by omega⟩ ⟨by omega, by omega⟩ (fun h82 => ?_) (fun h82 => ?_)
                    · refine z_iconst (pc := 93) gg dX9_setRule_93 ?_
                      exact hret 0 () 94 _ _ _ (Nat.le_of_ble_eq_true rfl) (Nat.le_of_ble_eq_true rfl) dX9_setRule_94 (zB01 (by omega)) (by omega)
                    · exfalso; omega
              · refine z_iload_n (pc := 51) 2 gg dX9_setRule_51 rfl rfl ?_
                refine z_iconst (pc := 52) gg dX9_setRule_52 ?_
                refine z_icmp_lt (pc := 53) 71 gg dX9_setRule_53 (by decide) ⟨by omega, by omega⟩ ⟨by omega, by omega⟩ (fun h53 => ?_) (fun h53 => ?_)
                · refine z_iload_n (pc := 71) 1 gg dX9_setRule_71 rfl rfl ?_
                  refine z_iconst (pc := 72) gg dX9_setRule_72 ?_
                  refine z_icmp_ne (pc := 73) 93 gg dX9_setRule_73 (by decide) ⟨by omega, by omega⟩ ⟨by omega, by omega⟩ (fun h73 => ?_) (fun h73 => ?_)
                  · refine z_iconst (pc := 93) gg dX9_setRule_93 ?_
                    exact hret 0 () 94 _ _ _ (Nat.le_of_ble_eq_true rfl) (Nat.le_of_ble_eq_true rfl) dX9_setRule_94 (zB01 (by omega)) (by omega)
                  · refine z_iload_n (pc := 76) 2 gg dX9_setRule_76 rfl rfl ?_
                    refine z_if_lt (pc := 77) 93 gg dX9_setRule_77 (by decide) ⟨by omega, by omega⟩ (fun h77 => ?_) (fun h77 => ?_)
                    · refine z_iconst (pc := 93) gg dX9_setRule_93 ?_
                      exact hret 0 () 94 _ _ _ (Nat.le_of_ble_eq_true rfl) (Nat.le_of_ble_eq_true rfl) dX9_setRule_94 (zB01 (by omega)) (by omega)
                    · refine z_iload_n (pc := 80) 2 gg dX9_setRule_80 rfl rfl ?_
                      refine z_iconst (pc := 81) gg dX9_setRule_81 ?_
                      refine z_icmp_gt (pc := 82) 93 gg dX9_setRule_82 (by decide) ⟨by omega, by omega⟩ ⟨by omega, by omega⟩ (fun h82 => ?_) (fun h82 => ?_)
                      · refine z_iconst (pc := 93) gg dX9_setRule_93 ?_
                        exact hret 0 () 94 _ _ _ (Nat.le_of_ble_eq_true rfl) (Nat.le_of_ble_eq_true rfl) dX9_setRule_94 (zB01 (by omega)) (by omega)
                      · exfalso; omega
                · refine z_iload_n (pc := 56) 2 gg dX9_setRule_56 rfl rfl ?_
                  refine z_sipush (pc := 57) gg dX9_setRule_57 (by decide +kernel) ?_
                  refine z_icmp_gt (pc := 60) 71 gg dX9_setRule_60 (by decide) ⟨by omega, by omega⟩ ⟨by omega, by omega⟩ (fun h60 => ?_) (fun h60 => ?_)
                  · refine z_iload_n (pc := 71) 1 gg dX9_setRule_71 rfl rfl ?_
                    refine z_iconst (pc := 72) gg dX9_setRule_72 ?_
                    refine z_icmp_ne (pc := 73) 93 gg dX9_setRule_73 (by decide) ⟨by omega, by omega⟩ ⟨by omega, by omega⟩ (fun h73 => ?_) (fun h73 => ?_)
                    · refine z_iconst (pc := 93) gg dX9_setRule_93 ?_
                      exact hret 0 () 94 _ _ _ (Nat.le_of_ble_eq_true rfl) (Nat.le_of_ble_eq_true rfl) dX9_setRule_94 (zB01 (by omega)) (by omega)
                    · refine z_iload_n (pc := 76) 2 gg dX9_setRule_76 rfl rfl ?_
                      refine z_if_lt (pc := 77) 93 gg dX9_setRule_77 (by decide) ⟨by omega, by omega⟩ (fun h77 => ?_) (fun h77 => ?_)
                      · refine z_iconst (pc := 93) gg dX9_setRule_93 ?_
                        exact hret 0 () 94 _ _ _ (Nat.le_of_ble_eq_true rfl) (Nat.le_of_ble_eq_true rfl) dX9_setRule_94 (zB01 (by omega)) (by omega)
                      · refine z_iload_n (pc := 80) 2 gg dX9_setRule_80 rfl rfl ?_
                        refine z_iconst (pc := 81) gg dX9_setRule_81 ?_
                        refine z_icmp_gt (pc := 82) 93 gg dX9_setRule_82 (by decide) ⟨by omega, by omega⟩ ⟨by omega, by omega⟩ (fun h82 => ?_) (fun h82 => ?_)
                        · refine z_iconst (pc := 93) gg dX9_setRule_93 ?_
                          exact hret 0 () 94 _ _ _ (Nat.le_of_ble_eq_true rfl) (Nat.le_of_ble_eq_true rfl) dX9_setRule_94 (zB01 (by omega)) (by omega)
                        · exfalso; omega
                  · exfalso; omega
            · exfalso; omega
      · exfalso; omega
set_option maxHeartbeats 4000000 in
set_option maxRecDepth 100000 in
theorem c_T_copyFrom (M : KM) (t0 t1 t2 t3 t4 t5 t6 t7 t8 t9 t10 t11 t12 t13 t14 t15 t16 t17 t18 : Nat) (s0 s1 s2 s3 s4 s5 s6 s7 s8 s9 s10 s11 s12 s13 s14 s15 s16 s17 s18 : Nat) (y1 y5 y7 y9 y15 : Nat) (g0 g1 g2 g3 : Int) (x2 x3 x4 x6 x8 x10 x12 x13 x14 x16 x17 x18 A : Nat → Int) (hu : ∀ j, j < 6 → lF 12 3 6 A j = 0 ∨ lF 12 3 6 A j = 1) (hf : ∀ j, j < 8 → lF 254 6 8 A j = 0 ∨ lF 254 6 8 A j = 1) (hw : ∀ j, j < 8 → lF 255 6 8 A j = 0 ∨ lF 255 6 8 A j = 1) : kCV M yX9_copyFrom cX9_copyFrom 2 2 0 0 [cO 9 t0 [.ref t1, .ref t5, .ref t7, .ref t9, .ref t11, .ref t15, .int (zI g0), .int (zI g1), .int (zI g2), .int (zI g3)], cO 0 t1 [.int (zI (y1 : Int)), .ref t2, .ref t3, .ref t4], cI M t2 6 x2, cI M t3 6 x3, cZ M t4 6 x4, cO 4 t5 [.int (zI (y5 : Int)), .ref t6], cI M t6 8 x6, cO 5 t7 [.int (zI (y7 : Int)), .ref t8], cI M t8 192 x8, cO 6 t9 [.int (zI (y9 : Int)), .ref t10], cI M t10 4 x10, cO 2 t11 [.ref t12, .ref t13, .ref t14], cI M t12 32 x12, cZ M t13 8 x13, cZ M t14 8 x14, cO 8 t15 [.int (zI (y15 : Int)), .ref t16, .ref t17, .ref t18], cI M t16 6 x16, cI M t17 6 x17, cI M t18 6 x18, cO 9 s0 [.ref s1, .ref s5, .ref s7, .ref s9, .ref s11, .ref s15, .int (zI (A 5)), .int (zI (A 6)), .int (zI (A 7)), .int (zI (A 8))], cO 0 s1 [.int (zI ((A 0).toNat : Int)), .ref s2, .ref s3, .ref s4], cI M s2 6 (lF 10 3 6 A), cI M s3 6 (lF 11 3 6 A), cZ M s4 6 (lF 12 3 6 A), cO 4 s5 [.int (zI ((A 1).toNat : Int)), .ref s6], cI M s6 8 (lF 30 1 8 A), cO 5 s7 [.int (zI ((A 2).toNat : Int)), .ref s8], cI M s8 192 (lF 50 1 192 A), cO 6 s9 [.int (zI ((A 3).toNat : Int)), .ref s10], cI M s10 4 (lF 40 1 4 A), cO 2 s11 [.ref s12, .ref s13, .ref s14], cI M s12 32 (lD A), cZ M s13 8 (lF 254 6 8 A), cZ M s14 8 (lF 255 6 8 A), cO 8 s15 [.int (zI ((A 4).toNat : Int)), .ref s16, .ref s17, .ref s18], cI M s16 6 (lF 300 3 6 A), cI M s17 6 (lF 301 3 6 A), cI M s18 6 (lF 302 3 6 A)] [.ref t0, .ref s0] (fun u : Unit => True) (fun u => [cO 9 t0 [.ref t1, .ref t5, .ref t7, .ref t9, .ref t11, .ref t15, .int (zI (A 5)), .int (zI (A 6)), .int (zI (A 7)), .int (zI (A 8))], cO 0 t1 [.int (zI ((A 0).toNat : Int)), .ref t2, .ref t3, .ref t4], cI M t2 6 (lF 10 3 6 A), cI M t3 6 (lF 11 3 6 A), cZ M t4 6 (lF 12 3 6 A), cO 4 t5 [.int (zI ((A 1).toNat : Int)), .ref t6], cI M t6 8 (lF 30 1 8 A), cO 5 t7 [.int (zI ((A 2).toNat : Int)), .ref t8], cI M t8 192 (lF 50 1 192 A), cO 6 t9 [.int (zI ((A 3).toNat : Int)), .ref t10], cI M t10 4 (lF 40 1 4 A), cO 2 t11 [.ref t12, .ref t13, .ref t14], cI M t12 32 (lD A), cZ M t13 8 (lF 254 6 8 A), cZ M t14 8 (lF 255 6 8 A), cO 8 t15 [.int (zI ((A 4).toNat : Int)), .ref t16, .ref t17, .ref t18], cI M t16 6 (lF 300 3 6 A), cI M t17 6 (lF 301 3 6 A), cI M t18 6 (lF 302 3 6 A), cO 9 s0 [.ref s1, .ref s5, .ref s7, .ref s9, .ref s11, .ref s15, .int (zI (A 5)), .int (zI (A 6)), .int (zI (A 7)), .int (zI (A 8))], cO 0 s1 [.int (zI ((A 0).toNat : Int)), .ref s2, .ref s3, .ref s4], cI M s2 6 (lF 10 3 6 A), cI M s3 6 (lF 11 3 6 A), cZ M s4 6 (lF 12 3 6 A), cO 4 s5 [.int (zI ((A 1).toNat : Int)), .ref s6], cI M s6 8 (lF 30 1 8 A), cO 5 s7 [.int (zI ((A 2).toNat : Int)), .ref s8], cI M s8 192 (lF 50 1 192 A), cO 6 s9 [.int (zI ((A 3).toNat : Int)), .ref s10], cI M s10 4 (lF 40 1 4 A), cO 2 s11 [.ref s12, .ref s13, .ref s14], cI M s12 32 (lD A), cZ M s13 8 (lF 254 6 8 A), cZ M s14 8 (lF 255 6 8 A), cO 8 s15 [.int (zI ((A 4).toNat : Int)), .ref s16, .ref s17, .ref s18], cI M s16 6 (lF 300 3 6 A), cI M s17 6 (lF 301 3 6 A), cI M s18 6 (lF 302 3 6 A)]) := by
  refine kCV.of [(0, .ref t0), (1, .ref s0)] (by decide) (Nat.le_of_ble_eq_true rfl) rfl (fun E gg gn hret => ?_)
  refine z_aload_n (pc := 0) 0 gg dX9_copyFrom_0 rfl rfl ?_
  refine z_get (pc := 1) 0 gg fl_X9_10 dX9_copyFrom_1 rfl rfl ?_
  refine z_aload_n (pc := 4) 1 gg dX9_copyFrom_4 rfl rfl ?_
  refine z_get (pc := 5) 19 gg fl_X9_10 dX9_copyFrom_5 rfl rfl ?_
  refine z_callVv (pc := 8) (wr := [cO 9 t0 [.ref t1, .ref t5, .ref t7, .ref t9, .ref t11, .ref t15, .int (zI g0), .int (zI g1), .int (zI g2), .int (zI g3)], cO 4 t5 [.int (zI (y5 : Int)), .ref t6], cI M t6 8 x6, cO 5 t7 [.int (zI (y7 : Int)), .ref t8], cI M t8 192 x8, cO 6 t9 [.int (zI (y9 : Int)), .ref t10], cI M t10 4 x10, cO 2 t11 [.ref t12, .ref t13, .ref t14], cI M t12 32 x12, cZ M t13 8 x13, cZ M t14 8 x14, cO 8 t15 [.int (zI (y15 : Int)), .ref t16, .ref t17, .ref t18], cI M t16 6 x16, cI M t17 6 x17, cI M t18 6 x18, cO 9 s0 [.ref s1, .ref s5, .ref s7, .ref s9, .ref s11, .ref s15, .int (zI (A 5)), .int (zI (A 6)), .int (zI (A 7)), .int (zI (A 8))], cO 4 s5 [.int (zI ((A 1).toNat : Int)), .ref s6], cI M s6 8 (lF 30 1 8 A), cO 5 s7 [.int (zI ((A 2).toNat : Int)), .ref s8], cI M s8 192 (lF 50 1 192 A), cO 6 s9 [.int (zI ((A 3).toNat : Int)), .ref s10], cI M s10 4 (lF 40 1 4 A), cO 2 s11 [.ref s12, .ref s13, .ref s14], cI M s12 32 (lD A), cZ M s13 8 (lF 254 6 8 A), cZ M s14 8 (lF 255 6 8 A), cO 8 s15 [.int (zI ((A 4).toNat : Int)), .ref s16, .ref s17, .ref s18], cI M s16 6 (lF 300 3 6 A), cI M s17 6 (lF 301 3 6 A), cI M s18 6 (lF 302 3 6 A)]) (As := [.ref s1]) (st := []) [1, 2, 3, 4, 20, 21, 22, 23] [0, 5, 6, 7, 8, 9, 10, 11, 12, 13, 14, 15, 16, 17, 18, 19, 24, 25, 26, 27, 28, 29, 30, 31, 32, 33, 34, 35, 36, 37] [0, 30, 31, 32, 33, 1, 2, 3, 4, 5, 6, 7, 8, 9, 10, 11, 12, 13, 14, 15, 34, 35, 36, 37, 16, 17, 18, 19, 20, 21, 22, 23, 24, 25, 26, 27, 28, 29] (fun u => [cO 9 t0 [.ref t1, .ref t5, .ref t7, .ref t9, .ref t11, .ref t15, .int (zI g0), .int (zI g1), .int (zI g2), .int (zI g3)], cO 0 t1 [.int (zI (((A 0).toNat) : Int)), .ref t2, .ref t3, .ref t4], cI M t2 6 (lF 10 3 6 A), cI M t3 6 (lF 11 3 6 A), cZ M t4 6 (lF 12 3 6 A), cO 4 t5 [.int (zI (y5 : Int)), .ref t6], cI M t6 8 x6, cO 5 t7 [.int (zI (y7 : Int)), .ref t8], cI M t8 192 x8, cO 6 t9 [.int (zI (y9 : Int)), .ref t10], cI M t10 4 x10, cO 2 t11 [.ref t12, .ref t13, .ref t14], cI M t12 32 x12, cZ M t13 8 x13, cZ M t14 8 x14, cO 8 t15 [.int (zI (y15 : Int)), .ref t16, .ref t17, .ref t18], cI M t16 6 x16, cI M t17 6 x17, cI M t18 6 x18, cO 9 s0 [.ref s1, .ref s5, .ref s7, .ref s9, .ref s11, .ref s15, .int (zI (A 5)), .int (zI (A 6)), .int (zI (A 7)), .int (zI (A 8))], cO 0 s1 [.int (zI (((A 0).toNat) : Int)), .ref s2, .ref s3, .ref s4], cI M s2 6 (lF 10 3 6 A), cI M s3 6 (lF 11 3 6 A), cZ M s4 6 (lF 12 3 6 A), cO 4 s5 [.int (zI ((A 1).toNat : Int)), .ref s6], cI M s6 8 (lF 30 1 8 A), cO 5 s7 [.int (zI ((A 2).toNat : Int)), .ref s8], cI M s8 192 (lF 50 1 192 A), cO 6 s9 [.int (zI ((A 3).toNat : Int)), .ref s10], cI M s10 4 (lF 40 1 4 A), cO 2 s11 [.ref s12, .ref s13, .ref s14], cI M s12 32 (lD A), cZ M s13 8 (lF 254 6 8 A), cZ M s14 8 (lF 255 6 8 A), cO 8 s15 [.int (zI ((A 4).toNat : Int)), .ref s16, .ref s17, .ref s18], cI M s16 6 (lF 300 3 6 A), cI M s17 6 (lF 301 3 6 A), cI M s18 6 (lF 302 3 6 A)]) gg (c_B_copyFrom M t1 t2 t3 t4 y1 x2 x3 x4 s1 s2 s3 s4 ((A 0).toNat) (lF 10 3 6 A) (lF 11 3 6 A) (lF 12 3 6 A) hu) yv_0_copyFrom ml_X9_64 dX9_copyFrom_8 (by decide) (Nat.le_of_ble_eq_true rfl) (Nat.le_of_ble_eq_true rfl) (Nat.le_of_ble_eq_true rfl) rfl rfl rfl rfl (by decide) rfl (fun _ => rfl) rfl rfl rfl (fun u8 hz8 => ?_)
  refine z_aload_n (pc := 11) 0 gg dX9_copyFrom_11 rfl rfl ?_
  refine z_get (pc := 12) 0 gg fl_X9_19 dX9_copyFrom_12 rfl rfl ?_
  refine z_aload_n (pc := 15) 1 gg dX9_copyFrom_15 rfl rfl ?_
  refine z_get (pc := 16) 19 gg fl_X9_19 dX9_copyFrom_16 rfl rfl ?_
  refine z_callVv (pc := 19) (wr := [cO 9 t0 [.ref t1, .ref t5, .ref t7, .ref t9, .ref t11, .ref t15, .int (zI g0), .int (zI g1), .int (zI g2), .int (zI g3)], cO 0 t1 [.int (zI (((A 0).toNat) : Int)), .ref t2, .ref t3, .ref t4], cI M t2 6 (lF 10 3 6 A), cI M t3 6 (lF 11 3 6 A), cZ M t4 6 (lF 12 3 6 A), cO 5 t7 [.int (zI (y7 : Int)), .ref t8], cI M t8 192 x8, cO 6 t9 [.int (zI (y9 : Int)), .ref t10], cI M t10 4 x10, cO 2 t11 [.ref t12, .ref t13, .ref t14], cI M t12 32 x12, cZ M t13 8 x13, cZ M t14 8 x14, cO 8 t15 [.int (zI (y15 : Int)), .ref t16, .ref t17, .ref t18], cI M t16 6 x16, cI M t17 6 x17, cI M t18 6 x18, cO 9 s0 [.ref s1, .ref s5, .ref s7, .ref s9, .ref s11, .ref s15, .int (zI (A 5)), .int (zI (A 6)), .int (zI (A 7)), .int (zI (A 8))], cO 0 s1 [.int (zI (((A 0).toNat) : Int)), .ref s2, .ref s3, .ref s4], cI M s2 6 (lF 10 3 6 A), cI M s3 6 (lF 11 3 6 A), cZ M s4 6 (lF 12 3 6 A), cO 5 s7 [.int (zI ((A 2).toNat : Int)), .ref s8], cI M s8 192 (lF 50 1 192 A), cO 6 s9 [.int (zI ((A 3).toNat : Int)), .ref s10], cI M s10 4 (lF 40 1 4 A), cO 2 s11 [.ref s12, .ref s13, .ref s14], cI M s12 32 (lD A), cZ M s13 8 (lF 254 6 8 A), cZ M s14 8 (lF 255 6 8 A), cO 8 s15 [.int (zI ((A 4).toNat : Int)), .ref s16, .ref s17, .ref s18], cI M s16 6 (lF 300 3 6 A), cI M s17 6 (lF 301 3 6 A), cI M s18 6 (lF 302 3 6 A)]) (As := [.ref s5]) (st := []) [5, 6, 24, 25] [0, 1, 2, 3, 4, 7, 8, 9, 10, 11, 12, 13, 14, 15, 16, 17, 18, 19, 20, 21, 22, 23, 26, 27, 28, 29, 30, 31, 32, 33, 34, 35, 36, 37] [0, 1, 2, 3, 4, 34, 35, 5, 6, 7, 8, 9, 10, 11, 12, 13, 14, 15, 16, 17, 18, 19, 20, 21, 36, 37, 22, 23, 24, 25, 26, 27, 28, 29, 30, 31, 32, 33] (fun u => [cO 9 t0 [.ref t1, .ref t5, .ref t7, .ref t9, .ref t11, .ref t15, .int (zI g0), .int (zI g1), .int (zI g2), .int (zI g3)], cO 0 t1 [.int (zI (((A 0).toNat) : Int)), .ref t2, .ref t3, .ref t4], cI M t2 6 (lF 10 3 6 A), cI M t3 6 (lF 11 3 6 A), cZ M t4 6 (lF 12 3 6 A), cO 4 t5 [.int (zI (((A 1).toNat) : Int)), .ref t6], cI M t6 8 (lF 30 1 8 A), cO 5 t7 [.int (zI (y7 : Int)), .ref t8], cI M t8 192 x8, cO 6 t9 [.int (zI (y9 : Int)), .ref t10], cI M t10 4 x10, cO 2 t11 [.ref t12, .ref t13, .ref t14], cI M t12 32 x12, cZ M t13 8 x13, cZ M t14 8 x14, cO 8 t15 [.int (zI (y15 : Int)), .ref t16, .ref t17, .ref t18], cI M t16 6 x16, cI M t17 6 x17, cI M t18 6 x18, cO 9 s0 [.ref s1, .ref s5, .ref s7, .ref s9, .ref s11, .ref s15, .int (zI (A 5)), .int (zI (A 6)), .int (zI (A 7)), .int (zI (A 8))], cO 0 s1 [.int (zI (((A 0).toNat) : Int)), .ref s2, .ref s3, .ref s4], cI M s2 6 (lF 10 3 6 A), cI M s3 6 (lF 11 3 6 A), cZ M s4 6 (lF 12 3 6 A), cO 4 s5 [.int (zI (((A 1).toNat) : Int)), .ref s6], cI M s6 8 (lF 30 1 8 A), cO 5 s7 [.int (zI ((A 2).toNat : Int)), .ref s8], cI M s8 192 (lF 50 1 192 A), cO 6 s9 [.int (zI ((A 3).toNat : Int)), .ref s10], cI M s10 4 (lF 40 1 4 A), cO 2 s11 [.ref s12, .ref s13, .ref s14], cI M s12 32 (lD A), cZ M s13 8 (lF 254 6 8 A), cZ M s14 8 (lF 255 6 8 A), cO 8 s15 [.int (zI ((A 4).toNat : Int)), .ref s16, .ref s17, .ref s18], cI M s16 6 (lF 300 3 6 A), cI M s17 6 (lF 301 3 6 A), cI M s18 6 (lF 302 3 6 A)]) gg (c_L_copyFrom M t5 t6 y5 x6 s5 s6 ((A 1).toNat) (lF 30 1 8 A) ) yv_4_copyFrom ml_X9_68 dX9_copyFrom_19 (by decide) (Nat.le_of_ble_eq_true rfl) (Nat.le_of_ble_eq_true rfl) (Nat.le_of_ble_eq_true rfl) rfl rfl rfl rfl (by decide) rfl (fun _ => rfl) rfl rfl rfl (fun u19 hz19 => ?_)
  refine z_aload_n (pc := 22) 0 gg dX9_copyFrom_22 rfl rfl ?_
  refine z_get (pc := 23) 0 gg fl_X9_26 dX9_copyFrom_23 rfl rfl ?_
  refine z_aload_n (pc := 26) 1 gg dX9_copyFrom_26 rfl rfl ?_
  refine z_get (pc := 27) 19 gg fl_X9_26 dX9_copyFrom_27 rfl rfl ?_
  refine z_callVv (pc := 30) (wr := [cO 9 t0 [.ref t1, .ref t5, .ref t7, .ref t9, .ref t11, .ref t15, .int (zI g0), .int (zI g1), .int (zI g2), .int (zI g3)], cO 0 t1 [.int (zI (((A 0).toNat) : Int)), .ref t2, .ref t3, .ref t4], cI M t2 6 (lF 10 3 6 A), cI M t3 6 (lF 11 3 6 A), cZ M t4 6 (lF 12 3 6 A), cO 4 t5 [.int (zI (((A 1).toNat) : Int)), .ref t6], cI M t6 8 (lF 30 1 8 A), cO 6 t9 [.int (zI (y9 : Int)), .ref t10], cI M t10 4 x10, cO 2 t11 [.ref t12, .ref t13, .ref t14], cI M t12 32 x12, cZ M t13 8 x13, cZ M t14 8 x14, cO 8 t15 [.int (zI (y15 : Int)), .ref t16, .ref t17, .ref t18], cI M t16 6 x16, cI M t17 6 x17, cI M t18 6 x18, cO 9 s0 [.ref s1, .ref s5, .ref s7, .ref s9, .ref s11, .ref s15, .int (zI (A 5)), .int (zI (A 6)), .int (zI (A 7)), .int (zI (A 8))], cO 0 s1 [.int (zI (((A 0).toNat) : Int)), .ref s2, .ref s3, .ref s4], cI M s2 6 (lF 10 3 6 A), cI M s3 6 (lF 11 3 6 A), cZ M s4 6 (lF 12 3 6 A), cO 4 s5 [.int (zI (((A 1).toNat) : Int)), .ref s6], cI M s6 8 (lF 30 1 8 A), cO 6 s9 [.int (zI ((A 3).toNat : Int)), .ref s10], cI M s10 4 (lF 40 1 4 A), cO 2 s11 [.ref s12, .ref s13, .ref s14], cI M s12 32 (lD A), cZ M s13 8 (lF 254 6 8 A), cZ M s14 8 (lF 255 6 8 A), cO 8 s15 [.int (zI ((A 4).toNat : Int)), .ref s16, .ref s17, .ref s18], cI M s16 6 (lF 300 3 6 A), cI M s17 6 (lF 301 3 6 A), cI M s18 6 (lF 302 3 6 A)]) (As := [.ref s7]) (st := []) [7, 8, 26, 27] [0, 1, 2, 3, 4, 5, 6, 9, 10, 11, 12, 13, 14, 15, 16, 17, 18, 19, 20, 21, 22, 23, 24, 25, 28, 29, 30, 31, 32, 33, 34, 35, 36, 37] [0, 1, 2, 3, 4, 5, 6, 34, 35, 7, 8, 9, 10, 11, 12, 13, 14, 15, 16, 17, 18, 19, 20, 21, 22, 23, 36, 37, 24, 25, 26, 27, 28, 29, 30, 31, 32, 33] (fun u => [cO 9 t0 [.ref t1, .ref t5, .ref t7, .ref t9, .ref t11, .ref t15, .int (zI g0), .int (zI g1), .int (zI g2), .int (zI g3)], cO 0 t1 [.int (zI (((A 0).toNat) : Int)), .ref t2, .ref t3, .ref t4], cI M t2 6 (lF 10 3 6 A), cI M t3 6 (lF 11 3 6 A), cZ M t4 6 (lF 12 3 6 A), cO 4 t5 [.int (zI (((A 1).toNat) : Int)), .ref t6], cI M t6 8 (lF 30 1 8 A), cO 5 t7 [.int (zI (((A 2).toNat) : Int)), .ref t8], cI M t8 192 (lF 50 1 192 A), cO 6 t9 [.int (zI (y9 : Int)), .ref t10], cI M t10 4 x10, cO 2 t11 [.ref t12, .ref t13, .ref t14], cI M t12 32 x12, cZ M t13 8 x13, cZ M t14 8 x14, cO 8 t15 [.int (zI (y15 : Int)), .ref t16, .ref t17, .ref t18], cI M t16 6 x16, cI M t17 6 x17, cI M t18 6 x18, cO 9 s0 [.ref s1, .ref s5, .ref s7, .ref s9, .ref s11, .ref s15, .int (zI (A 5)), .int (zI (A 6)), .int (zI (A 7)), .int (zI (A 8))], cO 0 s1 [.int (zI (((A 0).toNat) : Int)), .ref s2, .ref s3, .ref s4], cI M s2 6 (lF 10 3 6 A), cI M s3 6 (lF 11 3 6 A), cZ M s4 6 (lF 12 3 6 A), cO 4 s5 [.int (zI (((A 1).toNat) : Int)), .ref s6], cI M s6 8 (lF 30 1 8 A), cO 5 s7 [.int (zI (((A 2).toNat) : Int)), .ref s8], cI M s8 192 (lF 50 1 192 A), cO 6 s9 [.int (zI ((A 3).toNat : Int)), .ref s10], cI M s10 4 (lF 40 1 4 A), cO 2 s11 [.ref s12, .ref s13, .ref s14], cI M s12 32 (lD A), cZ M s13 8 (lF 254 6 8 A), cZ M s14 8 (lF 255 6 8 A), cO 8 s15 [.int (zI ((A 4).toNat : Int)), .ref s16, .ref s17, .ref s18], cI M s16 6 (lF 300 3 6 A), cI M s17 6 (lF 301 3 6 A), cI M s18 6 (lF 302 3 6 A)]) gg (c_M_copyFrom M t7 t8 y7 x8 s7 s8 ((A 2).toNat) (lF 50 1 192 A) ) yv_5_copyFrom ml_X9_71 dX9_copyFrom_30 (by decide) (Nat.le_of_ble_eq_true rfl) (Nat.le_of_ble_eq_true rfl) (Nat.le_of_ble_eq_true rfl) rfl rfl rfl rfl (by decide) rfl (fun _ => rfl) rfl rfl rfl (fun u30 hz30 => ?_)
  refine z_aload_n (pc := 33) 0 gg dX9_copyFrom_33 rfl rfl ?_
  refine z_get (pc := 34) 0 gg fl_X9_33 dX9_copyFrom_34 rfl rfl ?_
  refine z_aload_n (pc := 37) 1 gg dX9_copyFrom_37 rfl rfl ?_
  refine z_get (pc := 38) 19 gg fl_X9_33 dX9_copyFrom_38 rfl rfl ?_
  refine z_callVv (pc := 41) (wr := [cO 9 t0 [.ref t1, .ref t5, .ref t7, .ref t9, .ref t11, .ref t15, .int (zI g0), .int (zI g1), .int (zI g2), .int (zI g3)], cO 0 t1 [.int (zI (((A 0).toNat) : Int)), .ref t2, .ref t3, .ref t4], cI M t2 6 (lF 10 3 6 A), cI M t3 6 (lF 11 3 6 A), cZ M t4 6 (lF 12 3 6 A), cO 4 t5 [.int (zI (((A 1).toNat) : Int)), .ref t6], cI M t6 8 (lF 30 1 8 A), cO 5 t7 [.int (zI (((A 2).toNat) : Int)), .ref t8], cI M t8 192 (lF 50 1 192 A), cO 2 t11 [.ref t12, .ref t13, .ref t14], cI M t12 32 x12, cZ M t13 8 x13, cZ M t14 8 x14, cO 8 t15 [.int (zI (y15 : Int)), .ref t16, .ref t17, .ref t18], cI M t16 6 x16, cI M t17 6 x17, cI M t18 6 x18, cO 9 s0 [.ref s1, .ref s5, .ref s7, .ref s9, .ref s11, .ref s15, .int (zI (A 5)), .int (zI (A 6)), .int (zI (A 7)), .int (zI (A 8))], cO 0 s1 [.int (zI (((A 0).toNat) : Int)), .ref s2, .ref s3, .ref s4], cI M s2 6 (lF 10 3 6 A), cI M s3 6 (lF 11 3 6 A), cZ M s4 6 (lF 12 3 6 A), cO 4 s5 [.int (zI (((A 1).toNat) : Int)), .ref s6], cI M s6 8 (lF 30 1 8 A), cO 5 s7 [.int (zI (((A 2).toNat) : Int)), .ref s8], cI M s8 192 (lF 50 1 192 A), cO 2 s11 [.ref s12, .ref s13, .ref s14], cI M s12 32 (lD A), cZ M s13 8 (lF 254 6 8 A), cZ M s14 8 (lF 255 6 8 A), cO 8 s15 [.int (zI ((A 4).toNat : Int)), .ref s16, .ref s17, .ref s18], cI M s16 6 (lF 300 3 6 A), cI M s17 6 (lF 301 3 6 A), cI M s18 6 (lF 302 3 6 A)]) (As := [.ref s9]) (st := []) [9, 10, 28, 29] [0, 1, 2, 3, 4, 5, 6, 7, 8, 11, 12, 13, 14, 15, 16, 17, 18, 19, 20, 21, 22, 23, 24, 25, 26, 27, 30, 31, 32, 33, 34, 35, 36, 37] [0, 1, 2, 3, 4, 5, 6, 7, 8, 34, 35, 9, 10, 11, 12, 13, 14, 15, 16, 17, 18, 19, 20, 21, 22, 23, 24, 25, 36, 37, 26, 27, 28, 29, 30, 31, 32, 33] (fun u => [cO 9 t0 [.ref t1, .ref t5, .ref t7, .ref t9, .ref t11, .ref t15, .int (zI g0), .int (zI g1), .int (zI g2), .int (zI g3)], cO 0 t1 [.int (zI (((A 0).toNat) : Int)), .ref t2, .ref t3, .ref t4], cI M t2 6 (lF 10 3 6 A), cI M t3 6 (lF 11 3 6 A), cZ M t4 6 (lF 12 3 6 A), cO 4 t5 [.int (zI (((A 1).toNat) : Int)), .ref t6], cI M t6 8 (lF 30 1 8 A), cO 5 t7 [.int (zI (((A 2).toNat) : Int)), .ref t8], cI M t8 192 (lF 50 1 192 A), cO 6 t9 [.int (zI (((A 3).toNat) : Int)), .ref t10], cI M t10 4 (lF 40 1 4 A), cO 2 t11 [.ref t12, .ref t13, .ref t14], cI M t12 32 x12, cZ M t13 8 x13, cZ M t14 8 x14, cO 8 t15 [.int (zI (y15 : Int)), .ref t16, .ref t17, .ref t18], cI M t16 6 x16, cI M t17 6 x17, cI M t18 6 x18, cO 9 s0 [.ref s1, .ref s5, .ref s7, .ref s9, .ref s11, .ref s15, .int (zI (A 5)), .int (zI (A 6)), .int (zI (A 7)), .int (zI (A 8))], cO 0 s1 [.int (zI (((A 0).toNat) : Int)), .ref s2, .ref s3, .ref s4], cI M s2 6 (lF 10 3 6 A), cI M s3 6 (lF 11 3 6 A), cZ M s4 6 (lF 12 3 6 A), cO 4 s5 [.int (zI (((A 1).toNat) : Int)), .ref s6], cI M s6 8 (lF 30 1 8 A), cO 5 s7 [.int (zI (((A 2).toNat) : Int)), .ref s8], cI M s8 192 (lF 50 1 192 A), cO 6 s9 [.int (zI (((A 3).toNat) : Int)), .ref s10], cI M s10 4 (lF 40 1 4 A), cO 2 s11 [.ref s12, .ref s13, .ref s14], cI M s12 32 (lD A), cZ M s13 8 (lF 254 6 8 A), cZ M s14 8 (lF 255 6 8 A), cO 8 s15 [.int (zI ((A 4).toNat : Int)), .ref s16, .ref s17, .ref s18], cI M s16 6 (lF 300 3 6 A), cI M s17 6 (lF 301 3 6 A), cI M s18 6 (lF 302 3 6 A)]) gg (c_P_copyFrom M t9 t10 y9 x10 s9 s10 ((A 3).toNat) (lF 40 1 4 A) ) yv_6_copyFrom ml_X9_74 dX9_copyFrom_41 (by decide) (Nat.le_of_ble_eq_true rfl) (Nat.le_of_ble_eq_true rfl) (Nat.le_of_ble_eq_true rfl) rfl rfl rfl rfl (by decide) rfl (fun _ => rfl) rfl rfl rfl (fun u41 hz41 => ?_)
  refine z_aload_n (pc := 44) 0 gg dX9_copyFrom_44 rfl rfl ?_
  refine z_get (pc := 45) 0 gg fl_X9_40 dX9_copyFrom_45 rfl rfl ?_
  refine z_aload_n (pc := 48) 1 gg dX9_copyFrom_48 rfl rfl ?_
  refine z_get (pc := 49) 19 gg fl_X9_40 dX9_copyFrom_49 rfl rfl ?_
  refine z_callVv (pc := 52) (wr := [cO 9 t0 [.ref t1, .ref t5, .ref t7, .ref t9, .ref t11, .ref t15, .int (zI g0), .int (zI g1), .int (zI g2), .int (zI g3)], cO 0 t1 [.int (zI (((A 0).toNat) : Int)), .ref t2, .ref t3, .ref t4], cI M t2 6 (lF 10 3 6 A), cI M t3 6 (lF 11 3 6 A), cZ M t4 6 (lF 12 3 6 A), cO 4 t5 [.int (zI (((A 1).toNat) : Int)), .ref t6], cI M t6 8 (lF 30 1 8 A), cO 5 t7 [.int (zI (((A 2).toNat) : Int)), .ref t8], cI M t8 192 (lF 50 1 192 A), cO 6 t9 [.int (zI (((A 3).toNat) : Int)), .ref t10], cI M t10 4 (lF 40 1 4 A), cO 8 t15 [.int (zI (y15 : Int)), .ref t16, .ref t17, .ref t18], cI M t16 6 x16, cI M t17 6 x17, cI M t18 6 x18, cO 9 s0 [.ref s1, .ref s5, .ref s7, .ref s9, .ref s11, .ref s15, .int (zI (A 5)), .int (zI (A 6)), .int (zI (A 7)), .int (zI (A 8))], cO 0 s1 [.int (zI (((A 0).toNat) : Int)), .ref s2, .ref s3, .ref s4], cI M s2 6 (lF 10 3 6 A), cI M s3 6 (lF 11 3 6 A), cZ M s4 6 (lF 12 3 6 A), cO 4 s5 [.int (zI (((A 1).toNat) : Int)), .ref s6], cI M s6 8 (lF 30 1 8 A), cO 5 s7 [.int (zI (((A 2).toNat) : Int)), .ref s8], cI M s8 192 (lF 50 1 192 A), cO 6 s9 [.int (zI (((A 3).toNat) : Int)), .ref s10], cI M s10 4 (lF 40 1 4 A), cO 8 s15 [.int (zI ((A 4).toNat : Int)), .ref s16, .ref s17, .ref s18], cI M s16 6 (lF 300 3 6 A), cI M s17 6 (lF 301 3 6 A), cI M s18 6 (lF 302 3 6 A)]) (As := [.ref s11]) (st := []) [11, 12, 13, 14, 30, 31, 32, 33] [0, 1, 2, 3, 4, 5, 6, 7, 8, 9, 10, 15, 16, 17, 18, 19, 20, 21, 22, 23, 24, 25, 26, 27, 28, 29, 34, 35, 36, 37] [0, 1, 2, 3, 4, 5, 6, 7, 8, 9, 10, 30, 31, 32, 33, 11, 12, 13, 14, 15, 16, 17, 18, 19, 20, 21, 22, 23, 24, 25, 34, 35, 36, 37, 26, 27, 28, 29] (fun u => [cO 9 t0 [.ref t1, .ref t5, .ref t7, .ref t9, .ref t11, .ref t15, .int (zI g0), .int (zI g1), .int (zI g2), .int (zI g3)], cO 0 t1 [.int (zI (((A 0).toNat) : Int)), .ref t2, .ref t3, .ref t4], cI M t2 6 (lF 10 3 6 A), cI M t3 6 (lF 11 3 6 A), cZ M t4 6 (lF 12 3 6 A), cO 4 t5 [.int (zI (((A 1).toNat) : Int)), .ref t6], cI M t6 8 (lF 30 1 8 A), cO 5 t7 [.int (zI (((A 2).toNat) : Int)), .ref t8], cI M t8 192 (lF 50 1 192 A), cO 6 t9 [.int (zI (((A 3).toNat) : Int)), .ref t10], cI M t10 4 (lF 40 1 4 A), cO 2 t11 [.ref t12, .ref t13, .ref t14], cI M t12 32 (lD A), cZ M t13 8 (lF 254 6 8 A), cZ M t14 8 (lF 255 6 8 A), cO 8 t15 [.int (zI (y15 : Int)), .ref t16, .ref t17, .ref t18], cI M t16 6 x16, cI M t17 6 x17, cI M t18 6 x18, cO 9 s0 [.ref s1, .ref s5, .ref s7, .ref s9, .ref s11, .ref s15, .int (zI (A 5)), .int (zI (A 6)), .int (zI (A 7)), .int (zI (A 8))], cO 0 s1 [.int (zI (((A 0).toNat) : Int)), .ref s2, .ref s3, .ref s4], cI M s2 6 (lF 10 3 6 A), cI M s3 6 (lF 11 3 6 A), cZ M s4 6 (lF 12 3 6 A), cO 4 s5 [.int (zI (((A 1).toNat) : Int)), .ref s6], cI M s6 8 (lF 30 1 8 A), cO 5 s7 [.int (zI (((A 2).toNat) : Int)), .ref s8], cI M s8 192 (lF 50 1 192 A), cO 6 s9 [.int (zI (((A 3).toNat) : Int)), .ref s10], cI M s10 4 (lF 40 1 4 A), cO 2 s11 [.ref s12, .ref s13, .ref s14], cI M s12 32 (lD A), cZ M s13 8 (lF 254 6 8 A), cZ M s14 8 (lF 255 6 8 A), cO 8 s15 [.int (zI ((A 4).toNat : Int)), .ref s16, .ref s17, .ref s18], cI M s16 6 (lF 300 3 6 A), cI M s17 6 (lF 301 3 6 A), cI M s18 6 (lF 302 3 6 A)]) gg (c_D_copyFrom M t11 t12 t13 t14 x12 x13 x14 s11 s12 s13 s14 (lD A) (lF 254 6 8 A) (lF 255 6 8 A) hf hw) yv_2_copyFrom ml_X9_77 dX9_copyFrom_52 (by decide) (Nat.le_of_ble_eq_true rfl) (Nat.le_of_ble_eq_true rfl) (Nat.le_of_ble_eq_true rfl) rfl rfl rfl rfl (by decide) rfl (fun _ => rfl) rfl rfl rfl (fun u52 hz52 => ?_)
  refine z_aload_n (pc := 55) 0 gg dX9_copyFrom_55 rfl rfl ?_
  refine z_get (pc := 56) 0 gg fl_X9_47 dX9_copyFrom_56 rfl rfl ?_
  refine z_aload_n (pc := 59) 1 gg dX9_copyFrom_59 rfl rfl ?_
  refine z_get (pc := 60) 19 gg fl_X9_47 dX9_copyFrom_60 rfl rfl ?_
  refine z_callVv (pc := 63) (wr := [cO 9 t0 [.ref t1, .ref t5, .ref t7, .ref t9, .ref t11, .ref t15, .int (zI g0), .int (zI g1), .int (zI g2), .int (zI g3)], cO 0 t1 [.int (zI (((A 0).toNat) : Int)), .ref t2, .ref t3, .ref t4], cI M t2 6 (lF 10 3 6 A), cI M t3 6 (lF 11 3 6 A), cZ M t4 6 (lF 12 3 6 A), cO 4 t5 [.int (zI (((A 1).toNat) : Int)), .ref t6], cI M t6 8 (lF 30 1 8 A), cO 5 t7 [.int (zI (((A 2).toNat) : Int)), .ref t8], cI M t8 192 (lF 50 1 192 A), cO 6 t9 [.int (zI (((A 3).toNat) : Int)), .ref t10], cI M t10 4 (lF 40 1 4 A), cO 2 t11 [.ref t12, .ref t13, .ref t14], cI M t12 32 (lD A), cZ M t13 8 (lF 254 6 8 A), cZ M t14 8 (lF 255 6 8 A), cO 9 s0 [.ref s1, .ref s5, .ref s7, .ref s9, .ref s11, .ref s15, .int (zI (A 5)), .int (zI (A 6)), .int (zI (A 7)), .int (zI (A 8))], cO 0 s1 [.int (zI (((A 0).toNat) : Int)), .ref s2, .ref s3, .ref s4], cI M s2 6 (lF 10 3 6 A), cI M s3 6 (lF 11 3 6 A), cZ M s4 6 (lF 12 3 6 A), cO 4 s5 [.int (zI (((A 1).toNat) : Int)), .ref s6], cI M s6 8 (lF 30 1 8 A), cO 5 s7 [.int (zI (((A 2).toNat) : Int)), .ref s8], cI M s8 192 (lF 50 1 192 A), cO 6 s9 [.int (zI (((A 3).toNat) : Int)), .ref s10], cI M s10 4 (lF 40 1 4 A), cO 2 s11 [.ref s12, .ref s13, .ref s14], cI M s12 32 (lD A), cZ M s13 8 (lF 254 6 8 A), cZ M s14 8 (lF 255 6 8 A)]) (As := [.ref s15]) (st := []) [15, 16, 17, 18, 34, 35, 36, 37] [0, 1, 2, 3, 4, 5, 6, 7, 8, 9, 10, 11, 12, 13, 14, 19, 20, 21, 22, 23, 24, 25, 26, 27, 28, 29, 30, 31, 32, 33] [0, 1, 2, 3, 4, 5, 6, 7, 8, 9, 10, 11, 12, 13, 14, 30, 31, 32, 33, 15, 16, 17, 18, 19, 20, 21, 22, 23, 24, 25, 26, 27, 28, 29, 34, 35, 36, 37] (fun u => [cO 9 t0 [.ref t1, .ref t5, .ref t7, .ref t9, .ref t11, .ref t15, .int (zI g0), .int (zI g1), .int (zI g2), .int (zI g3)], cO 0 t1 [.int (zI (((A 0).toNat) : Int)), .ref t2, .ref t3, .ref t4], cI M t2 6 (lF 10 3 6 A), cI M t3 6 (lF 11 3 6 A), cZ M t4 6 (lF 12 3 6 A), cO 4 t5 [.int (zI (((A 1).toNat) : Int)), .ref t6], cI M t6 8 (lF 30 1 8 A), cO 5 t7 [.int (zI (((A 2).toNat) : Int)), .ref t8], cI M t8 192 (lF 50 1 192 A), cO 6 t9 [.int (zI (((A 3).toNat) : Int)), .ref t10], cI M t10 4 (lF 40 1 4 A), cO 2 t11 [.ref t12, .ref t13, .ref t14], cI M t12 32 (lD A), cZ M t13 8 (lF 254 6 8 A), cZ M t14 8 (lF 255 6 8 A), cO 8 t15 [.int (zI (((A 4).toNat) : Int)), .ref t16, .ref t17, .ref t18], cI M t16 6 (lF 300 3 6 A), cI M t17 6 (lF 301 3 6 A), cI M t18 6 (lF 302 3 6 A), cO 9 s0 [.ref s1, .ref s5, .ref s7, .ref s9, .ref s11, .ref s15, .int (zI (A 5)), .int (zI (A 6)), .int (zI (A 7)), .int (zI (A 8))], cO 0 s1 [.int (zI (((A 0).toNat) : Int)), .ref s2, .ref s3, .ref s4], cI M s2 6 (lF 10 3 6 A), cI M s3 6 (lF 11 3 6 A), cZ M s4 6 (lF 12 3 6 A), cO 4 s5 [.int (zI (((A 1).toNat) : Int)), .ref s6], cI M s6 8 (lF 30 1 8 A), cO 5 s7 [.int (zI (((A 2).toNat) : Int)), .ref s8], cI M s8 192 (lF 50 1 192 A), cO 6 s9 [.int (zI (((A 3).toNat) : Int)), .ref s10], cI M s10 4 (lF 40 1 4 A), cO 2 s11 [.ref s12, .ref s13, .ref s14], cI M s12 32 (lD A), cZ M s13 8 (lF 254 6 8 A), cZ M s14 8 (lF 255 6 8 A), cO 8 s15 [.int (zI (((A 4).toNat) : Int)), .ref s16, .ref s17, .ref s18], cI M s16 6 (lF 300 3 6 A), cI M s17 6 (lF 301 3 6 A), cI M s18 6 (lF 302 3 6 A)]) gg (c_S_copyFrom M t15 t16 t17 t18 y15 x16 x17 x18 s15 s16 s17 s18 ((A 4).toNat) (lF 300 3 6 A) (lF 301 3 6 A) (lF 302 3 6 A) ) yv_8_copyFrom ml_X9_80 dX9_copyFrom_63 (by decide) (Nat.le_of_ble_eq_true rfl) (Nat.le_of_ble_eq_true rfl) (Nat.le_of_ble_eq_true rfl) rfl rfl rfl rfl (by decide) rfl (fun _ => rfl) rfl rfl rfl (fun u63 hz63 => ?_)
  refine z_aload_n (pc := 66) 0 gg dX9_copyFrom_66 rfl rfl ?_
  refine z_aload_n (pc := 67) 1 gg dX9_copyFrom_67 rfl rfl ?_
  refine z_get (pc := 68) 19 gg fl_X9_51 dX9_copyFrom_68 rfl rfl ?_
  refine z_put (pc := 71) 0 [cO 9 t0 [.ref t1, .ref t5, .ref t7, .ref t9, .ref t11, .ref t15, .int (zI (A 5)), .int (zI g1), .int (zI g2), .int (zI g3)], cO 0 t1 [.int (zI (((A 0).toNat) : Int)), .ref t2, .ref t3, .ref t4], cI M t2 6 (lF 10 3 6 A), cI M t3 6 (lF 11 3 6 A), cZ M t4 6 (lF 12 3 6 A), cO 4 t5 [.int (zI (((A 1).toNat) : Int)), .ref t6], cI M t6 8 (lF 30 1 8 A), cO 5 t7 [.int (zI (((A 2).toNat) : Int)), .ref t8], cI M t8 192 (lF 50 1 192 A), cO 6 t9 [.int (zI (((A 3).toNat) : Int)), .ref t10], cI M t10 4 (lF 40 1 4 A), cO 2 t11 [.ref t12, .ref t13, .ref t14], cI M t12 32 (lD A), cZ M t13 8 (lF 254 6 8 A), cZ M t14 8 (lF 255 6 8 A), cO 8 t15 [.int (zI (((A 4).toNat) : Int)), .ref t16, .ref t17, .ref t18], cI M t16 6 (lF 300 3 6 A), cI M t17 6 (lF 301 3 6 A), cI M t18 6 (lF 302 3 6 A), cO 9 s0 [.ref s1, .ref s5, .ref s7, .ref s9, .ref s11, .ref s15, .int (zI (A 5)), .int (zI (A 6)), .int (zI (A 7)), .int (zI (A 8))], cO 0 s1 [.int (zI (((A 0).toNat) : Int)), .ref s2, .ref s3, .ref s4], cI M s2 6 (lF 10 3 6 A), cI M s3 6 (lF 11 3 6 A), cZ M s4 6 (lF 12 3 6 A), cO 4 s5 [.int (zI (((A 1).toNat) : Int)), .ref s6], cI M s6 8 (lF 30 1 8 A), cO 5 s7 [.int (zI (((A 2).toNat) : Int)), .ref s8], cI M s8 192 (lF 50 1 192 A), cO 6 s9 [.int (zI (((A 3).toNat) : Int)), .ref s10], cI M s10 4 (lF 40 1 4 A), cO 2 s11 [.ref s12, .ref s13, .ref s14], cI M s12 32 (lD A), cZ M s13 8 (lF 254 6 8 A), cZ M s14 8 (lF 255 6 8 A), cO 8 s15 [.int (zI (((A 4).toNat) : Int)), .ref s16, .ref s17, .ref s18], cI M s16 6 (lF 300 3 6 A), cI M s17 6 (lF 301 3 6 A), cI M s18 6 (lF 302 3 6 A)] gg fp_X9_51 dX9_copyFrom_71 rfl rfl rfl (Nat.le_of_ble_eq_true rfl) rfl ?_
  refine z_aload_n (pc := 74) 0 gg dX9_copyFrom_74 rfl rfl ?_
  refine z_aload_n (pc := 75) 1 gg dX9_copyFrom_75 rfl rfl ?_
  refine z_get (pc := 76) 19 gg fl_X9_55 dX9_copyFrom_76 rfl rfl ?_
  refine z_put (pc := 79) 0 [cO 9 t0 [.ref t1, .ref t5, .ref t7, .ref t9, .ref t11, .ref t15, .int (zI (A 5)), .int (zI (A 6)), .int (zI g2), .int (zI g3)], cO 0 t1 [.int (zI (((A 0).toNat) : Int)), .ref t2, .ref t3, .ref t4], cI M t2 6 (lF 10 3 6 A), cI M t3 6 (lF 11 3 6 A), cZ M t4 6 (lF 12 3 6 A), cO 4 t5 [.int (zI (((A 1).toNat) : Int)), .ref t6], cI M t6 8 (lF 30 1 8 A), cO 5 t7 [.int (zI (((A 2).toNat) : Int)), .ref t8], cI M t8 192 (lF 50 1 192 A), cO 6 t9 [.int (zI (((A 3).toNat) : Int)), .ref t10], cI M t10 4 (lF 40 1 4 A), cO 2 t11 [.ref t12, .ref t13, .ref t14], cI M t12 32 (lD A), cZ M t13 8 (lF 254 6 8 A), cZ M t14 8 (lF 255 6 8 A), cO 8 t15 [.int (zI (((A 4).toNat) : Int)), .ref t16, .ref t17, .ref t18], cI M t16 6 (lF 300 3 6 A), cI M t17 6 (lF 301 3 6 A), cI M t18 6 (lF 302 3 6 A), cO 9 s0 [.ref s1, .ref s5, .ref s7, .ref s9, .ref s11, .ref s15, .int (zI (A 5)), .int (zI (A 6)), .int (zI (A 7)), .int (zI (A 8))], cO 0 s1 [.int (zI (((A 0).toNat) : Int)), .ref s2, .ref s3, .ref s4], cI M s2 6 (lF 10 3 6 A), cI M s3 6 (lF 11 3 6 A), cZ M s4 6 (lF 12 3 6 A), cO 4 s5 [.int (zI (((A 1).toNat) : Int)), .ref s6], cI M s6 8 (lF 30 1 8 A), cO 5 s7 [.int (zI (((A 2).toNat) : Int)), .ref s8], cI M s8 192 (lF 50 1 192 A), cO 6 s9 [.int (zI (((A 3).toNat) : Int)), .ref s10], cI M s10 4 (lF 40 1 4 A), cO 2 s11 [.ref s12, .ref s13, .ref s14], cI M s12 32 (lD A), cZ M s13 8 (lF 254 6 8 A), cZ M s14 8 (lF 255 6 8 A), cO 8 s15 [.int (zI (((A 4).toNat) : Int)), .ref s16, .ref s17, .ref s18], cI M s16 6 (lF 300 3 6 A), cI M s17 6 (lF 301 3 6 A), cI M s18 6 (lF 302 3 6 A)] gg fp_X9_55 dX9_copyFrom_79 rfl rfl rfl (Nat.le_of_ble_eq_true rfl) rfl ?_
  refine z_aload_n (pc := 82) 0 gg dX9_copyFrom_82 rfl rfl ?_
  refine z_aload_n (pc := 83) 1 gg dX9_copyFrom_83 rfl rfl ?_
  refine z_get (pc := 84) 19 gg fl_X9_58 dX9_copyFrom_84 rfl rfl ?_
  refine z_put (pc := 87) 0 [cO 9 t0 [.ref t1, .ref t5, .ref t7, .ref t9, .ref t11, .ref t15, .int (zI (A 5)), .int (zI (A 6)), .int (zI (A 7)), .int (zI g3)], cO 0 t1 [.int (zI (((A 0).toNat) : Int)), .ref t2, .ref t3, .ref t4], cI M t2 6 (lF 10 3 6 A), cI M t3 6 (lF 11 3 6 A), cZ M t4 6 (lF 12 3 6 A), cO 4 t5 [.int (zI (((A 1).toNat) : Int)), .ref t6], cI M t6 8 (lF 30 1 8 A), cO 5 t7 [.int (zI (((A 2).toNat) : Int)), .ref t8], cI M t8 192 (lF 50 1 192 A), cO 6 t9 [.int (zI (((A 3).toNat) : Int)), .ref t10], cI M t10 4 (lF 40 1 4 A), cO 2 t11 [.ref t12, .ref t13, .ref t14], cI M t12 32 (lD A), cZ M t13 8 (lF 254 6 8 A), cZ M t14 8 (lF 255 6 8 A), cO 8 t15 [.int (zI (((A 4).toNat) : Int)), .ref t16, .ref t17, .ref t18], cI M t16 6 (lF 300 3 6 A), cI M t17 6 (lF 301 3 6 A), cI M t18 6 (lF 302 3 6 A), cO 9 s0 [.ref s1, .ref s5, .ref s7, .ref s9, .ref s11, .ref s15, .int (zI (A 5)), .int (zI (A 6)), .int (zI (A 7)), .int (zI (A 8))], cO 0 s1 [.int (zI (((A 0).toNat) : Int)), .ref s2, .ref s3, .ref s4], cI M s2 6 (lF 10 3 6 A), cI M s3 6 (lF 11 3 6 A), cZ M s4 6 (lF 12 3 6 A), cO 4 s5 [.int (zI (((A 1).toNat) : Int)), .ref s6], cI M s6 8 (lF 30 1 8 A), cO 5 s7 [.int (zI (((A 2).toNat) : Int)), .ref s8], cI M s8 192 (lF 50 1 192 A), cO 6 s9 [.int (zI (((A 3).toNat) : Int)), .ref s10], cI M s10 4 (lF 40 1 4 A), cO 2 s11 [.ref s12, .ref s13, .ref s14], cI M s12 32 (lD A), cZ M s13 8 (lF 254 6 8 A), cZ M s14 8 (lF 255 6 8 A), cO 8 s15 [.int (zI (((A 4).toNat) : Int)), .ref s16, .ref s17, .ref s18], cI M s16 6 (lF 300 3 6 A), cI M s17 6 (lF 301 3 6 A), cI M s18 6 (lF 302 3 6 A)] gg fp_X9_58 dX9_copyFrom_87 rfl rfl rfl (Nat.le_of_ble_eq_true rfl) rfl ?_
  refine z_aload_n (pc := 90) 0 gg dX9_copyFrom_90 rfl rfl ?_
  refine z_aload_n (pc := 91) 1 gg dX9_copyFrom_91 rfl rfl ?_
  refine z_get (pc := 92) 19 gg fl_X9_61 dX9_copyFrom_92 rfl rfl ?_
  refine z_put (pc := 95) 0 [cO 9 t0 [.ref t1, .ref t5, .ref t7, .ref t9, .ref t11, .ref t15, .int (zI (A 5)), .int (zI (A 6)), .int (zI (A 7)), .int (zI (A 8))], cO 0 t1 [.int (zI (((A 0).toNat) : Int)), .ref t2, .ref t3, .ref t4], cI M t2 6 (lF 10 3 6 A), cI M t3 6 (lF 11 3 6 A), cZ M t4 6 (lF 12 3 6 A), cO 4 t5 [.int (zI (((A 1).toNat) : Int)), .ref t6], cI M t6 8 (lF 30 1 8 A), cO 5 t7 [.int (zI (((A 2).toNat) : Int)), .ref t8], cI M t8 192 (lF 50 1 192 A), cO 6 t9 [.int (zI (((A 3).toNat) : Int)), .ref t10], cI M t10 4 (lF 40 1 4 A), cO 2 t11 [.ref t12, .ref t13, .ref t14], cI M t12 32 (lD A), cZ M t13 8 (lF 254 6 8 A), cZ M t14 8 (lF 255 6 8 A), cO 8 t15 [.int (zI (((A 4).toNat) : Int)), .ref t16, .ref t17, .ref t18], cI M t16 6 (lF 300 3 6 A), cI M t17 6 (lF 301 3 6 A), cI M t18 6 (lF 302 3 6 A), cO 9 s0 [.ref s1, .ref s5, .ref s7, .ref s9, .ref s11, .ref s15, .int (zI (A 5)), .int (zI (A 6)), .int (zI (A 7)), .int (zI (A 8))], cO 0 s1 [.int (zI (((A 0).toNat) : Int)), .ref s2, .ref s3, .ref s4], cI M s2 6 (lF 10 3 6 A), cI M s3 6 (lF 11 3 6 A), cZ M s4 6 (lF 12 3 6 A), cO 4 s5 [.int (zI (((A 1).toNat) : Int)), .ref s6], cI M s6 8 (lF 30 1 8 A), cO 5 s7 [.int (zI (((A 2).toNat) : Int)), .ref s8], cI M s8 192 (lF 50 1 192 A), cO 6 s9 [.int (zI (((A 3).toNat) : Int)), .ref s10], cI M s10 4 (lF 40 1 4 A), cO 2 s11 [.ref s12, .ref s13, .ref s14], cI M s12 32 (lD A), cZ M s13 8 (lF 254 6 8 A), cZ M s14 8 (lF 255 6 8 A), cO 8 s15 [.int (zI (((A 4).toNat) : Int)), .ref s16, .ref s17, .ref s18], cI M s16 6 (lF 300 3 6 A), cI M s17 6 (lF 301 3 6 A), cI M s18 6 (lF 302 3 6 A)] gg fp_X9_61 dX9_copyFrom_95 rfl rfl rfl (Nat.le_of_ble_eq_true rfl) rfl ?_
  exact hret () 98 _ _ _ (Nat.le_of_ble_eq_true rfl) (Nat.le_of_ble_eq_true rfl) dX9_copyFrom_98 trivial
set_option maxHeartbeats 4000000 in
set_option maxRecDepth 100000 in
theorem c_T_init (M : KM) (h : Nat)  : kCV M yX9_init cX9_init 1 2 18 305 [cO 9 h [.null, .null, .null, .null, .null, .null, .int (zI 0), .int (zI 0), .int (zI 0), .int (zI 0)]] [.ref h] (fun u : Nat × Nat × Nat × Nat × Nat × Nat × Nat × Nat × Nat × Nat × Nat × Nat × Nat × Nat × Nat × Nat × Nat × Nat => True) (fun u => [cO 9 h [.ref u.1, .ref u.2.2.2.2.1, .ref u.2.2.2.2.2.2.1, .ref u.2.2.2.2.2.2.2.2.1, .ref u.2.2.2.2.2.2.2.2.2.2.1, .ref u.2.2.2.2.2.2.2.2.2.2.2.2.2.2.1, .int (zI 10), .int (zI 50), .int (zI 200), .int (zI 1)], cO 0 u.1 [.int (zI 0), .ref u.2.1, .ref u.2.2.1, .ref u.2.2.2.1], cI M u.2.1 6 (fun _ => 0), cI M u.2.2.1 6 (fun _ => 0), cZ M u.2.2.2.1 6 (fun _ => 0), cO 4 u.2.2.2.2.1 [.int (zI 0), .ref u.2.2.2.2.2.1], cI M u.2.2.2.2.2.1 8 (fun _ => 0), cO 5 u.2.2.2.2.2.2.1 [.int (zI 0), .ref u.2.2.2.2.2.2.2.1], cI M u.2.2.2.2.2.2.2.1 192 (fun _ => 0), cO 6 u.2.2.2.2.2.2.2.2.1 [.int (zI 0), .ref u.2.2.2.2.2.2.2.2.2.1], cI M u.2.2.2.2.2.2.2.2.2.1 4 (fun _ => 0), cO 2 u.2.2.2.2.2.2.2.2.2.2.1 [.ref u.2.2.2.2.2.2.2.2.2.2.2.1, .ref u.2.2.2.2.2.2.2.2.2.2.2.2.1, .ref u.2.2.2.2.2.2.2.2.2.2.2.2.2.1], cI M u.2.2.2.2.2.2.2.2.2.2.2.1 32 (fun j => ((j / 4 : Nat) : Int)), cZ M u.2.2.2.2.2.2.2.2.2.2.2.2.1 8 (fun _ => 0), cZ M u.2.2.2.2.2.2.2.2.2.2.2.2.2.1 8 (fun _ => 0), cO 8 u.2.2.2.2.2.2.2.2.2.2.2.2.2.2.1 [.int (zI 0), .ref u.2.2.2.2.2.2.2.2.2.2.2.2.2.2.2.1, .ref u.2.2.2.2.2.2.2.2.2.2.2.2.2.2.2.2.1, .ref u.2.2.2.2.2.2.2.2.2.2.2.2.2.2.2.2.2], cI M u.2.2.2.2.2.2.2.2.2.2.2.2.2.2.2.1 6 (fun _ => 0), cI M u.2.2.2.2.2.2.2.2.2.2.2.2.2.2.2.2.1 6 (fun _ => 0), cI M u.2.2.2.2.2.2.2.2.2.2.2.2.2.2.2.2.2 6 (fun _ => 0)]) := by
  refine kCV.of [(0, .ref h)] (by decide) (Nat.le_of_ble_eq_true rfl) rfl (fun E gg gn hret => ?_)
  refine z_aload_n (pc := 0) 0 gg dX9_init_0 rfl rfl ?_
  refine z_obj (pc := 1) gg dX9_init_1 ml_X9_1 oi_1 oi_2 (by decide) (Nat.le_of_ble_eq_true rfl) ?_
  refine z_aload_n (pc := 4) 0 gg dX9_init_4 rfl rfl ?_
  refine z_new (pc := 5) gg nw_X9_7 dX9_init_5 (Nat.le_of_ble_eq_true rfl) (Nat.le_of_ble_eq_true rfl) (fun q1 => ?_)
  show kV M E 1 _ _ [cO 9 h [.null, .null, .null, .null, .null, .null, .int (zI 0), .int (zI 0), .int (zI 0), .int (zI 0)], cO 0 q1 [.int (zI 0), .null, .null, .null]] _ _ _
  refine z_dup (pc := 8) gg dX9_init_8 rfl ?_
  refine z_callIN (pc := 9) (wr := [cO 9 h [.null, .null, .null, .null, .null, .null, .int (zI 0), .int (zI 0), .int (zI 0), .int (zI 0)]]) [1] [0] [0, 1, 2, 3, 4] (fun u => [cO 9 h [.null, .null, .null, .null, .null, .null, .int (zI 0), .int (zI 0), .int (zI 0), .int (zI 0)], cO 0 q1 [.int (zI 0), .ref u.1, .ref u.2.1, .ref u.2.2], cI M u.1 6 (fun _ => 0), cI M u.2.1 6 (fun _ => 0), cZ M u.2.2 6 (fun _ => 0)]) gg (c_B_init M q1 ) yi_0 (fun U hU => hU.2.1) dX9_init_9 (by decide) (Nat.le_of_ble_eq_true rfl) (Nat.le_of_ble_eq_true rfl) (Nat.le_of_ble_eq_true rfl) rfl rfl rfl rfl (by decide) (fun _ => rfl) rfl (fun u9 hz9 => ?_)
  refine z_putF (pc := 12) 0 [cO 9 h [.ref q1, .null, .null, .null, .null, .null, .int (zI 0), .int (zI 0), .int (zI 0), .int (zI 0)], cO 0 q1 [.int (zI 0), .ref u9.1, .ref u9.2.1, .ref u9.2.2], cI M u9.1 6 (fun _ => 0), cI M u9.2.1 6 (fun _ => 0), cZ M u9.2.2 6 (fun _ => 0)] gg gn fp_X9_10 dX9_init_12 rfl rfl rfl (Nat.le_of_ble_eq_true rfl) rfl ?_
  refine z_aload_n (pc := 15) 0 gg dX9_init_15 rfl rfl ?_
  refine z_new (pc := 16) gg nw_X9_16 dX9_init_16 (Nat.le_of_ble_eq_true rfl) (Nat.le_of_ble_eq_true rfl) (fun q2 => ?_)
  show kV M E 1 _ _ [cO 9 h [.ref q1, .null, .null, .null, .null, .null, .int (zI 0), .int (zI 0), .int (zI 0), .int (zI 0)], cO 0 q1 [.int (zI 0), .ref u9.1, .ref u9.2.1, .ref u9.2.2], cI M u9.1 6 (fun _ => 0), cI M u9.2.1 6 (fun _ => 0), cZ M u9.2.2 6 (fun _ => 0), cO 4 q2 [.int (zI 0), .null]] _ _ _
  refine z_dup (pc := 19) gg dX9_init_19 rfl ?_
  refine z_callIN (pc := 20) (wr := [cO 9 h [.ref q1, .null, .null, .null, .null, .null, .int (zI 0), .int (zI 0), .int (zI 0), .int (zI 0)], cO 0 q1 [.int (zI 0), .ref u9.1, .ref u9.2.1, .ref u9.2.2], cI M u9.1 6 (fun _ => 0), cI M u9.2.1 6 (fun _ => 0), cZ M u9.2.2 6 (fun _ => 0)]) [5] [0, 1, 2, 3, 4] [0, 1, 2, 3, 4, 5, 6] (fun u => [cO 9 h [.ref q1, .null, .null, .null, .null, .null, .int (zI 0), .int (zI 0), .int (zI 0), .int (zI 0)], cO 0 q1 [.int (zI 0), .ref u9.1, .ref u9.2.1, .ref u9.2.2], cI M u9.1 6 (fun _ => 0), cI M u9.2.1 6 (fun _ => 0), cZ M u9.2.2 6 (fun _ => 0), cO 4 q2 [.int (zI 0), .ref u], cI M u 8 (fun _ => 0)]) gg (c_L_init M q2 ) yi_4 (fun U hU => hU.2.2.1) dX9_init_20 (by decide) (Nat.le_of_ble_eq_true rfl) (Nat.le_of_ble_eq_true rfl) (Nat.le_of_ble_eq_true rfl) rfl rfl rfl rfl (by decide) (fun _ => rfl) rfl (fun u20 hz20 => ?_)
  refine z_putF (pc := 23) 0 [cO 9 h [.ref q1, .ref q2, .null, .null, .null, .null, .int (zI 0), .int (zI 0), .int (zI 0), .int (zI 0)], cO 0 q1 [.int (zI 0), .ref u9.1, .ref u9.2.1, .ref u9.2.2], cI M u9.1 6 (fun _ => 0), cI M u9.2.1 6 (fun _ => 0), cZ M u9.2.2 6 (fun _ => 0), cO 4 q2 [.int (zI 0), .ref u20], cI M u20 8 (fun _ => 0)] gg gn fp_X9_19 dX9_init_23 rfl rfl rfl (Nat.le_of_ble_eq_true rfl) rfl ?_
  refine z_aload_n (pc := 26) 0 gg dX9_init_26 rfl rfl ?_
  refine z_new (pc := 27) gg nw_X9_23 dX9_init_27 (Nat.le_of_ble_eq_true rfl) (Nat.le_of_ble_eq_true rfl) (fun q3 => ?_)
  show kV M E 1 _ _ [cO 9 h [.ref q1, .ref q2, .null, .null, .null, .null, .int (zI 0), .int (zI 0), .int (zI 0), .int (zI 0)], cO 0 q1 [.int (zI 0), .ref u9.1, .ref u9.2.1, .ref u9.2.2], cI M u9.1 6 (fun _ => 0), cI M u9.2.1 6 (fun _ => 0), cZ M u9.2.2 6 (fun _ => 0), cO 4 q2 [.int (zI 0), .ref u20], cI M u20 8 (fun _ => 0), cO 5 q3 [.int (zI 0), .null]] _ _ _
  refine z_dup (pc := 30) gg dX9_init_30 rfl ?_
  refine z_callIN (pc := 31) (wr := [cO 9 h [.ref q1, .ref q2, .null, .null, .null, .null, .int (zI 0), .int (zI 0), .int (zI 0), .int (zI 0)], cO 0 q1 [.int (zI 0), .ref u9.1, .ref u9.2.1, .ref u9.2.2], cI M u9.1 6 (fun _ => 0), cI M u9.2.1 6 (fun _ => 0), cZ M u9.2.2 6 (fun _ => 0), cO 4 q2 [.int (zI 0), .ref u20], cI M u20 8 (fun _ => 0)]) [7] [0, 1, 2, 3, 4, 5, 6] [0, 1, 2, 3, 4, 5, 6, 7, 8] (fun u => [cO 9 h [.ref q1, .ref q2, .null, .null, .null, .null, .int (zI 0), .int (zI 0), .int (zI 0), .int (zI 0)], cO 0 q1 [.int (zI 0), .ref u9.1, .ref u9.2.1, .ref u9.2.2], cI M u9.1 6 (fun _ => 0), cI M u9.2.1 6 (fun _ => 0), cZ M u9.2.2 6 (fun _ => 0), cO 4 q2 [.int (zI 0), .ref u20], cI M u20 8 (fun _ => 0), cO 5 q3 [.int (zI 0), .ref u], cI M u 192 (fun _ => 0)]) gg (c_M_init M q3 ) yi_5 (fun U hU => hU.2.2.2.1) dX9_init_31 (by decide) (Nat.le_of_ble_eq_true rfl) (Nat.le_of_ble_eq_true rfl) (Nat.le_of_ble_eq_true rfl) rfl rfl rfl rfl (by decide) (fun _ => rfl) rfl (fun u31 hz31 => ?_)
  refine z_putF (pc := 34) 0 [cO 9 h [.ref q1, .ref q2, .ref q3, .null, .null, .null, .int (zI 0), .int (zI 0), .int (zI 0), .int (zI 0)], cO 0 q1 [.int (zI 0), .ref u9.1, .ref u9.2.1, .ref u9.2.2], cI M u9.1 6 (fun _ => 0), cI M u9.2.1 6 (fun _ => 0), cZ M u9.2.2 6 (fun _ => 0), cO 4 q2 [.int (zI 0), .ref u20], cI M u20 8 (fun _ => 0), cO 5 q3 [.int (zI 0), .ref u31], cI M u31 192 (fun _ => 0)] gg gn fp_X9_26 dX9_init_34 rfl rfl rfl (Nat.le_of_ble_eq_true rfl) rfl ?_
  refine z_aload_n (pc := 37) 0 gg dX9_init_37 rfl rfl ?_
  refine z_new (pc := 38) gg nw_X9_30 dX9_init_38 (Nat.le_of_ble_eq_true rfl) (Nat.le_of_ble_eq_true rfl) (fun q4 => ?_)
  show kV M E 1 _ _ [cO 9 h [.ref q1, .ref q2, .ref q3, .null, .null, .null, .int (zI 0), .int (zI 0), .int (zI 0), .int (zI 0)], cO 0 q1 [.int (zI 0), .ref u9.1, .ref u9.2.1, .ref u9.2.2], cI M u9.1 6 (fun _ => 0), cI M u9.2.1 6 (fun _ => 0), cZ M u9.2.2 6 (fun _ => 0), cO 4 q2 [.int (zI 0), .ref u20], cI M u20 8 (fun _ => 0), cO 5 q3 [.int (zI 0), .ref u31], cI M u31 192 (fun _ => 0), cO 6 q4 [.int (zI 0), .null]] _ _ _
  refine z_dup (pc := 41) gg dX9_init_41 rfl ?_
  refine z_callIN (pc := 42) (wr := [cO 9 h [.ref q1, .ref q2, .ref q3, .null, .null, .null, .int (zI 0), .int (zI 0), .int (zI 0), .int (zI 0)], cO 0 q1 [.int (zI 0), .ref u9.1, .ref u9.2.1, .ref u9.2.2], cI M u9.1 6 (fun _ => 0), cI M u9.2.1 6 (fun _ => 0), cZ M u9.2.2 6 (fun _ => 0), cO 4 q2 [.int (zI 0), .ref u20], cI M u20 8 (fun _ => 0), cO 5 q3 [.int (zI 0), .ref u31], cI M u31 192 (fun _ => 0)]) [9] [0, 1, 2, 3, 4, 5, 6, 7, 8] [0, 1, 2, 3, 4, 5, 6, 7, 8, 9, 10] (fun u => [cO 9 h [.ref q1, .ref q2, .ref q3, .null, .null, .null, .int (zI 0), .int (zI 0), .int (zI 0), .int (zI 0)], cO 0 q1 [.int (zI 0), .ref u9.1, .ref u9.2.1, .ref u9.2.2], cI M u9.1 6 (fun _ => 0), cI M u9.2.1 6 (fun _ => 0), cZ M u9.2.2 6 (fun _ => 0), cO 4 q2 [.int (zI 0), .ref u20], cI M u20 8 (fun _ => 0), cO 5 q3 [.int (zI 0), .ref u31], cI M u31 192 (fun _ => 0), cO 6 q4 [.int (zI 0), .ref u], cI M u 4 (fun _ => 0)]) gg (c_P_init M q4 ) yi_6 (fun U hU => hU.2.2.2.2.1) dX9_init_42 (by decide) (Nat.le_of_ble_eq_true rfl) (Nat.le_of_ble_eq_true rfl) (Nat.le_of_ble_eq_true rfl) rfl rfl rfl rfl (by decide) (fun _ => rfl) rfl (fun u42 hz42 => ?_)
  refine z_putF (pc := 45) 0 [cO 9 h [.ref q1, .ref q2, .ref q3, .ref q4, .null, .null, .int (zI 0), .int (zI 0), .int (zI 0), .int (zI 0)], cO 0 q1 [.int (zI 0), .ref u9.1, .ref u9.2.1, .ref u9.2.2], cI M u9.1 6 (fun _ => 0), cI M u9.2.1 6 (fun _ => 0), cZ M u9.2.2 6 (fun _ => 0), cO 4 q2 [.int (zI 0), .ref u20], cI M u20 8 (fun _ => 0), cO 5 q3 [.int (zI 0), .ref u31], cI M u31 192 (fun _ => 0), cO 6 q4 [.int (zI 0), .ref u42], cI M u42 4 (fun _ => 0)] gg gn fp_X9_33 dX9_init_45 rfl rfl rfl (Nat.le_of_ble_eq_true rfl) rfl ?_
  refine z_aload_n (pc := 48) 0 gg dX9_init_48 rfl rfl ?_
  refine z_new (pc := 49) gg nw_X9_37 dX9_init_49 (Nat.le_of_ble_eq_true rfl) (Nat.le_of_ble_eq_true rfl) (fun q5 => ?_)
  show kV M E 1 _ _ [cO 9 h [.ref q1, .ref q2, .ref q3, .ref q4, .null, .null, .int (zI 0), .int (zI 0), .int (zI 0), .int (zI 0)], cO 0 q1 [.int (zI 0), .ref u9.1, .ref u9.2.1, .ref u9.2.2], cI M u9.1 6 (fun _ => 0), cI M u9.2.1 6 (fun _ => 0), cZ M u9.2.2 6 (fun _ => 0), cO 4 q2 [.int (zI 0), .ref u20], cI M u20 8 (fun _ => 0), cO 5 q3 [.int (zI 0), .ref u31], cI M u31 192 (fun _ => 0), cO 6 q4 [.int (zI 0), .ref u42], cI M u42 4 (fun _ => 0), cO 2 q5 [.null, .null, .null]] _ _ _
  refine z_dup (pc := 52) gg dX9_init_52 rfl ?_
  refine z_callI (pc := 53) (wr := [cO 9 h [.ref q1, .ref q2, .ref q3, .ref q4, .null, .null, .int (zI 0), .int (zI 0), .int (zI 0), .int (zI 0)], cO 0 q1 [.int (zI 0), .ref u9.1, .ref u9.2.1, .ref u9.2.2], cI M u9.1 6 (fun _ => 0), cI M u9.2.1 6 (fun _ => 0), cZ M u9.2.2 6 (fun _ => 0), cO 4 q2 [.int (zI 0), .ref u20], cI M u20 8 (fun _ => 0), cO 5 q3 [.int (zI 0), .ref u31], cI M u31 192 (fun _ => 0), cO 6 q4 [.int (zI 0), .ref u42], cI M u42 4 (fun _ => 0)]) [11] [0, 1, 2, 3, 4, 5, 6, 7, 8, 9, 10] [0, 1, 2, 3, 4, 5, 6, 7, 8, 9, 10, 11, 12, 13, 14] (fun u => [cO 9 h [.ref q1, .ref q2, .ref q3, .ref q4, .null, .null, .int (zI 0), .int (zI 0), .int (zI 0), .int (zI 0)], cO 0 q1 [.int (zI 0), .ref u9.1, .ref u9.2.1, .ref u9.2.2], cI M u9.1 6 (fun _ => 0), cI M u9.2.1 6 (fun _ => 0), cZ M u9.2.2 6 (fun _ => 0), cO 4 q2 [.int (zI 0), .ref u20], cI M u20 8 (fun _ => 0), cO 5 q3 [.int (zI 0), .ref u31], cI M u31 192 (fun _ => 0), cO 6 q4 [.int (zI 0), .ref u42], cI M u42 4 (fun _ => 0), cO 2 q5 [.ref u.1, .ref u.2.1, .ref u.2.2], cI M u.1 32 (fun j => ((j / 4 : Nat) : Int)), cZ M u.2.1 8 (fun _ => 0), cZ M u.2.2 8 (fun _ => 0)]) gg (c_D_init M q5 ) yi_2 ml_X9_39 dX9_init_53 (by decide) (Nat.le_of_ble_eq_true rfl) (Nat.le_of_ble_eq_true rfl) (Nat.le_of_ble_eq_true rfl) rfl rfl rfl rfl (by decide) (fun _ => rfl) rfl (fun u53 hz53 => ?_)
  refine z_putF (pc := 56) 0 [cO 9 h [.ref q1, .ref q2, .ref q3, .ref q4, .ref q5, .null, .int (zI 0), .int (zI 0), .int (zI 0), .int (zI 0)], cO 0 q1 [.int (zI 0), .ref u9.1, .ref u9.2.1, .ref u9.2.2], cI M u9.1 6 (fun _ => 0), cI M u9.2.1 6 (fun _ => 0), cZ M u9.2.2 6 (fun _ => 0), cO 4 q2 [.int (zI 0), .ref u20], cI M u20 8 (fun _ => 0), cO 5 q3 [.int (zI 0), .ref u31], cI M u31 192 (fun _ => 0), cO 6 q4 [.int (zI 0), .ref u42], cI M u42 4 (fun _ => 0), cO 2 q5 [.ref u53.1, .ref u53.2.1, .ref u53.2.2], cI M u53.1 32 (fun j => ((j / 4 : Nat) : Int)), cZ M u53.2.1 8 (fun _ => 0), cZ M u53.2.2 8 (fun _ => 0)] gg gn fp_X9_40 dX9_init_56 rfl rfl rfl (Nat.le_of_ble_eq_true rfl) rfl ?_
  refine z_aload_n (pc := 59) 0 gg dX9_init_59 rfl rfl ?_
  refine z_new (pc := 60) gg nw_X9_44 dX9_init_60 (Nat.le_of_ble_eq_true rfl) (Nat.le_of_ble_eq_true rfl) (fun q6 => ?_)
  show kV M E 1 _ _ [cO 9 h [.ref q1, .ref q2, .ref q3, .ref q4, .ref q5, .null, .int (zI 0), .int (zI 0), .int (zI 0), .int (zI 0)], cO 0 q1 [.int (zI 0), .ref u9.1, .ref u9.2.1, .ref u9.2.2], cI M u9.1 6 (fun _ => 0), cI M u9.2.1 6 (fun _ => 0), cZ M u9.2.2 6 (fun _ => 0), cO 4 q2 [.int (zI 0), .ref u20], cI M u20 8 (fun _ => 0), cO 5 q3 [.int (zI 0), .ref u31], cI M u31 192 (fun _ => 0), cO 6 q4 [.int (zI 0), .ref u42], cI M u42 4 (fun _ => 0), cO 2 q5 [.ref u53.1, .ref u53.2.1, .ref u53.2.2], cI M u53.1 32 (fun j => ((j / 4 : Nat) : Int)), cZ M u53.2.1 8 (fun _ => 0), cZ M u53.2.2 8 (fun _ => 0), cO 8 q6 [.int (zI 0), .null, .null, .null]] _ _ _
  refine z_dup (pc := 63) gg dX9_init_63 rfl ?_
  refine z_callIN (pc := 64) (wr := [cO 9 h [.ref q1, .ref q2, .ref q3, .ref q4, .ref q5, .null, .int (zI 0), .int (zI 0), .int (zI 0), .int (zI 0)], cO 0 q1 [.int (zI 0), .ref u9.1, .ref u9.2.1, .ref u9.2.2], cI M u9.1 6 (fun _ => 0), cI M u9.2.1 6 (fun _ => 0), cZ M u9.2.2 6 (fun _ => 0), cO 4 q2 [.int (zI 0), .ref u20], cI M u20 8 (fun _ => 0), cO 5 q3 [.int (zI 0), .ref u31], cI M u31 192 (fun _ => 0), cO 6 q4 [.int (zI 0), .ref u42], cI M u42 4 (fun _ => 0), cO 2 q5 [.ref u53.1, .ref u53.2.1, .ref u53.2.2], cI M u53.1 32 (fun j => ((j / 4 : Nat) : Int)), cZ M u53.2.1 8 (fun _ => 0), cZ M u53.2.2 8 (fun _ => 0)]) [15] [0, 1, 2, 3, 4, 5, 6, 7, 8, 9, 10, 11, 12, 13, 14] [0, 1, 2, 3, 4, 5, 6, 7, 8, 9, 10, 11, 12, 13, 14, 15, 16, 17, 18] (fun u => [cO 9 h [.ref q1, .ref q2, .ref q3, .ref q4, .ref q5, .null, .int (zI 0), .int (zI 0), .int (zI 0), .int (zI 0)], cO 0 q1 [.int (zI 0), .ref u9.1, .ref u9.2.1, .ref u9.2.2], cI M u9.1 6 (fun _ => 0), cI M u9.2.1 6 (fun _ => 0), cZ M u9.2.2 6 (fun _ => 0), cO 4 q2 [.int (zI 0), .ref u20], cI M u20 8 (fun _ => 0), cO 5 q3 [.int (zI 0), .ref u31], cI M u31 192 (fun _ => 0), cO 6 q4 [.int (zI 0), .ref u42], cI M u42 4 (fun _ => 0), cO 2 q5 [.ref u53.1, .ref u53.2.1, .ref u53.2.2], cI M u53.1 32 (fun j => ((j / 4 : Nat) : Int)), cZ M u53.2.1 8 (fun _ => 0), cZ M u53.2.2 8 (fun _ => 0), cO 8 q6 [.int (zI 0), .ref u.1, .ref u.2.1, .ref u.2.2], cI M u.1 6 (fun _ => 0), cI M u.2.1 6 (fun _ => 0), cI M u.2.2 6 (fun _ => 0)]) gg (c_S_init M q6 ) yi_8 (fun U hU => hU.2.2.2.2.2.1) dX9_init_64 (by decide) (Nat.le_of_ble_eq_true rfl) (Nat.le_of_ble_eq_true rfl) (Nat.le_of_ble_eq_true rfl) rfl rfl rfl rfl (by decide) (fun _ => rfl) rfl (fun u64 hz64 => ?_)
  refine z_putF (pc := 67) 0 [cO 9 h [.ref q1, .ref q2, .ref q3, .ref q4, .ref q5, .ref q6, .int (zI 0), .int (zI 0), .int (zI 0), .int (zI 0)], cO 0 q1 [.int (zI 0), .ref u9.1, .ref u9.2.1, .ref u9.2.2], cI M u9.1 6 (fun _ => 0), cI M u9.2.1 6 (fun _ => 0), cZ M u9.2.2 6 (fun _ => 0), cO 4 q2 [.int (zI 0), .ref u20], cI M u20 8 (fun _ => 0), cO 5 q3 [.int (zI 0), .ref u31], cI M u31 192 (fun _ => 0), cO 6 q4 [.int (zI 0), .ref u42], cI M u42 4 (fun _ => 0), cO 2 q5 [.ref u53.1, .ref u53.2.1, .ref u53.2.2], cI M u53.1 32 (fun j => ((j / 4 : Nat) : Int)), cZ M u53.2.1 8 (fun _ => 0), cZ M u53.2.2 8 (fun _ => 0), cO 8 q6 [.int (zI 0), .ref u64.1, .ref u64.2.1, .ref u64.2.2], cI M u64.1 6 (fun _ => 0), cI M u64.2.1 6 (fun _ => 0), cI M u64.2.2 6 (fun _ => 0)] gg gn fp_X9_47 dX9_init_67 rfl rfl rfl (Nat.le_of_ble_eq_true rfl) rfl ?_
  refine z_aload_n (pc := 70) 0 gg dX9_init_70 rfl rfl ?_
  refine z_bipush (pc := 71) gg dX9_init_71 (by decide +kernel) ?_
  refine z_put (pc := 73) 0 [cO 9 h [.ref q1, .ref q2, .ref q3, .ref q4, .ref q5, .ref q6, .int (zI 10), .int (zI 0), .int (zI 0), .int (zI 0)], cO 0 q1 [.int (zI 0), .ref u9.1, .ref u9.2.1, .ref u9.2.2], cI M u9.1 6 (fun _ => 0), cI M u9.2.1 6 (fun _ => 0), cZ M u9.2.2 6 (fun _ => 0), cO 4 q2 [.int (zI 0), .ref u20], cI M u20 8 (fun _ => 0), cO 5 q3 [.int (zI 0), .ref u31], cI M u31 192 (fun _ => 0), cO 6 q4 [.int (zI 0), .ref u42], cI M u42 4 (fun _ => 0), cO 2 q5 [.ref u53.1, .ref u53.2.1, .ref u53.2.2], cI M u53.1 32 (fun j => ((j / 4 : Nat) : Int)), cZ M u53.2.1 8 (fun _ => 0), cZ M u53.2.2 8 (fun _ => 0), cO 8 q6 [.int (zI 0), .ref u64.1, .ref u64.2.1, .ref u64.2.2], cI M u64.1 6 (fun _ => 0), cI M u64.2.1 6 (fun _ => 0), cI M u64.2.2 6 (fun _ => 0)] gg fp_X9_51 dX9_init_73 rfl rfl rfl (Nat.le_of_ble_eq_true rfl) rfl ?_
  refine z_aload_n (pc := 76) 0 gg dX9_init_76 rfl rfl ?_
  refine z_bipush (pc := 77) gg dX9_init_77 (by decide +kernel) ?_
  refine z_put (pc := 79) 0 [cO 9 h [.ref q1, .ref q2, .ref q3, .ref q4, .ref q5, .ref q6, .int (zI 10), .int (zI 50), .int (zI 0), .int (zI 0)], cO 0 q1 [.int (zI 0), .ref u9.1, .ref u9.2.1, .ref u9.2.2], cI M u9.1 6 (fun _ => 0), cI M u9.2.1 6 (fun _ => 0), cZ M u9.2.2 6 (fun _ => 0), cO 4 q2 [.int (zI 0), .ref u20], cI M u20 8 (fun _ => 0), cO 5 q3 [.int (zI 0), .ref u31], cI M u31 192 (fun _ => 0), cO 6 q4 [.int (zI 0), .ref u42], cI M u42 4 (fun _ => 0), cO 2 q5 [.ref u53.1, .ref u53.2.1, .ref u53.2.2], cI M u53.1 32 (fun j => ((j / 4 : Nat) : Int)), cZ M u53.2.1 8 (fun _ => 0), cZ M u53.2.2 8 (fun _ => 0), cO 8 q6 [.int (zI 0), .ref u64.1, .ref u64.2.1, .ref u64.2.2], cI M u64.1 6 (fun _ => 0), cI M u64.2.1 6 (fun _ => 0), cI M u64.2.2 6 (fun _ => 0)] gg fp_X9_55 dX9_init_79 rfl rfl rfl (Nat.le_of_ble_eq_true rfl) rfl ?_
  refine z_aload_n (pc := 82) 0 gg dX9_init_82 rfl rfl ?_
  refine z_sipush (pc := 83) gg dX9_init_83 (by decide +kernel) ?_
  refine z_put (pc := 86) 0 [cO 9 h [.ref q1, .ref q2, .ref q3, .ref q4, .ref q5, .ref q6, .int (zI 10), .int (zI 50), .int (zI 200), .int (zI 0)], cO 0 q1 [.int (zI 0), .ref u9.1, .ref u9.2.1, .ref u9.2.2], cI M u9.1 6 (fun _ => 0), cI M u9.2.1 6 (fun _ => 0), cZ M u9.2.2 6 (fun _ => 0), cO 4 q2 [.int (zI 0), .ref u20], cI M u20 8 (fun _ => 0), cO 5 q3 [.int (zI 0), .ref u31], cI M u31 192 (fun _ => 0), cO 6 q4 [.int (zI 0), .ref u42], cI M u42 4 (fun _ => 0), cO 2 q5 [.ref u53.1, .ref u53.2.1, .ref u53.2.2], cI M u53.1 32 (fun j => ((j / 4 : Nat) : Int)), cZ M u53.2.1 8 (fun _ => 0), cZ M u53.2.2 8 (fun _ => 0), cO 8 q6 [.int (zI 0), .ref u64.1, .ref u64.2.1, .ref u64.2.2], cI M u64.1 6 (fun _ => 0), cI M u64.2.1 6 (fun _ => 0), cI M u64.2.2 6 (fun _ => 0)] gg fp_X9_58 dX9_init_86 rfl rfl rfl (Nat.le_of_ble_eq_true rfl) rfl ?_
  refine z_aload_n (pc := 89) 0 gg dX9_init_89 rfl rfl ?_
  refine z_iconst (pc := 90) gg dX9_init_90 ?_
  refine z_put (pc := 91) 0 [cO 9 h [.ref q1, .ref q2, .ref q3, .ref q4, .ref q5, .ref q6, .int (zI 10), .int (zI 50), .int (zI 200), .int (zI 1)], cO 0 q1 [.int (zI 0), .ref u9.1, .ref u9.2.1, .ref u9.2.2], cI M u9.1 6 (fun _ => 0), cI M u9.2.1 6 (fun _ => 0), cZ M u9.2.2 6 (fun _ => 0), cO 4 q2 [.int (zI 0), .ref u20], cI M u20 8 (fun _ => 0), cO 5 q3 [.int (zI 0), .ref u31], cI M u31 192 (fun _ => 0), cO 6 q4 [.int (zI 0), .ref u42], cI M u42 4 (fun _ => 0), cO 2 q5 [.ref u53.1, .ref u53.2.1, .ref u53.2.2], cI M u53.1 32 (fun j => ((j / 4 : Nat) : Int)), cZ M u53.2.1 8 (fun _ => 0), cZ M u53.2.2 8 (fun _ => 0), cO 8 q6 [.int (zI 0), .ref u64.1, .ref u64.2.1, .ref u64.2.2], cI M u64.1 6 (fun _ => 0), cI M u64.2.1 6 (fun _ => 0), cI M u64.2.2 6 (fun _ => 0)] gg fp_X9_61 dX9_init_91 rfl rfl rfl (Nat.le_of_ble_eq_true rfl) rfl ?_
  exact hret (q1, u9.1, u9.2.1, u9.2.2, q2, u20, q3, u31, q4, u42, q5, u53.1, u53.2.1, u53.2.2, q6, u64.1, u64.2.1, u64.2.2) 94 _ _ _ (Nat.le_of_ble_eq_true rfl) (Nat.le_of_ble_eq_true rfl) dX9_init_94 trivial
