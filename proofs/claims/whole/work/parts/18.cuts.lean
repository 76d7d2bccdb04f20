set_option maxHeartbeats 4000000 in
set_option maxRecDepth 100000 in
theorem c_C_init (M : KM) (t : Nat)  : kCV M yX1_init cX1_init 1 1 9 5007 [cO 1 t [.null, .null, .int (zI 0), .int (zI 0), .int (zI 0), .int (zI 0)]] [.ref t] (fun u : Nat × Nat × (Nat → Nat) => True) (fun u => [cO 1 t [.ref u.1, .ref u.2.1, .int (zI 0), .int (zI 0), .int (zI (-1)), .int (zI (-1))], cI M u.1 625 (fun _ => 0), cG M u.2.1 7 (gr u.2.2), cI M (u.2.2 0) 625 ((fun _ _ => 0) 0), cI M (u.2.2 1) 625 ((fun _ _ => 0) 1), cI M (u.2.2 2) 625 ((fun _ _ => 0) 2), cI M (u.2.2 3) 625 ((fun _ _ => 0) 3), cI M (u.2.2 4) 625 ((fun _ _ => 0) 4), cI M (u.2.2 5) 625 ((fun _ _ => 0) 5), cI M (u.2.2 6) 625 ((fun _ _ => 0) 6)]) := by
  refine kCV.of [(0, .ref t)] (by decide) (Nat.le_of_ble_eq_true rfl) rfl (fun E gg gn hret => ?_)
  refine z_aload_n (pc := 0) 0 gg dX1_init_0 rfl rfl ?_
  refine z_obj (pc := 1) gg dX1_init_1 ml_X1_7 oi_1 oi_2 (by decide) (Nat.le_of_ble_eq_true rfl) ?_
  refine z_aload_n (pc := 4) 0 gg dX1_init_4 rfl rfl ?_
  refine z_sipush (pc := 5) gg dX1_init_5 (by decide +kernel) ?_
  refine z_newaI (pc := 8) gg dX1_init_8 ar_I rfl (by decide) (Nat.le_of_ble_eq_true rfl) (Nat.le_of_ble_eq_true rfl) (fun q1 => ?_)
  show kV M E 1 _ _ [cO 1 t [.null, .null, .int (zI 0), .int (zI 0), .int (zI 0), .int (zI 0)], cI M q1 625 (fun _ => 0)] _ _ _
  refine z_putF (pc := 10) 0 [cO 1 t [.ref q1, .null, .int (zI 0), .int (zI 0), .int (zI 0), .int (zI 0)], cI M q1 625 (fun _ => 0)] gg gn fp_X1_13 dX1_init_10 rfl rfl rfl (Nat.le_of_ble_eq_true rfl) rfl ?_
  refine z_aload_n (pc := 13) 0 gg dX1_init_13 rfl rfl ?_
  refine z_bipush (pc := 14) gg dX1_init_14 (by decide +kernel) ?_
  refine z_sipush (pc := 16) gg dX1_init_16 (by decide +kernel) ?_
  refine z_mna (pc := 19) gg dX1_init_19 cl_X1_17 ar_I (Nat.le_of_ble_eq_true rfl) (Nat.le_of_ble_eq_true rfl) (fun q2 r3 => ?_)
  show kV M E 1 _ _ [cO 1 t [.ref q1, .null, .int (zI 0), .int (zI 0), .int (zI 0), .int (zI 0)], cI M q1 625 (fun _ => 0), cG M q2 7 (gr r3), cI M (r3 0) 625 ((fun _ _ => 0) 0), cI M (r3 1) 625 ((fun _ _ => 0) 1), cI M (r3 2) 625 ((fun _ _ => 0) 2), cI M (r3 3) 625 ((fun _ _ => 0) 3), cI M (r3 4) 625 ((fun _ _ => 0) 4), cI M (r3 5) 625 ((fun _ _ => 0) 5), cI M (r3 6) 625 ((fun _ _ => 0) 6)] _ _ _
  refine z_putF (pc := 23) 0 [cO 1 t [.ref q1, .ref q2, .int (zI 0), .int (zI 0), .int (zI 0), .int (zI 0)], cI M q1 625 (fun _ => 0), cG M q2 7 (gr r3), cI M (r3 0) 625 ((fun _ _ => 0) 0), cI M (r3 1) 625 ((fun _ _ => 0) 1), cI M (r3 2) 625 ((fun _ _ => 0) 2), cI M (r3 3) 625 ((fun _ _ => 0) 3), cI M (r3 4) 625 ((fun _ _ => 0) 4), cI M (r3 5) 625 ((fun _ _ => 0) 5), cI M (r3 6) 625 ((fun _ _ => 0) 6)] gg gn fp_X1_19 dX1_init_23 rfl rfl rfl (Nat.le_of_ble_eq_true rfl) rfl ?_
  refine z_aload_n (pc := 26) 0 gg dX1_init_26 rfl rfl ?_
  refine z_iconst (pc := 27) gg dX1_init_27 ?_
  refine z_put (pc := 28) 0 [cO 1 t [.ref q1, .ref q2, .int (zI 0), .int (zI 0), .int (zI 0), .int (zI 0)], cI M q1 625 (fun _ => 0), cG M q2 7 (gr r3), cI M (r3 0) 625 ((fun _ _ => 0) 0), cI M (r3 1) 625 ((fun _ _ => 0) 1), cI M (r3 2) 625 ((fun _ _ => 0) 2), cI M (r3 3) 625 ((fun _ _ => 0) 3), cI M (r3 4) 625 ((fun _ _ => 0) 4), cI M (r3 5) 625 ((fun _ _ => 0) 5), cI M (r3 6) 625 ((fun _ _ => 0) 6)] gg fp_X1_22 dX1_init_28 rfl (zB01 (by omega)) rfl (Nat.le_of_ble_eq_true rfl) rfl ?_
  refine z_aload_n (pc := 31) 0 gg dX1_init_31 rfl rfl ?_
  refine z_iconst (pc := 32) gg dX1_init_32 ?_
  refine z_put (pc := 33) 0 [cO 1 t [.ref q1, .ref q2, .int (zI 0), .int (zI 0), .int (zI 0), .int (zI 0)], cI M q1 625 (fun _ => 0), cG M q2 7 (gr r3), cI M (r3 0) 625 ((fun _ _ => 0) 0), cI M (r3 1) 625 ((fun _ _ => 0) 1), cI M (r3 2) 625 ((fun _ _ => 0) 2), cI M (r3 3) 625 ((fun _ _ => 0) 3), cI M (r3 4) 625 ((fun _ _ => 0) 4), cI M (r3 5) 625 ((fun _ _ => 0) 5), cI M (r3 6) 625 ((fun _ _ => 0) 6)] gg fp_X1_26 dX1_init_33 rfl rfl rfl (Nat.le_of_ble_eq_true rfl) rfl ?_
  refine z_aload_n (pc := 36) 0 gg dX1_init_36 rfl rfl ?_
  refine z_iconst (pc := 37) gg dX1_init_37 ?_
  refine z_put (pc := 38) 0 [cO 1 t [.ref q1, .ref q2, .int (zI 0), .int (zI 0), .int (zI (-1)), .int (zI 0)], cI M q1 625 (fun _ => 0), cG M q2 7 (gr r3), cI M (r3 0) 625 ((fun _ _ => 0) 0), cI M (r3 1) 625 ((fun _ _ => 0) 1), cI M (r3 2) 625 ((fun _ _ => 0) 2), cI M (r3 3) 625 ((fun _ _ => 0) 3), cI M (r3 4) 625 ((fun _ _ => 0) 4), cI M (r3 5) 625 ((fun _ _ => 0) 5), cI M (r3 6) 625 ((fun _ _ => 0) 6)] gg fp_X1_30 dX1_init_38 rfl rfl rfl (Nat.le_of_ble_eq_true rfl) rfl ?_
  refine z_aload_n (pc := 41) 0 gg dX1_init_41 rfl rfl ?_
  refine z_iconst (pc := 42) gg dX1_init_42 ?_
  refine z_put (pc := 43) 0 [cO 1 t [.ref q1, .ref q2, .int (zI 0), .int (zI 0), .int (zI (-1)), .int (zI (-1))], cI M q1 625 (fun _ => 0), cG M q2 7 (gr r3), cI M (r3 0) 625 ((fun _ _ => 0) 0), cI M (r3 1) 625 ((fun _ _ => 0) 1), cI M (r3 2) 625 ((fun _ _ => 0) 2), cI M (r3 3) 625 ((fun _ _ => 0) 3), cI M (r3 4) 625 ((fun _ _ => 0) 4), cI M (r3 5) 625 ((fun _ _ => 0) 5), cI M (r3 6) 625 ((fun _ _ => 0) 6)] gg fp_X1_33 dX1_init_43 rfl rfl rfl (Nat.le_of_ble_eq_true rfl) rfl ?_
  exact hret (q1, q2, r3) 46 _ _ _ (Nat.le_of_ble_eq_true rfl) (Nat.le_of_ble_eq_true rfl) dX1_init_46 trivial
set_option maxHeartbeats 4000000 in
set_option maxRecDepth 100000 in
theorem c_C_forget (M : KM) (t wo ma : Nat) (r : Nat → Nat) (kn bw f1 f2 : Int) (wf : Nat → Int) (m : Nat → Nat → Int)  : kCV M yX1_forget cX1_forget 1 0 0 0 [cO 1 t [.ref wo, .ref ma, .int (zI kn), .int (zI bw), .int (zI f1), .int (zI f2)], cI M wo 625 wf, cG M ma 7 (gr r), cI M (r 0) 625 (m 0), cI M (r 1) 625 (m 1), cI M (r 2) 625 (m 2), cI M (r 3) 625 (m 3), cI M (r 4) 625 (m 4), cI M (r 5) 625 (m 5), cI M (r 6) 625 (m 6)] [.ref t] (fun u : Unit => True) (fun u => [cO 1 t [.ref wo, .ref ma, .int (zI 0), .int (zI bw), .int (zI f1), .int (zI f2)], cI M wo 625 wf, cG M ma 7 (gr r), cI M (r 0) 625 (m 0), cI M (r 1) 625 (m 1), cI M (r 2) 625 (m 2), cI M (r 3) 625 (m 3), cI M (r 4) 625 (m 4), cI M (r 5) 625 (m 5), cI M (r 6) 625 (m 6)]) := by
  refine kCV.of [(0, .ref t)] (by decide) (Nat.le_of_ble_eq_true rfl) rfl (fun E gg gn hret => ?_)
  refine z_aload_n (pc := 0) 0 gg dX1_forget_0 rfl rfl ?_
  refine z_iconst (pc := 1) gg dX1_forget_1 ?_
  refine z_put (pc := 2) 0 [cO 1 t [.ref wo, .ref ma, .int (zI 0), .int (zI bw), .int (zI f1), .int (zI f2)], cI M wo 625 wf, cG M ma 7 (gr r), cI M (r 0) 625 (m 0), cI M (r 1) 625 (m 1), cI M (r 2) 625 (m 2), cI M (r 3) 625 (m 3), cI M (r 4) 625 (m 4), cI M (r 5) 625 (m 5), cI M (r 6) 625 (m 6)] gg fp_X1_22 dX1_forget_2 rfl (zB01 (by omega)) rfl (Nat.le_of_ble_eq_true rfl) rfl ?_
  exact hret () 5 _ _ _ (Nat.le_of_ble_eq_true rfl) (Nat.le_of_ble_eq_true rfl) dX1_forget_5 trivial
set_option maxHeartbeats 4000000 in
set_option maxRecDepth 100000 in
theorem c_C_place (M : KM) (w h : Int)  : kCI M yX1_place cX1_place 2 .int 0 0 0 [] [.int (zI w), .int (zI h)] (fun z (u : Unit) => z = w * 25 + h) (fun u => []) := by
  refine kCI.of [(0, .int (zI w)), (1, .int (zI h))] (by decide) (Nat.le_of_ble_eq_true rfl) rfl (fun E gg hret => ?_)
  refine z_iload_n (pc := 0) 0 gg dX1_place_0 rfl rfl ?_
  refine z_bipush (pc := 1) gg dX1_place_1 (by decide +kernel) ?_
  refine z_imul (pc := 3) gg dX1_place_3 ?_
  refine z_iload_n (pc := 4) 1 gg dX1_place_4 rfl rfl ?_
  refine z_iadd (pc := 5) gg dX1_place_5 ?_
  exact hret ((w * 25) + h) () 6 _ _ _ (Nat.le_of_ble_eq_true rfl) (Nat.le_of_ble_eq_true rfl) dX1_place_6 rfl rfl
set_option maxHeartbeats 4000000 in
set_option maxRecDepth 100000 in
theorem c_C_isPlace (M : KM) (x : Int) (hx : zR x) : kCI M yX1_isPlace cX1_isPlace 1 .boolean 0 0 0 [] [.int (zI x)] (fun z (u : Unit) => (z = 1 ∧ 0 ≤ x ∧ x < 625) ∨ (z = 0 ∧ (x < 0 ∨ 625 ≤ x))) (fun u => []) := by
  refine kCI.of [(0, .int (zI x))] (by decide) (Nat.le_of_ble_eq_true rfl) rfl (fun E gg hret => ?_)
  have r1_hx := hx.1
  have r2_hx := hx.2
  refine z_iload_n (pc := 0) 0 gg dX1_isPlace_0 rfl rfl ?_
  refine z_if_lt (pc := 1) 15 gg dX1_isPlace_1 (by decide) ⟨by omega, by omega⟩ (fun h1 => ?_) (fun h1 => ?_)
  · refine z_iconst (pc := 15) gg dX1_isPlace_15 ?_
    exact hret 0 () 16 _ _ _ (Nat.le_of_ble_eq_true rfl) (Nat.le_of_ble_eq_true rfl) dX1_isPlace_16 (zB01 (by omega)) (by omega)
  · refine z_iload_n (pc := 4) 0 gg dX1_isPlace_4 rfl rfl ?_
    refine z_sipush (pc := 5) gg dX1_isPlace_5 (by decide +kernel) ?_
    refine z_icmp_ge (pc := 8) 15 gg dX1_isPlace_8 (by decide) ⟨by omega, by omega⟩ ⟨by omega, by omega⟩ (fun h8 => ?_) (fun h8 => ?_)
    · refine z_iconst (pc := 15) gg dX1_isPlace_15 ?_
      exact hret 0 () 16 _ _ _ (Nat.le_of_ble_eq_true rfl) (Nat.le_of_ble_eq_true rfl) dX1_isPlace_16 (zB01 (by omega)) (by omega)
    · refine z_iconst (pc := 11) gg dX1_isPlace_11 ?_
      refine z_goto (pc := 12) 16 gg dX1_isPlace_12 (by decide) ?_
      exact hret 1 () 16 _ _ _ (Nat.le_of_ble_eq_true rfl) (Nat.le_of_ble_eq_true rfl) dX1_isPlace_16 (zB01 (by omega)) (by omega)
set_option maxHeartbeats 4000000 in
set_option maxRecDepth 100000 in
theorem c_C_worthOf (M : KM) (t wo ma : Nat) (r : Nat → Nat) (kn bw f1 f2 : Int) (wf : Nat → Int) (m : Nat → Nat → Int) (w h : Int) (hw : zR w) (hh : zR h) : kCI M yX1_worthOf cX1_worthOf 3 .int 1 0 0 [cO 1 t [.ref wo, .ref ma, .int (zI kn), .int (zI bw), .int (zI f1), .int (zI f2)], cI M wo 625 wf, cG M ma 7 (gr r), cI M (r 0) 625 (m 0), cI M (r 1) 625 (m 1), cI M (r 2) 625 (m 2), cI M (r 3) 625 (m 3), cI M (r 4) 625 (m 4), cI M (r 5) 625 (m 5), cI M (r 6) 625 (m 6)] [.ref t, .int (zI w), .int (zI h)] (fun z (u : Unit) => (1 ≤ w ∧ w ≤ 24 ∧ 1 ≤ h ∧ h ≤ 24 ∧ z = wf (w.toNat * 25 + h.toNat)) ∨ ((w < 1 ∨ 24 < w ∨ h < 1 ∨ 24 < h) ∧ z = -1)) (fun u => [cO 1 t [.ref wo, .ref ma, .int (zI kn), .int (zI bw), .int (zI f1), .int (zI f2)], cI M wo 625 wf, cG M ma 7 (gr r), cI M (r 0) 625 (m 0), cI M (r 1) 625 (m 1), cI M (r 2) 625 (m 2), cI M (r 3) 625 (m 3), cI M (r 4) 625 (m 4), cI M (r 5) 625 (m 5), cI M (r 6) 625 (m 6)]) := by
  refine kCI.of [(0, .ref t), (1, .int (zI w)), (2, .int (zI h))] (by decide) (Nat.le_of_ble_eq_true rfl) rfl (fun E gg hret => ?_)
  have r1_hw := hw.1
  have r2_hw := hw.2
  have r1_hh := hh.1
  have r2_hh := hh.2
  refine z_iload_n (pc := 0) 1 gg dX1_worthOf_0 rfl rfl ?_
  refine z_iload_n (pc := 1) 2 gg dX1_worthOf_1 rfl rfl ?_
  refine z_callS (pc := 2) (As := [.int (zI w), .int (zI h)]) (st := []) gg (c_S_hasSides M w h (by first | assumption | omega | exact ⟨by omega, by omega⟩) (by first | assumption | omega | exact ⟨by omega, by omega⟩)) ys_8_hasSides ml_X1_40 dX1_worthOf_2 (by decide) (Nat.le_of_ble_eq_true rfl) (Nat.le_of_ble_eq_true rfl) (Nat.le_of_ble_eq_true rfl) rfl rfl (fun z2 u2 hz2 => ?_)
  refine z_if_eq (pc := 5) 21 gg dX1_worthOf_5 (by decide) ⟨by omega, by omega⟩ (fun h5 => ?_) (fun h5 => ?_)
  · refine z_iconst (pc := 21) gg dX1_worthOf_21 ?_
    exact hret (-1) () 22 _ _ _ (Nat.le_of_ble_eq_true rfl) (Nat.le_of_ble_eq_true rfl) dX1_worthOf_22 rfl (by omega)
  · refine z_aload_n (pc := 8) 0 gg dX1_worthOf_8 rfl rfl ?_
    refine z_get (pc := 9) 0 gg fl_X1_13 dX1_worthOf_9 rfl rfl ?_
    refine z_iload_n (pc := 12) 1 gg dX1_worthOf_12 rfl rfl ?_
    refine z_iload_n (pc := 13) 2 gg dX1_worthOf_13 rfl rfl ?_
    refine z_callS (pc := 14) (As := [.int (zI w), .int (zI h)]) (st := [.ref wo]) gg (c_C_place M w h ) ys_1_place ml_X1_44 dX1_worthOf_14 (by decide) (Nat.le_of_ble_eq_true rfl) (Nat.le_of_ble_eq_true rfl) (Nat.le_of_ble_eq_true rfl) rfl rfl (fun z14 u14 hz14 => ?_)
    refine z_iald (pc := 17) 1 (w.toNat * 25 + h.toNat) gg dX1_worthOf_17 rfl (by omega) (by omega) (by decide) ?_
    refine z_goto (pc := 18) 22 gg dX1_worthOf_18 (by decide) ?_
    exact hret (wf (w.toNat * 25 + h.toNat)) () 22 _ _ _ (Nat.le_of_ble_eq_true rfl) (Nat.le_of_ble_eq_true rfl) dX1_worthOf_22 rfl (by omega)
set_option maxHeartbeats 4000000 in
set_option maxRecDepth 100000 in
theorem c_C_cutsOf (M : KM) (t wo ma : Nat) (r : Nat → Nat) (kn bw f1 f2 : Int) (wf : Nat → Int) (m : Nat → Nat → Int) (w h : Int) (hw : zR w) (hh : zR h) : kCI M yX1_cutsOf cX1_cutsOf 3 .int 1 0 0 [cO 1 t [.ref wo, .ref ma, .int (zI kn), .int (zI bw), .int (zI f1), .int (zI f2)], cI M wo 625 wf, cG M ma 7 (gr r), cI M (r 0) 625 (m 0), cI M (r 1) 625 (m 1), cI M (r 2) 625 (m 2), cI M (r 3) 625 (m 3), cI M (r 4) 625 (m 4), cI M (r 5) 625 (m 5), cI M (r 6) 625 (m 6)] [.ref t, .int (zI w), .int (zI h)] (fun z (u : Unit) => (1 ≤ w ∧ w ≤ 24 ∧ 1 ≤ h ∧ h ≤ 24 ∧ z = m 6 (w.toNat * 25 + h.toNat)) ∨ ((w < 1 ∨ 24 < w ∨ h < 1 ∨ 24 < h) ∧ z = -1)) (fun u => [cO 1 t [.ref wo, .ref ma, .int (zI kn), .int (zI bw), .int (zI f1), .int (zI f2)], cI M wo 625 wf, cG M ma 7 (gr r), cI M (r 0) 625 (m 0), cI M (r 1) 625 (m 1), cI M (r 2) 625 (m 2), cI M (r 3) 625 (m 3), cI M (r 4) 625 (m 4), cI M (r 5) 625 (m 5), cI M (r 6) 625 (m 6)]) := by
  refine kCI.of [(0, .ref t), (1, .int (zI w)), (2, .int (zI h))] (by decide) (Nat.le_of_ble_eq_true rfl) rfl (fun E gg hret => ?_)
  have r1_hw := hw.1
  have r2_hw := hw.2
  have r1_hh := hh.1
  have r2_hh := hh.2
  refine z_iload_n (pc := 0) 1 gg dX1_cutsOf_0 rfl rfl ?_
  refine z_iload_n (pc := 1) 2 gg dX1_cutsOf_1 rfl rfl ?_
  refine z_callS (pc := 2) (As := [.int (zI w), .int (zI h)]) (st := []) gg (c_S_hasSides M w h (by first | assumption | omega | exact ⟨by omega, by omega⟩) (by first | assumption | omega | exact ⟨by omega, by omega⟩)) ys_8_hasSides ml_X1_40 dX1_cutsOf_2 (by decide) (Nat.le_of_ble_eq_true rfl) (Nat.le_of_ble_eq_true rfl) (Nat.le_of_ble_eq_true rfl) rfl rfl (fun z2 u2 hz2 => ?_)
  refine z_if_eq (pc := 5) 24 gg dX1_cutsOf_5 (by decide) ⟨by omega, by omega⟩ (fun h5 => ?_) (fun h5 => ?_)
  · refine z_iconst (pc := 24) gg dX1_cutsOf_24 ?_
    exact hret (-1) () 25 _ _ _ (Nat.le_of_ble_eq_true rfl) (Nat.le_of_ble_eq_true rfl) dX1_cutsOf_25 rfl (by omega)
  · refine z_aload_n (pc := 8) 0 gg dX1_cutsOf_8 rfl rfl ?_
    refine z_get (pc := 9) 0 gg fl_X1_19 dX1_cutsOf_9 rfl rfl ?_
    refine z_bipush (pc := 12) gg dX1_cutsOf_12 (by decide +kernel) ?_
    refine z_grow (pc := 14) 2 6 gg dX1_cutsOf_14 rfl (by omega) (by omega) ?_
    refine z_iload_n (pc := 15) 1 gg dX1_cutsOf_15 rfl rfl ?_
    refine z_iload_n (pc := 16) 2 gg dX1_cutsOf_16 rfl rfl ?_
    refine z_callS (pc := 17) (As := [.int (zI w), .int (zI h)]) (st := [.ref (r 6)]) gg (c_C_place M w h ) ys_1_place ml_X1_44 dX1_cutsOf_17 (by decide) (Nat.le_of_ble_eq_true rfl) (Nat.le_of_ble_eq_true rfl) (Nat.le_of_ble_eq_true rfl) rfl rfl (fun z17 u17 hz17 => ?_)
    refine z_iald (pc := 20) (3 + 6) (w.toNat * 25 + h.toNat) gg dX1_cutsOf_20 (fam_at (by omega)) (by omega) (by omega) (by decide) ?_
    refine z_goto (pc := 21) 25 gg dX1_cutsOf_21 (by decide) ?_
    exact hret (m 6 (w.toNat * 25 + h.toNat)) () 25 _ _ _ (Nat.le_of_ble_eq_true rfl) (Nat.le_of_ble_eq_true rfl) dX1_cutsOf_25 rfl (by omega)
set_option maxHeartbeats 4000000 in
set_option maxRecDepth 100000 in
theorem c_C_sheetsOf (M : KM) (t wo ma : Nat) (r : Nat → Nat) (kn bw f1 f2 : Int) (wf : Nat → Int) (m : Nat → Nat → Int) (w h x : Int) (hw : zR w) (hh : zR h) (hx : 0 ≤ x ∧ x < 6) : kCI M yX1_sheetsOf cX1_sheetsOf 5 .int 1 0 0 [cO 1 t [.ref wo, .ref ma, .int (zI kn), .int (zI bw), .int (zI f1), .int (zI f2)], cI M wo 625 wf, cG M ma 7 (gr r), cI M (r 0) 625 (m 0), cI M (r 1) 625 (m 1), cI M (r 2) 625 (m 2), cI M (r 3) 625 (m 3), cI M (r 4) 625 (m 4), cI M (r 5) 625 (m 5), cI M (r 6) 625 (m 6)] [.ref t, .int (zI w), .int (zI h), .int (zI x)] (fun z (u : Unit) => (1 ≤ w ∧ w ≤ 24 ∧ 1 ≤ h ∧ h ≤ 24 ∧ z = m x.toNat (w.toNat * 25 + h.toNat)) ∨ ((w < 1 ∨ 24 < w ∨ h < 1 ∨ 24 < h) ∧ z = -1)) (fun u => [cO 1 t [.ref wo, .ref ma, .int (zI kn), .int (zI bw), .int (zI f1), .int (zI f2)], cI M wo 625 wf, cG M ma 7 (gr r), cI M (r 0) 625 (m 0), cI M (r 1) 625 (m 1), cI M (r 2) 625 (m 2), cI M (r 3) 625 (m 3), cI M (r 4) 625 (m 4), cI M (r 5) 625 (m 5), cI M (r 6) 625 (m 6)]) := by
  refine kCI.of [(0, .ref t), (1, .int (zI w)), (2, .int (zI h)), (3, .int (zI x))] (by decide) (Nat.le_of_ble_eq_true rfl) rfl (fun E gg hret => ?_)
  have r1_hw := hw.1
  have r2_hw := hw.2
  have r1_hh := hh.1
  have r2_hh := hh.2
  refine z_iload_n (pc := 0) 3 gg dX1_sheetsOf_0 rfl rfl ?_
  refine z_if_lt (pc := 1) 14 gg dX1_sheetsOf_1 (by decide) ⟨by omega, by omega⟩ (fun h1 => ?_) (fun h1 => ?_)
  · exfalso; omega
  · refine z_iload_n (pc := 4) 3 gg dX1_sheetsOf_4 rfl rfl ?_
    refine z_bipush (pc := 5) gg dX1_sheetsOf_5 (by decide +kernel) ?_
    refine z_icmp_ge (pc := 7) 14 gg dX1_sheetsOf_7 (by decide) ⟨by omega, by omega⟩ ⟨by omega, by omega⟩ (fun h7 => ?_) (fun h7 => ?_)
    · exfalso; omega
    · refine z_iconst (pc := 10) gg dX1_sheetsOf_10 ?_
      refine z_goto (pc := 11) 15 gg dX1_sheetsOf_11 (by decide) ?_
      refine z_istore (pc := 15) [(4, .int (zI 1)), (0, .ref t), (1, .int (zI w)), (2, .int (zI h)), (3, .int (zI x))] gg dX1_sheetsOf_15 (Nat.le_of_ble_eq_true rfl) rfl ?_
      refine z_iload (pc := 17) 0 gg dX1_sheetsOf_17 rfl ?_
      refine z_if_eq (pc := 19) 45 gg dX1_sheetsOf_19 (by decide) ⟨by omega, by omega⟩ (fun h19 => ?_) (fun h19 => ?_)
      · exfalso; omega
      · refine z_iload_n (pc := 22) 2 gg dX1_sheetsOf_22 rfl rfl ?_
        refine z_iload_n (pc := 23) 3 gg dX1_sheetsOf_23 rfl rfl ?_
        refine z_callS (pc := 24) (As := [.int (zI w), .int (zI h)]) (st := []) gg (c_S_hasSides M w h (by first | assumption | omega | exact ⟨by omega, by omega⟩) (by first | assumption | omega | exact ⟨by omega, by omega⟩)) ys_8_hasSides ml_X1_40 dX1_sheetsOf_24 (by decide) (Nat.le_of_ble_eq_true rfl) (Nat.le_of_ble_eq_true rfl) (Nat.le_of_ble_eq_true rfl) rfl rfl (fun z24 u24 hz24 => ?_)
        refine z_if_eq (pc := 27) 45 gg dX1_sheetsOf_27 (by decide) ⟨by omega, by omega⟩ (fun h27 => ?_) (fun h27 => ?_)
        · refine z_iconst (pc := 45) gg dX1_sheetsOf_45 ?_
          exact hret (-1) () 46 _ _ _ (Nat.le_of_ble_eq_true rfl) (Nat.le_of_ble_eq_true rfl) dX1_sheetsOf_46 rfl (by omega)
        · refine z_aload_n (pc := 30) 1 gg dX1_sheetsOf_30 rfl rfl ?_
          refine z_get (pc := 31) 0 gg fl_X1_19 dX1_sheetsOf_31 rfl rfl ?_
          refine z_iload_n (pc := 34) 4 gg dX1_sheetsOf_34 rfl rfl ?_
          refine z_grow (pc := 35) 2 x.toNat gg dX1_sheetsOf_35 rfl (by omega) (by omega) ?_
          refine z_iload_n (pc := 36) 2 gg dX1_sheetsOf_36 rfl rfl ?_
          refine z_iload_n (pc := 37) 3 gg dX1_sheetsOf_37 rfl rfl ?_
          refine z_callS (pc := 38) (As := [.int (zI w), .int (zI h)]) (st := [.ref (r x.toNat)]) gg (c_C_place M w h ) ys_1_place ml_X1_44 dX1_sheetsOf_38 (by decide) (Nat.le_of_ble_eq_true rfl) (Nat.le_of_ble_eq_true rfl) (Nat.le_of_ble_eq_true rfl) rfl rfl (fun z38 u38 hz38 => ?_)
          refine z_iald (pc := 41) (3 + x.toNat) (w.toNat * 25 + h.toNat) gg dX1_sheetsOf_41 (fam_at (by omega)) (by omega) (by omega) (by decide) ?_
          refine z_goto (pc := 42) 46 gg dX1_sheetsOf_42 (by decide) ?_
          exact hret (m x.toNat (w.toNat * 25 + h.toNat)) () 46 _ _ _ (Nat.le_of_ble_eq_true rfl) (Nat.le_of_ble_eq_true rfl) dX1_sheetsOf_46 rfl (by omega)
set_option maxHeartbeats 4000000 in
set_option maxRecDepth 100000 in
theorem c_C_tryCut_yes (M : KM) (t wo ma : Nat) (r : Nat → Nat) (kn bw f1 f2 : Int) (wf : Nat → Int) (m : Nat → Nat → Int) (a b : Int) (ha : 0 ≤ a ∧ a < 625) (hb : 0 ≤ b ∧ b < 625) (hab : 0 ≤ wf a.toNat ∧ wf a.toNat ≤ 600000 ∧ 0 ≤ wf b.toNat ∧ wf b.toNat ≤ 600000) (hw : 0 ≤ bw ∧ bw ≤ 2000000) (hc : bw < wf a.toNat + wf b.toNat) : kCV M yX1_tryCut cX1_tryCut 4 1 0 0 [cO 1 t [.ref wo, .ref ma, .int (zI kn), .int (zI bw), .int (zI f1), .int (zI f2)], cI M wo 625 wf, cG M ma 7 (gr r), cI M (r 0) 625 (m 0), cI M (r 1) 625 (m 1), cI M (r 2) 625 (m 2), cI M (r 3) 625 (m 3), cI M (r 4) 625 (m 4), cI M (r 5) 625 (m 5), cI M (r 6) 625 (m 6)] [.ref t, .int (zI a), .int (zI b)] (fun u : Unit => True) (fun u => [cO 1 t [.ref wo, .ref ma, .int (zI kn), .int (zI (wf a.toNat + wf b.toNat)), .int (zI a), .int (zI b)], cI M wo 625 wf, cG M ma 7 (gr r), cI M (r 0) 625 (m 0), cI M (r 1) 625 (m 1), cI M (r 2) 625 (m 2), cI M (r 3) 625 (m 3), cI M (r 4) 625 (m 4), cI M (r 5) 625 (m 5), cI M (r 6) 625 (m 6)]) := by
  refine kCV.of [(0, .ref t), (1, .int (zI a)), (2, .int (zI b))] (by decide) (Nat.le_of_ble_eq_true rfl) rfl (fun E gg gn hret => ?_)
  refine z_iload_n (pc := 0) 1 gg dX1_tryCut_0 rfl rfl ?_
  refine z_callS (pc := 1) (As := [.int (zI a)]) (st := []) gg (c_C_isPlace M a (by first | assumption | omega | exact ⟨by omega, by omega⟩)) ys_1_isPlace ml_X1_59 dX1_tryCut_1 (by decide) (Nat.le_of_ble_eq_true rfl) (Nat.le_of_ble_eq_true rfl) (Nat.le_of_ble_eq_true rfl) rfl rfl (fun z1 u1 hz1 => ?_)
  refine z_if_eq (pc := 4) 14 gg dX1_tryCut_4 (by decide) ⟨by omega, by omega⟩ (fun h4 => ?_) (fun h4 => ?_)
  · exfalso; omega
  · refine z_iload_n (pc := 7) 2 gg dX1_tryCut_7 rfl rfl ?_
    refine z_callS (pc := 8) (As := [.int (zI b)]) (st := []) gg (c_C_isPlace M b (by first | assumption | omega | exact ⟨by omega, by omega⟩)) ys_1_isPlace ml_X1_59 dX1_tryCut_8 (by decide) (Nat.le_of_ble_eq_true rfl) (Nat.le_of_ble_eq_true rfl) (Nat.le_of_ble_eq_true rfl) rfl rfl (fun z8 u8 hz8 => ?_)
    refine z_if_ne (pc := 11) 15 gg dX1_tryCut_11 (by decide) ⟨by omega, by omega⟩ (fun h11 => ?_) (fun h11 => ?_)
    · refine z_aload_n (pc := 15) 0 gg dX1_tryCut_15 rfl rfl ?_
      refine z_get (pc := 16) 0 gg fl_X1_13 dX1_tryCut_16 rfl rfl ?_
      refine z_iload_n (pc := 19) 1 gg dX1_tryCut_19 rfl rfl ?_
      refine z_iald (pc := 20) 1 a.toNat gg dX1_tryCut_20 rfl (by omega) (by omega) (by decide) ?_
      refine z_aload_n (pc := 21) 0 gg dX1_tryCut_21 rfl rfl ?_
      refine z_get (pc := 22) 0 gg fl_X1_13 dX1_tryCut_22 rfl rfl ?_
      refine z_iload_n (pc := 25) 2 gg dX1_tryCut_25 rfl rfl ?_
      refine z_iald (pc := 26) 1 b.toNat gg dX1_tryCut_26 rfl (by omega) (by omega) (by decide) ?_
      refine z_iadd (pc := 27) gg dX1_tryCut_27 ?_
      refine z_istore_n (pc := 28) [(3, .int (zI ((wf a.toNat) + (wf b.toNat)))), (0, .ref t), (1, .int (zI a)), (2, .int (zI b))] gg dX1_tryCut_28 rfl (Nat.le_of_ble_eq_true rfl) rfl ?_
      refine z_iload_n (pc := 29) 0 gg dX1_tryCut_29 rfl rfl ?_
      refine z_aload_n (pc := 30) 1 gg dX1_tryCut_30 rfl rfl ?_
      refine z_get (pc := 31) 0 gg fl_X1_26 dX1_tryCut_31 rfl rfl ?_
      refine z_icmp_le (pc := 34) 52 gg dX1_tryCut_34 (by decide) ⟨by omega, by omega⟩ ⟨by omega, by omega⟩ (fun h34 => ?_) (fun h34 => ?_)
      · exfalso; omega
      · refine z_aload_n (pc := 37) 1 gg dX1_tryCut_37 rfl rfl ?_
        refine z_iload_n (pc := 38) 0 gg dX1_tryCut_38 rfl rfl ?_
        refine z_put (pc := 39) 0 [cO 1 t [.ref wo, .ref ma, .int (zI kn), .int (zI ((wf a.toNat) + (wf b.toNat))), .int (zI f1), .int (zI f2)], cI M wo 625 wf, cG M ma 7 (gr r), cI M (r 0) 625 (m 0), cI M (r 1) 625 (m 1), cI M (r 2) 625 (m 2), cI M (r 3) 625 (m 3), cI M (r 4) 625 (m 4), cI M (r 5) 625 (m 5), cI M (r 6) 625 (m 6)] gg fp_X1_26 dX1_tryCut_39 rfl rfl rfl (Nat.le_of_ble_eq_true rfl) rfl ?_
        refine z_aload_n (pc := 42) 1 gg dX1_tryCut_42 rfl rfl ?_
        refine z_iload_n (pc := 43) 2 gg dX1_tryCut_43 rfl rfl ?_
        refine z_put (pc := 44) 0 [cO 1 t [.ref wo, .ref ma, .int (zI kn), .int (zI ((wf a.toNat) + (wf b.toNat))), .int (zI a), .int (zI f2)], cI M wo 625 wf, cG M ma 7 (gr r), cI M (r 0) 625 (m 0), cI M (r 1) 625 (m 1), cI M (r 2) 625 (m 2), cI M (r 3) 625 (m 3), cI M (r 4) 625 (m 4), cI M (r 5) 625 (m 5), cI M (r 6) 625 (m 6)] gg fp_X1_30 dX1_tryCut_44 rfl rfl rfl (Nat.le_of_ble_eq_true rfl) rfl ?_
        refine z_aload_n (pc := 47) 1 gg dX1_tryCut_47 rfl rfl ?_
        refine z_iload_n (pc := 48) 3 gg dX1_tryCut_48 rfl rfl ?_
        refine z_put (pc := 49) 0 [cO 1 t [.ref wo, .ref ma, .int (zI kn), .int (zI ((wf a.toNat) + (wf b.toNat))), .int (zI a), .int (zI b)], cI M wo 625 wf, cG M ma 7 (gr r), cI M (r 0) 625 (m 0), cI M (r 1) 625 (m 1), cI M (r 2) 625 (m 2), cI M (r 3) 625 (m 3), cI M (r 4) 625 (m 4), cI M (r 5) 625 (m 5), cI M (r 6) 625 (m 6)] gg fp_X1_33 dX1_tryCut_49 rfl rfl rfl (Nat.le_of_ble_eq_true rfl) rfl ?_
        exact hret () 52 _ _ _ (Nat.le_of_ble_eq_true rfl) (Nat.le_of_ble_eq_true rfl) dX1_tryCut_52 trivial
    · exfalso; omega
set_option maxHeartbeats 4000000 in
set_option maxRecDepth 100000 in
theorem c_C_tryCut_no (M : KM) (t wo ma : Nat) (r : Nat → Nat) (kn bw f1 f2 : Int) (wf : Nat → Int) (m : Nat → Nat → Int) (a b : Int) (ha : 0 ≤ a ∧ a < 625) (hb : 0 ≤ b ∧ b < 625) (hab : 0 ≤ wf a.toNat ∧ wf a.toNat ≤ 600000 ∧ 0 ≤ wf b.toNat ∧ wf b.toNat ≤ 600000) (hw : 0 ≤ bw ∧ bw ≤ 2000000) (hc : wf a.toNat + wf b.toNat ≤ bw) : kCV M yX1_tryCut cX1_tryCut 4 1 0 0 [cO 1 t [.ref wo, .ref ma, .int (zI kn), .int (zI bw), .int (zI f1), .int (zI f2)], cI M wo 625 wf, cG M ma 7 (gr r), cI M (r 0) 625 (m 0), cI M (r 1) 625 (m 1), cI M (r 2) 625 (m 2), cI M (r 3) 625 (m 3), cI M (r 4) 625 (m 4), cI M (r 5) 625 (m 5), cI M (r 6) 625 (m 6)] [.ref t, .int (zI a), .int (zI b)] (fun u : Unit => True) (fun u => [cO 1 t [.ref wo, .ref ma, .int (zI kn), .int (zI bw), .int (zI f1), .int (zI f2)], cI M wo 625 wf, cG M ma 7 (gr r), cI M (r 0) 625 (m 0), cI M (r 1) 625 (m 1), cI M (r 2) 625 (m 2), cI M (r 3) 625 (m 3), cI M (r 4) 625 (m 4), cI M (r 5) 625 (m 5), cI M (r 6) 625 (m 6)]) := by
  refine kCV.of [(0, .ref t), (1, .int (zI a)), (2, .int (zI b))] (by decide) (Nat.le_of_ble_eq_true rfl) rfl (fun E gg gn hret => ?_)
  refine z_iload_n (pc := 0) 1 gg dX1_tryCut_0 rfl rfl ?_
  refine z_callS (pc := 1) (As := [.int (zI a)]) (st := []) gg (c_C_isPlace M a (by first | assumption | omega | exact ⟨by omega, by omega⟩)) ys_1_isPlace ml_X1_59 dX1_tryCut_1 (by decide) (Nat.le_of_ble_eq_true rfl) (Nat.le_of_ble_eq_true rfl) (Nat.le_of_ble_eq_true rfl) rfl rfl (fun z1 u1 hz1 => ?_)
  refine z_if_eq (pc := 4) 14 gg dX1_tryCut_4 (by decide) ⟨by omega, by omega⟩ (fun h4 => ?_) (fun h4 => ?_)
  · exfalso; omega
  · refine z_iload_n (pc := 7) 2 gg dX1_tryCut_7 rfl rfl ?_
    refine z_callS (pc := 8) (As := [.int (zI b)]) (st := []) gg (c_C_isPlace M b (by first | assumption | omega | exact ⟨by omega, by omega⟩)) ys_1_isPlace ml_X1_59 dX1_tryCut_8 (by decide) (Nat.le_of_ble_eq_true rfl) (Nat.le_of_ble_eq_true rfl) (Nat.le_of_ble_eq_true rfl) rfl rfl (fun z8 u8 hz8 => ?_)
    refine z_if_ne (pc := 11) 15 gg dX1_tryCut_11 (by decide) ⟨by omega, by omega⟩ (fun h11 => ?_) (fun h11 => ?_)
    · refine z_aload_n (pc := 15) 0 gg dX1_tryCut_15 rfl rfl ?_
      refine z_get (pc := 16) 0 gg fl_X1_13 dX1_tryCut_16 rfl rfl ?_
      refine z_iload_n (pc := 19) 1 gg dX1_tryCut_19 rfl rfl ?_
      refine z_iald (pc := 20) 1 a.toNat gg dX1_tryCut_20 rfl (by omega) (by omega) (by decide) ?_
      refine z_aload_n (pc := 21) 0 gg dX1_tryCut_21 rfl rfl ?_
      refine z_get (pc := 22) 0 gg fl_X1_13 dX1_tryCut_22 rfl rfl ?_
      refine z_iload_n (pc := 25) 2 gg dX1_tryCut_25 rfl rfl ?_
      refine z_iald (pc := 26) 1 b.toNat gg dX1_tryCut_26 rfl (by omega) (by omega) (by decide) ?_
      refine z_iadd (pc := 27) gg dX1_tryCut_27 ?_
      refine z_istore_n (pc := 28) [(3, .int (zI ((wf a.toNat) + (wf b.toNat)))), (0, .ref t), (1, .int (zI a)), (2, .int (zI b))] gg dX1_tryCut_28 rfl (Nat.le_of_ble_eq_true rfl) rfl ?_
      refine z_iload_n (pc := 29) 0 gg dX1_tryCut_29 rfl rfl ?_
      refine z_aload_n (pc := 30) 1 gg dX1_tryCut_30 rfl rfl ?_
      refine z_get (pc := 31) 0 gg fl_X1_26 dX1_tryCut_31 rfl rfl ?_
      refine z_icmp_le (pc := 34) 52 gg dX1_tryCut_34 (by decide) ⟨by omega, by omega⟩ ⟨by omega, by omega⟩ (fun h34 => ?_) (fun h34 => ?_)
      · exact hret () 52 _ _ _ (Nat.le_of_ble_eq_true rfl) (Nat.le_of_ble_eq_true rfl) dX1_tryCut_52 trivial
      · exfalso; omega
    · exfalso; omega
set_option maxHeartbeats 4000000 in
set_option maxRecDepth 100000 in
theorem c_C_writeWhole (M : KM) (t wo ma : Nat) (r : Nat → Nat) (kn bw f1 f2 : Int) (wf : Nat → Int) (m : Nat → Nat → Int) (a k : Int) (ha : 0 ≤ a ∧ a < 625) (hk : -1 ≤ k ∧ k < 6) : kCV M yX1_writeWhole cX1_writeWhole 4 0 0 0 [cO 1 t [.ref wo, .ref ma, .int (zI kn), .int (zI bw), .int (zI f1), .int (zI f2)], cI M wo 625 wf, cG M ma 7 (gr r), cI M (r 0) 625 (m 0), cI M (r 1) 625 (m 1), cI M (r 2) 625 (m 2), cI M (r 3) 625 (m 3), cI M (r 4) 625 (m 4), cI M (r 5) 625 (m 5), cI M (r 6) 625 (m 6)] [.ref t, .int (zI a), .int (zI k)] (fun u : Nat → Nat → Int => ∀ i, i < 7 → u i = zU (m i) a.toNat (if (i : Int) = k then 1 else 0)) (fun u => [cO 1 t [.ref wo, .ref ma, .int (zI kn), .int (zI bw), .int (zI f1), .int (zI f2)], cI M wo 625 (zU wf a.toNat bw), cG M ma 7 (gr r), cI M (r 0) 625 (u 0), cI M (r 1) 625 (u 1), cI M (r 2) 625 (u 2), cI M (r 3) 625 (u 3), cI M (r 4) 625 (u 4), cI M (r 5) 625 (u 5), cI M (r 6) 625 (u 6)]) := by
  refine kCV.of [(0, .ref t), (1, .int (zI a)), (2, .int (zI k))] (by decide) (Nat.le_of_ble_eq_true rfl) rfl (fun E gg gn hret => ?_)
  refine z_aload_n (pc := 0) 0 gg dX1_writeWhole_0 rfl rfl ?_
  refine z_get (pc := 1) 0 gg fl_X1_13 dX1_writeWhole_1 rfl rfl ?_
  refine z_iload_n (pc := 4) 1 gg dX1_writeWhole_4 rfl rfl ?_
  refine z_aload_n (pc := 5) 0 gg dX1_writeWhole_5 rfl rfl ?_
  refine z_get (pc := 6) 0 gg fl_X1_26 dX1_writeWhole_6 rfl rfl ?_
  refine z_iast (pc := 9) 1 a.toNat [cO 1 t [.ref wo, .ref ma, .int (zI kn), .int (zI bw), .int (zI f1), .int (zI f2)], cI M wo 625 (zU wf a.toNat bw), cG M ma 7 (gr r), cI M (r 0) 625 (m 0), cI M (r 1) 625 (m 1), cI M (r 2) 625 (m 2), cI M (r 3) 625 (m 3), cI M (r 4) 625 (m 4), cI M (r 5) 625 (m 5), cI M (r 6) 625 (m 6)] gg dX1_writeWhole_9 rfl (by omega) (by omega) (by decide) rfl ?_
  refine z_iconst (pc := 10) gg dX1_writeWhole_10 ?_
  refine z_istore_n (pc := 11) [(3, .int (zI 0)), (0, .ref t), (1, .int (zI a)), (2, .int (zI k))] gg dX1_writeWhole_11 rfl (Nat.le_of_ble_eq_true rfl) rfl ?_
  have loop12 : ∀ (k12 : Nat) (i : Int) (m1 : Nat → Nat → Int), (0 ≤ i ∧ i ≤ 7) → (∀ j, j < i.toNat → m1 j = zU (m j) a.toNat (if (j : Int) = k then 1 else 0)) → (∀ j, i.toNat ≤ j → m1 j = m j) → 7 - i.toNat < k12 → kV M E 4 0 0 [cO 1 t [.ref wo, .ref ma, .int (zI kn), .int (zI bw), .int (zI f1), .int (zI f2)], cI M wo 625 (zU wf a.toNat bw), cG M ma 7 (gr r), cI M (r 0) 625 (m1 0), cI M (r 1) 625 (m1 1), cI M (r 2) 625 (m1 2), cI M (r 3) 625 (m1 3), cI M (r 4) 625 (m1 4), cI M (r 5) 625 (m1 5), cI M (r 6) 625 (m1 6)] [(3, .int (zI i)), (0, .ref t), (1, .int (zI a)), (2, .int (zI k))] 12 [] := by
    intro k12
    induction k12 with
    | zero => intro i m1 hi k1 k2 hm12; exact absurd hm12 (Nat.not_lt_zero _)
    | succ k12 ih12 =>
      intro i m1 hi k1 k2 hm12
      refine z_iload_n (pc := 12) 0 gg dX1_writeWhole_12 rfl rfl ?_
      refine z_bipush (pc := 13) gg dX1_writeWhole_13 (by decide +kernel) ?_
      refine z_icmp_gt (pc := 15) 42 gg dX1_writeWhole_15 (by decide) ⟨by omega, by omega⟩ ⟨by omega, by omega⟩ (fun h15 => ?_) (fun h15 => ?_)
      · exact hret m1 42 _ _ _ (Nat.le_of_ble_eq_true rfl) (Nat.le_of_ble_eq_true rfl) dX1_writeWhole_42 (fun j hj => k1 j (by omega))
      · refine z_aload_n (pc := 18) 1 gg dX1_writeWhole_18 rfl rfl ?_
        refine z_get (pc := 19) 0 gg fl_X1_19 dX1_writeWhole_19 rfl rfl ?_
        refine z_iload_n (pc := 22) 0 gg dX1_writeWhole_22 rfl rfl ?_
        refine z_grow (pc := 23) 2 i.toNat gg dX1_writeWhole_23 rfl (by omega) (by omega) ?_
        refine z_iload_n (pc := 24) 2 gg dX1_writeWhole_24 rfl rfl ?_
        refine z_iload_n (pc := 25) 0 gg dX1_writeWhole_25 rfl rfl ?_
        refine z_iload_n (pc := 26) 3 gg dX1_writeWhole_26 rfl rfl ?_
        refine z_icmp_ne (pc := 27) 34 gg dX1_writeWhole_27 (by decide) ⟨by omega, by omega⟩ ⟨by omega, by omega⟩ (fun h27 => ?_) (fun h27 => ?_)
        · refine z_iconst (pc := 34) gg dX1_writeWhole_34 ?_
          refine z_iast (pc := 35) (3 + i.toNat) a.toNat [cO 1 t [.ref wo, .ref ma, .int (zI kn), .int (zI bw), .int (zI f1), .int (zI f2)], cI M wo 625 (zU wf a.toNat bw), cG M ma 7 (gr r), cI M (r 0) 625 ((upR m1 i.toNat (zU (m1 i.toNat) a.toNat 0)) 0), cI M (r 1) 625 ((upR m1 i.toNat (zU (m1 i.toNat) a.toNat 0)) 1), cI M (r 2) 625 ((upR m1 i.toNat (zU (m1 i.toNat) a.toNat 0)) 2), cI M (r 3) 625 ((upR m1 i.toNat (zU (m1 i.toNat) a.toNat 0)) 3), cI M (r 4) 625 ((upR m1 i.toNat (zU (m1 i.toNat) a.toNat 0)) 4), cI M (r 5) 625 ((upR m1 i.toNat (zU (m1 i.toNat) a.toNat 0)) 5), cI M (r 6) 625 ((upR m1 i.toNat (zU (m1 i.toNat) a.toNat 0)) 6)] gg dX1_writeWhole_35 (fam_at (m := m1) (by omega)) (by omega) (by omega) (by decide) (fam_set (by omega) _) ?_
          refine z_iinc (pc := 36) 0 [(3, .int (zI (i + 1))), (0, .ref t), (1, .int (zI a)), (2, .int (zI k))] gg dX1_writeWhole_36 rfl (Nat.le_of_ble_eq_true rfl) rfl ?_
          refine z_goto (pc := 39) 12 gg dX1_writeWhole_39 (by decide) ?_
          exact ih12 (i + 1) (upR m1 i.toNat (zU (m1 i.toNat) a.toNat 0)) (by omega) (fun j hj => by
          by_cases e : j = i.toNat
          · rw [e, upR_s, k2 _ (Nat.le_refl _), if_neg (by omega)]
          · rw [upR_n _ _ e]; exact k1 j (by omega)) (fun j hj => by rw [upR_n _ _ (by omega)]; exact k2 j (by omega)) (by omega)
        · refine z_iconst (pc := 30) gg dX1_writeWhole_30 ?_
          refine z_goto (pc := 31) 35 gg dX1_writeWhole_31 (by decide) ?_
          refine z_iast (pc := 35) (3 + i.toNat) a.toNat [cO 1 t [.ref wo, .ref ma, .int (zI kn), .int (zI bw), .int (zI f1), .int (zI f2)], cI M wo 625 (zU wf a.toNat bw), cG M ma 7 (gr r), cI M (r 0) 625 ((upR m1 i.toNat (zU (m1 i.toNat) a.toNat 1)) 0), cI M (r 1) 625 ((upR m1 i.toNat (zU (m1 i.toNat) a.toNat 1)) 1), cI M (r 2) 625 ((upR m1 i.toNat (zU (m1 i.toNat) a.toNat 1)) 2), cI M (r 3) 625 ((upR m1 i.toNat (zU (m1 i.toNat) a.toNat 1)) 3), cI M (r 4) 625 ((upR m1 i.toNat (zU (m1 i.toNat) a.toNat 1)) 4), cI M (r 5) 625 ((upR m1 i.toNat (zU (m1 i.toNat) a.toNat 1)) 5), cI M (r 6) 625 ((upR m1 i.toNat (zU (m1 i.toNat) a.toNat 1)) 6)] gg dX1_writeWhole_35 (fam_at (m := m1) (by omega)) (by omega) (by omega) (by decide) (fam_set (by omega) _) ?_
          refine z_iinc (pc := 36) 0 [(3, .int (zI (i + 1))), (0, .ref t), (1, .int (zI a)), (2, .int (zI k))] gg dX1_writeWhole_36 rfl (Nat.le_of_ble_eq_true rfl) rfl ?_
          refine z_goto (pc := 39) 12 gg dX1_writeWhole_39 (by decide) ?_
          exact ih12 (i + 1) (upR m1 i.toNat (zU (m1 i.toNat) a.toNat 1)) (by omega) (fun j hj => by
          by_cases e : j = i.toNat
          · rw [e, upR_s, k2 _ (Nat.le_refl _), if_pos (by omega)]
          · rw [upR_n _ _ e]; exact k1 j (by omega)) (fun j hj => by rw [upR_n _ _ (by omega)]; exact k2 j (by omega)) (by omega)
  exact loop12 _ 0 m (by omega) (fun j hj => absurd hj (by omega)) (fun j _ => rfl) (Nat.lt_succ_self _)
set_option maxHeartbeats 4000000 in
set_option maxRecDepth 100000 in
theorem c_C_writeCut (M : KM) (t wo ma : Nat) (r : Nat → Nat) (kn bw f1 f2 : Int) (wf : Nat → Int) (m : Nat → Nat → Int) (a : Int) (ha : 0 ≤ a ∧ a < 625) (h1 : 0 ≤ f1 ∧ f1 < 625 ∧ f1 ≠ a) (h2 : 0 ≤ f2 ∧ f2 < 625 ∧ f2 ≠ a) : kCV M yX1_writeCut cX1_writeCut 3 0 0 0 [cO 1 t [.ref wo, .ref ma, .int (zI kn), .int (zI bw), .int (zI f1), .int (zI f2)], cI M wo 625 wf, cG M ma 7 (gr r), cI M (r 0) 625 (m 0), cI M (r 1) 625 (m 1), cI M (r 2) 625 (m 2), cI M (r 3) 625 (m 3), cI M (r 4) 625 (m 4), cI M (r 5) 625 (m 5), cI M (r 6) 625 (m 6)] [.ref t, .int (zI a)] (fun u : Nat → Nat → Int => ∀ i, i < 7 → u i = zU (m i) a.toNat (m i f1.toNat + m i f2.toNat + (if i = 6 then 1 else 0))) (fun u => [cO 1 t [.ref wo, .ref ma, .int (zI kn), .int (zI bw), .int (zI f1), .int (zI f2)], cI M wo 625 (zU wf a.toNat bw), cG M ma 7 (gr r), cI M (r 0) 625 (u 0), cI M (r 1) 625 (u 1), cI M (r 2) 625 (u 2), cI M (r 3) 625 (u 3), cI M (r 4) 625 (u 4), cI M (r 5) 625 (u 5), cI M (r 6) 625 (u 6)]) := by
  refine kCV.of [(0, .ref t), (1, .int (zI a))] (by decide) (Nat.le_of_ble_eq_true rfl) rfl (fun E gg gn hret => ?_)
  refine z_aload_n (pc := 0) 0 gg dX1_writeCut_0 rfl rfl ?_
  refine z_get (pc := 1) 0 gg fl_X1_13 dX1_writeCut_1 rfl rfl ?_
  refine z_iload_n (pc := 4) 1 gg dX1_writeCut_4 rfl rfl ?_
  refine z_aload_n (pc := 5) 0 gg dX1_writeCut_5 rfl rfl ?_
  refine z_get (pc := 6) 0 gg fl_X1_26 dX1_writeCut_6 rfl rfl ?_
  refine z_iast (pc := 9) 1 a.toNat [cO 1 t [.ref wo, .ref ma, .int (zI kn), .int (zI bw), .int (zI f1), .int (zI f2)], cI M wo 625 (zU wf a.toNat bw), cG M ma 7 (gr r), cI M (r 0) 625 (m 0), cI M (r 1) 625 (m 1), cI M (r 2) 625 (m 2), cI M (r 3) 625 (m 3), cI M (r 4) 625 (m 4), cI M (r 5) 625 (m 5), cI M (r 6) 625 (m 6)] gg dX1_writeCut_9 rfl (by omega) (by omega) (by decide) rfl ?_
  refine z_iconst (pc := 10) gg dX1_writeCut_10 ?_
  refine z_istore_n (pc := 11) [(2, .int (zI 0)), (0, .ref t), (1, .int (zI a))] gg dX1_writeCut_11 rfl (Nat.le_of_ble_eq_true rfl) rfl ?_
  have loop12 : ∀ (k12 : Nat) (i : Int) (m1 : Nat → Nat → Int), (0 ≤ i ∧ i ≤ 7) → (∀ j, j < i.toNat → m1 j = zU (m j) a.toNat (m j f1.toNat + m j f2.toNat)) → (∀ j, i.toNat ≤ j → m1 j = m j) → 7 - i.toNat < k12 → kV M E 3 0 0 [cO 1 t [.ref wo, .ref ma, .int (zI kn), .int (zI bw), .int (zI f1), .int (zI f2)], cI M wo 625 (zU wf a.toNat bw), cG M ma 7 (gr r), cI M (r 0) 625 (m1 0), cI M (r 1) 625 (m1 1), cI M (r 2) 625 (m1 2), cI M (r 3) 625 (m1 3), cI M (r 4) 625 (m1 4), cI M (r 5) 625 (m1 5), cI M (r 6) 625 (m1 6)] [(2, .int (zI i)), (0, .ref t), (1, .int (zI a))] 12 [] := by
    intro k12
    induction k12 with
    | zero => intro i m1 hi k1 k2 hm12; exact absurd hm12 (Nat.not_lt_zero _)
    | succ k12 ih12 =>
      intro i m1 hi k1 k2 hm12
      refine z_iload_n (pc := 12) 0 gg dX1_writeCut_12 rfl rfl ?_
      refine z_bipush (pc := 13) gg dX1_writeCut_13 (by decide +kernel) ?_
      refine z_icmp_gt (pc := 15) 55 gg dX1_writeCut_15 (by decide) ⟨by omega, by omega⟩ ⟨by omega, by omega⟩ (fun h15 => ?_) (fun h15 => ?_)
      · refine z_aload_n (pc := 55) 1 gg dX1_writeCut_55 rfl rfl ?_
        refine z_get (pc := 56) 0 gg fl_X1_19 dX1_writeCut_56 rfl rfl ?_
        refine z_bipush (pc := 59) gg dX1_writeCut_59 (by decide +kernel) ?_
        refine z_grow (pc := 61) 2 6 gg dX1_writeCut_61 rfl (by omega) (by omega) ?_
        refine z_iload_n (pc := 62) 2 gg dX1_writeCut_62 rfl rfl ?_
        refine z_dup2 (pc := 63) gg dX1_writeCut_63 rfl rfl ?_
        refine z_iald (pc := 64) (3 + 6) a.toNat gg dX1_writeCut_64 (fam_at (by omega)) (by omega) (by omega) (by decide) ?_
        refine z_iconst (pc := 65) gg dX1_writeCut_65 ?_
        refine z_iadd (pc := 66) gg dX1_writeCut_66 ?_
        refine z_iast (pc := 67) (3 + 6) a.toNat [cO 1 t [.ref wo, .ref ma, .int (zI kn), .int (zI bw), .int (zI f1), .int (zI f2)], cI M wo 625 (zU wf a.toNat bw), cG M ma 7 (gr r), cI M (r 0) 625 ((upR m1 6 (zU (m1 6) a.toNat ((m1 6 a.toNat) + 1))) 0), cI M (r 1) 625 ((upR m1 6 (zU (m1 6) a.toNat ((m1 6 a.toNat) + 1))) 1), cI M (r 2) 625 ((upR m1 6 (zU (m1 6) a.toNat ((m1 6 a.toNat) + 1))) 2), cI M (r 3) 625 ((upR m1 6 (zU (m1 6) a.toNat ((m1 6 a.toNat) + 1))) 3), cI M (r 4) 625 ((upR m1 6 (zU (m1 6) a.toNat ((m1 6 a.toNat) + 1))) 4), cI M (r 5) 625 ((upR m1 6 (zU (m1 6) a.toNat ((m1 6 a.toNat) + 1))) 5), cI M (r 6) 625 ((upR m1 6 (zU (m1 6) a.toNat ((m1 6 a.toNat) + 1))) 6)] gg dX1_writeCut_67 (fam_at (m := m1) (by omega)) (by omega) (by omega) (by decide) (fam_set (by omega) _) ?_
        exact hret (upR m1 6 (zU (m1 6) a.toNat ((m1 6 a.toNat) + 1))) 68 _ _ _ (Nat.le_of_ble_eq_true rfl) (Nat.le_of_ble_eq_true rfl) dX1_writeCut_68 (fun j hj => by
          by_cases e : j = 6
          · rw [e, upR_s, if_pos rfl, k1 6 (by omega)]
            funext x
            unfold zU
            by_cases e2 : x = a.toNat
            · simp [e2]
            · simp [e2]
          · rw [upR_n _ _ e, if_neg e, k1 j (by omega), Int.add_zero])
      · refine z_aload_n (pc := 18) 1 gg dX1_writeCut_18 rfl rfl ?_
        refine z_get (pc := 19) 0 gg fl_X1_19 dX1_writeCut_19 rfl rfl ?_
        refine z_iload_n (pc := 22) 0 gg dX1_writeCut_22 rfl rfl ?_
        refine z_grow (pc := 23) 2 i.toNat gg dX1_writeCut_23 rfl (by omega) (by omega) ?_
        refine z_iload_n (pc := 24) 2 gg dX1_writeCut_24 rfl rfl ?_
        refine z_aload_n (pc := 25) 1 gg dX1_writeCut_25 rfl rfl ?_
        refine z_get (pc := 26) 0 gg fl_X1_19 dX1_writeCut_26 rfl rfl ?_
        refine z_iload_n (pc := 29) 0 gg dX1_writeCut_29 rfl rfl ?_
        refine z_grow (pc := 30) 2 i.toNat gg dX1_writeCut_30 rfl (by omega) (by omega) ?_
        refine z_aload_n (pc := 31) 1 gg dX1_writeCut_31 rfl rfl ?_
        refine z_get (pc := 32) 0 gg fl_X1_30 dX1_writeCut_32 rfl rfl ?_
        refine z_iald (pc := 35) (3 + i.toNat) f1.toNat gg dX1_writeCut_35 (fam_at (by omega)) (by omega) (by omega) (by decide) ?_
        refine z_aload_n (pc := 36) 1 gg dX1_writeCut_36 rfl rfl ?_
        refine z_get (pc := 37) 0 gg fl_X1_19 dX1_writeCut_37 rfl rfl ?_
        refine z_iload_n (pc := 40) 0 gg dX1_writeCut_40 rfl rfl ?_
        refine z_grow (pc := 41) 2 i.toNat gg dX1_writeCut_41 rfl (by omega) (by omega) ?_
        refine z_aload_n (pc := 42) 1 gg dX1_writeCut_42 rfl rfl ?_
        refine z_get (pc := 43) 0 gg fl_X1_33 dX1_writeCut_43 rfl rfl ?_
        refine z_iald (pc := 46) (3 + i.toNat) f2.toNat gg dX1_writeCut_46 (fam_at (by omega)) (by omega) (by omega) (by decide) ?_
        refine z_iadd (pc := 47) gg dX1_writeCut_47 ?_
        refine z_iast (pc := 48) (3 + i.toNat) a.toNat [cO 1 t [.ref wo, .ref ma, .int (zI kn), .int (zI bw), .int (zI f1), .int (zI f2)], cI M wo 625 (zU wf a.toNat bw), cG M ma 7 (gr r), cI M (r 0) 625 ((upR m1 i.toNat (zU (m1 i.toNat) a.toNat ((m1 i.toNat f1.toNat) + (m1 i.toNat f2.toNat)))) 0), cI M (r 1) 625 ((upR m1 i.toNat (zU (m1 i.toNat) a.toNat ((m1 i.toNat f1.toNat) + (m1 i.toNat f2.toNat)))) 1), cI M (r 2) 625 ((upR m1 i.toNat (zU (m1 i.toNat) a.toNat ((m1 i.toNat f1.toNat) + (m1 i.toNat f2.toNat)))) 2), cI M (r 3) 625 ((upR m1 i.toNat (zU (m1 i.toNat) a.toNat ((m1 i.toNat f1.toNat) + (m1 i.toNat f2.toNat)))) 3), cI M (r 4) 625 ((upR m1 i.toNat (zU (m1 i.toNat) a.toNat ((m1 i.toNat f1.toNat) + (m1 i.toNat f2.toNat)))) 4), cI M (r 5) 625 ((upR m1 i.toNat (zU (m1 i.toNat) a.toNat ((m1 i.toNat f1.toNat) + (m1 i.toNat f2.toNat)))) 5), cI M (r 6) 625 ((upR m1 i.toNat (zU (m1 i.toNat) a.toNat ((m1 i.toNat f1.toNat) + (m1 i.toNat f2.toNat)))) 6)] gg dX1_writeCut_48 (fam_at (m := m1) (by omega)) (by omega) (by omega) (by decide) (fam_set (by omega) _) ?_
        refine z_iinc (pc := 49) 0 [(2, .int (zI (i + 1))), (0, .ref t), (1, .int (zI a))] gg dX1_writeCut_49 rfl (Nat.le_of_ble_eq_true rfl) rfl ?_
        refine z_goto (pc := 52) 12 gg dX1_writeCut_52 (by decide) ?_
        exact ih12 (i + 1) (upR m1 i.toNat (zU (m1 i.toNat) a.toNat ((m1 i.toNat f1.toNat) + (m1 i.toNat f2.toNat)))) (by omega) (fun j hj => by
        by_cases e : j = i.toNat
        · rw [e, upR_s, k2 _ (Nat.le_refl _)]
        · rw [upR_n _ _ e]; exact k1 j (by omega)) (fun j hj => by rw [upR_n _ _ (by omega)]; exact k2 j (by omega)) (by omega)
  exact loop12 _ 0 m (by omega) (fun j hj => absurd hj (by omega)) (fun j _ => rfl) (Nat.lt_succ_self _)
set_option maxHeartbeats 4000000 in
set_option maxRecDepth 100000 in
theorem c_C_choose (M : KM) (t wo ma : Nat) (r : Nat → Nat) (kn bw f1 f2 : Int) (wf : Nat → Int) (m : Nat → Nat → Int) (h8 w8 x8 v8 n : Nat) (sw sh sv : Nat → Int) (w h s : Int) (hn : n ≤ 6) (hs : ∀ j, j < 6 → 0 ≤ sw j ∧ sw j ≤ 24 ∧ 0 ≤ sh j ∧ sh j ≤ 24 ∧ 0 ≤ sv j ∧ sv j ≤ 999) (hw : 1 ≤ w ∧ w ≤ 24) (hh : 1 ≤ h ∧ h ≤ 24) (hsw : 0 ≤ s ∧ s ≤ 3) (hB : ∀ x y, 1 ≤ x → x ≤ w.toNat → 1 ≤ y → y ≤ h.toNat → (x < w.toNat ∨ y < h.toNat) → 0 ≤ wf (x * 25 + y) ∧ wf (x * 25 + y) ≤ 600000) : kCV M yX1_choose cX1_choose 7 3 0 0 [cO 1 t [.ref wo, .ref ma, .int (zI kn), .int (zI bw), .int (zI f1), .int (zI f2)], cI M wo 625 wf, cG M ma 7 (gr r), cI M (r 0) 625 (m 0), cI M (r 1) 625 (m 1), cI M (r 2) 625 (m 2), cI M (r 3) 625 (m 3), cI M (r 4) 625 (m 4), cI M (r 5) 625 (m 5), cI M (r 6) 625 (m 6), cO 8 h8 [.int (zI (n : Int)), .ref w8, .ref x8, .ref v8], cI M w8 6 sw, cI M x8 6 sh, cI M v8 6 sv] [.ref t, .int (zI w), .int (zI h), .ref h8, .int (zI s)] (fun u : (Nat → Nat → Int) × Int × Int × Int => ∀ i, i < 7 → u.1 i = zU (m i) (w.toNat * 25 + h.toNat) (cm (m i) i s.toNat w.toNat h.toNat (fin n sw sh sv wf s.toNat w.toNat h.toNat).2)) (fun u => [cO 1 t [.ref wo, .ref ma, .int (zI kn), .int (zI u.2.1), .int (zI u.2.2.1), .int (zI u.2.2.2)], cI M wo 625 (zU wf (w.toNat * 25 + h.toNat) (fin n sw sh sv wf s.toNat w.toNat h.toNat).1), cG M ma 7 (gr r), cI M (r 0) 625 (u.1 0), cI M (r 1) 625 (u.1 1), cI M (r 2) 625 (u.1 2), cI M (r 3) 625 (u.1 3), cI M (r 4) 625 (u.1 4), cI M (r 5) 625 (u.1 5), cI M (r 6) 625 (u.1 6), cO 8 h8 [.int (zI (n : Int)), .ref w8, .ref x8, .ref v8], cI M w8 6 sw, cI M x8 6 sh, cI M v8 6 sv]) := by
  refine kCV.of [(0, .ref t), (1, .int (zI w)), (2, .int (zI h)), (3, .ref h8), (4, .int (zI s))] (by decide) (Nat.le_of_ble_eq_true rfl) rfl (fun E gg gn hret => ?_)
  refine z_aload_n (pc := 0) 3 gg dX1_choose_0 rfl rfl ?_
  refine z_iload_n (pc := 1) 1 gg dX1_choose_1 rfl rfl ?_
  refine z_iload_n (pc := 2) 2 gg dX1_choose_2 rfl rfl ?_
  refine z_callVi (pc := 3) (wr := [cO 1 t [.ref wo, .ref ma, .int (zI kn), .int (zI bw), .int (zI f1), .int (zI f2)], cI M wo 625 wf, cG M ma 7 (gr r), cI M (r 0) 625 (m 0), cI M (r 1) 625 (m 1), cI M (r 2) 625 (m 2), cI M (r 3) 625 (m 3), cI M (r 4) 625 (m 4), cI M (r 5) 625 (m 5), cI M (r 6) 625 (m 6)]) (As := [.int (zI w), .int (zI h)]) (st := []) [10, 11, 12, 13] [0, 1, 2, 3, 4, 5, 6, 7, 8, 9] [0, 1, 2, 3, 4, 5, 6, 7, 8, 9, 10, 11, 12, 13] (fun u => [cO 1 t [.ref wo, .ref ma, .int (zI kn), .int (zI bw), .int (zI f1), .int (zI f2)], cI M wo 625 wf, cG M ma 7 (gr r), cI M (r 0) 625 (m 0), cI M (r 1) 625 (m 1), cI M (r 2) 625 (m 2), cI M (r 3) 625 (m 3), cI M (r 4) 625 (m 4), cI M (r 5) 625 (m 5), cI M (r 6) 625 (m 6), cO 8 h8 [.int (zI (n : Int)), .ref w8, .ref x8, .ref v8], cI M w8 6 sw, cI M x8 6 sh, cI M v8 6 sv]) gg (c_S_dearestIn M h8 w8 x8 v8 n sw sh sv w h (by first | assumption | omega | exact ⟨by omega, by omega⟩) (by first | assumption | omega | exact ⟨by omega, by omega⟩) (by first | assumption | omega | exact ⟨by omega, by omega⟩) (by first | assumption | omega | exact ⟨by omega, by omega⟩)) yv_8_dearestIn ml_X1_48 dX1_choose_3 (by decide) (Nat.le_of_ble_eq_true rfl) (Nat.le_of_ble_eq_true rfl) (Nat.le_of_ble_eq_true rfl) rfl rfl rfl rfl (by decide) rfl (fun _ => rfl) rfl rfl rfl (fun z3 u3 hz3 => ?_)
  refine z_top (fun k h_k => ?_)
  have hk0 := dI_lo sw sh sv w h n
  have hkb : -1 ≤ k ∧ k < n := by omega
  refine z_istore (pc := 6) [(5, .int (zI k)), (0, .ref t), (1, .int (zI w)), (2, .int (zI h)), (3, .ref h8), (4, .int (zI s))] gg dX1_choose_6 (Nat.le_of_ble_eq_true rfl) rfl ?_
  refine z_aload_n (pc := 8) 1 gg dX1_choose_8 rfl rfl ?_
  refine z_aload_n (pc := 9) 4 gg dX1_choose_9 rfl rfl ?_
  refine z_iload (pc := 10) 0 gg dX1_choose_10 rfl ?_
  refine z_callVi (pc := 12) (wr := [cO 1 t [.ref wo, .ref ma, .int (zI kn), .int (zI bw), .int (zI f1), .int (zI f2)], cI M wo 625 wf, cG M ma 7 (gr r), cI M (r 0) 625 (m 0), cI M (r 1) 625 (m 1), cI M (r 2) 625 (m 2), cI M (r 3) 625 (m 3), cI M (r 4) 625 (m 4), cI M (r 5) 625 (m 5), cI M (r 6) 625 (m 6)]) (As := [.int (zI k)]) (st := [.ref t]) [10, 11, 12, 13] [0, 1, 2, 3, 4, 5, 6, 7, 8, 9] [0, 1, 2, 3, 4, 5, 6, 7, 8, 9, 10, 11, 12, 13] (fun u => [cO 1 t [.ref wo, .ref ma, .int (zI kn), .int (zI bw), .int (zI f1), .int (zI f2)], cI M wo 625 wf, cG M ma 7 (gr r), cI M (r 0) 625 (m 0), cI M (r 1) 625 (m 1), cI M (r 2) 625 (m 2), cI M (r 3) 625 (m 3), cI M (r 4) 625 (m 4), cI M (r 5) 625 (m 5), cI M (r 6) 625 (m 6), cO 8 h8 [.int (zI (n : Int)), .ref w8, .ref x8, .ref v8], cI M w8 6 sw, cI M x8 6 sh, cI M v8 6 sv]) gg (c_S_worthOf M h8 w8 x8 v8 n sw sh sv k (by first | assumption | omega | exact ⟨by omega, by omega⟩) hkb) yv_8_worthOf ml_X1_51 dX1_choose_12 (by decide) (Nat.le_of_ble_eq_true rfl) (Nat.le_of_ble_eq_true rfl) (Nat.le_of_ble_eq_true rfl) rfl rfl rfl rfl (by decide) rfl (fun _ => rfl) rfl rfl rfl (fun z12 u12 hz12 => ?_)
  refine z_put (pc := 15) 0 [cO 1 t [.ref wo, .ref ma, .int (zI kn), .int (zI z12), .int (zI f1), .int (zI f2)], cI M wo 625 wf, cG M ma 7 (gr r), cI M (r 0) 625 (m 0), cI M (r 1) 625 (m 1), cI M (r 2) 625 (m 2), cI M (r 3) 625 (m 3), cI M (r 4) 625 (m 4), cI M (r 5) 625 (m 5), cI M (r 6) 625 (m 6), cO 8 h8 [.int (zI (n : Int)), .ref w8, .ref x8, .ref v8], cI M w8 6 sw, cI M x8 6 sh, cI M v8 6 sv] gg fp_X1_26 dX1_choose_15 rfl rfl rfl (Nat.le_of_ble_eq_true rfl) rfl ?_
  refine z_aload_n (pc := 18) 1 gg dX1_choose_18 rfl rfl ?_
  refine z_iconst (pc := 19) gg dX1_choose_19 ?_
  refine z_put (pc := 20) 0 [cO 1 t [.ref wo, .ref ma, .int (zI kn), .int (zI z12), .int (zI (-1)), .int (zI f2)], cI M wo 625 wf, cG M ma 7 (gr r), cI M (r 0) 625 (m 0), cI M (r 1) 625 (m 1), cI M (r 2) 625 (m 2), cI M (r 3) 625 (m 3), cI M (r 4) 625 (m 4), cI M (r 5) 625 (m 5), cI M (r 6) 625 (m 6), cO 8 h8 [.int (zI (n : Int)), .ref w8, .ref x8, .ref v8], cI M w8 6 sw, cI M x8 6 sh, cI M v8 6 sv] gg fp_X1_30 dX1_choose_20 rfl rfl rfl (Nat.le_of_ble_eq_true rfl) rfl ?_
  refine z_aload_n (pc := 23) 1 gg dX1_choose_23 rfl rfl ?_
  refine z_iconst (pc := 24) gg dX1_choose_24 ?_
  refine z_put (pc := 25) 0 [cO 1 t [.ref wo, .ref ma, .int (zI kn), .int (zI z12), .int (zI (-1)), .int (zI (-1))], cI M wo 625 wf, cG M ma 7 (gr r), cI M (r 0) 625 (m 0), cI M (r 1) 625 (m 1), cI M (r 2) 625 (m 2), cI M (r 3) 625 (m 3), cI M (r 4) 625 (m 4), cI M (r 5) 625 (m 5), cI M (r 6) 625 (m 6), cO 8 h8 [.int (zI (n : Int)), .ref w8, .ref x8, .ref v8], cI M w8 6 sw, cI M x8 6 sh, cI M v8 6 sv] gg fp_X1_33 dX1_choose_25 rfl rfl rfl (Nat.le_of_ble_eq_true rfl) rfl ?_
  refine z_iconst (pc := 28) gg dX1_choose_28 ?_
  refine z_istore (pc := 29) [(6, .int (zI 1)), (5, .int (zI k)), (0, .ref t), (1, .int (zI w)), (2, .int (zI h)), (3, .ref h8), (4, .int (zI s))] gg dX1_choose_29 (Nat.le_of_ble_eq_true rfl) rfl ?_
  have loop31 : ∀ (k31 : Nat) (i b g1 g2 : Int), (1 ≤ i ∧ (i = 1 ∨ i + s ≤ w)) → (b = (upS n sw sh sv wf s.toNat w.toNat h.toNat (i.toNat - 1)).1) → (rlY s w h (upS n sw sh sv wf s.toNat w.toNat h.toNat (i.toNat - 1)).2 g1 g2) → w.toNat - i.toNat < k31 → kV M E 7 0 0 [cO 1 t [.ref wo, .ref ma, .int (zI kn), .int (zI b), .int (zI g1), .int (zI g2)], cI M wo 625 wf, cG M ma 7 (gr r), cI M (r 0) 625 (m 0), cI M (r 1) 625 (m 1), cI M (r 2) 625 (m 2), cI M (r 3) 625 (m 3), cI M (r 4) 625 (m 4), cI M (r 5) 625 (m 5), cI M (r 6) 625 (m 6), cO 8 h8 [.int (zI (n : Int)), .ref w8, .ref x8, .ref v8], cI M w8 6 sw, cI M x8 6 sh, cI M v8 6 sv] [(6, .int (zI i)), (5, .int (zI k)), (0, .ref t), (1, .int (zI w)), (2, .int (zI h)), (3, .ref h8), (4, .int (zI s))] 31 [] := by
    intro k31
    induction k31 with
    | zero => intro i b g1 g2 hi hb hr hm31; exact absurd hm31 (Nat.not_lt_zero _)
    | succ k31 ih31 =>
      intro i b g1 g2 hi hb hr hm31
      have hbb := up_b (n := n) (sw := sw) (sh := sh) (sv := sv) (wf := wf) (saw := s.toNat) (w := w.toNat) (h := h.toNat) (k := i.toNat - 1) (B := 600000) (by omega) (fun j hj => ⟨(hs j (by omega)).2.2.2.2.1, (hs j (by omega)).2.2.2.2.2⟩) hB (by omega) (by omega)
      rw [← hb] at hbb
      refine z_iload (pc := 31) 0 gg dX1_choose_31 rfl ?_
      refine z_iload (pc := 33) 6 gg dX1_choose_33 rfl ?_
      refine z_iadd (pc := 35) gg dX1_choose_35 ?_
      refine z_iload_n (pc := 36) 3 gg dX1_choose_36 rfl rfl ?_
      refine z_icmp_ge (pc := 37) 67 gg dX1_choose_37 (by decide) ⟨by omega, by omega⟩ ⟨by omega, by omega⟩ (fun h37 => ?_) (fun h37 => ?_)
      · refine z_iconst (pc := 67) gg dX1_choose_67 ?_
        refine z_istore (pc := 68) [(6, .int (zI 1)), (5, .int (zI k)), (0, .ref t), (1, .int (zI w)), (2, .int (zI h)), (3, .ref h8), (4, .int (zI s))] gg dX1_choose_68 (Nat.le_of_ble_eq_true rfl) rfl ?_
        have loop70 : ∀ (k70 : Nat) (i b g1 g2 : Int), (1 ≤ i ∧ (i = 1 ∨ i + s ≤ h)) → (b = (lvS n sw sh sv wf s.toNat w.toNat h.toNat (i.toNat - 1)).1) → (rlY s w h (lvS n sw sh sv wf s.toNat w.toNat h.toNat (i.toNat - 1)).2 g1 g2) → h.toNat - i.toNat < k70 → kV M E 7 0 0 [cO 1 t [.ref wo, .ref ma, .int (zI kn), .int (zI b), .int (zI g1), .int (zI g2)], cI M wo 625 wf, cG M ma 7 (gr r), cI M (r 0) 625 (m 0), cI M (r 1) 625 (m 1), cI M (r 2) 625 (m 2), cI M (r 3) 625 (m 3), cI M (r 4) 625 (m 4), cI M (r 5) 625 (m 5), cI M (r 6) 625 (m 6), cO 8 h8 [.int (zI (n : Int)), .ref w8, .ref x8, .ref v8], cI M w8 6 sw, cI M x8 6 sh, cI M v8 6 sv] [(6, .int (zI i)), (5, .int (zI k)), (0, .ref t), (1, .int (zI w)), (2, .int (zI h)), (3, .ref h8), (4, .int (zI s))] 70 [] := by
          intro k70
          induction k70 with
          | zero => intro i b g1 g2 hi hb hr hm70; exact absurd hm70 (Nat.not_lt_zero _)
          | succ k70 ih70 =>
            intro i b g1 g2 hi hb hr hm70
            have hbb := lv_b (n := n) (sw := sw) (sh := sh) (sv := sv) (wf := wf) (saw := s.toNat) (w := w.toNat) (h := h.toNat) (k := i.toNat - 1) (B := 600000) (by omega) (fun j hj => ⟨(hs j (by omega)).2.2.2.2.1, (hs j (by omega)).2.2.2.2.2⟩) hB (by omega) (by omega) (by omega)
            rw [← hb] at hbb
            refine z_iload (pc := 70) 0 gg dX1_choose_70 rfl ?_
            refine z_iload (pc := 72) 6 gg dX1_choose_72 rfl ?_
            refine z_iadd (pc := 74) gg dX1_choose_74 ?_
            refine z_iload_n (pc := 75) 4 gg dX1_choose_75 rfl rfl ?_
            refine z_icmp_ge (pc := 76) 106 gg dX1_choose_76 (by decide) ⟨by omega, by omega⟩ ⟨by omega, by omega⟩ (fun h76 => ?_) (fun h76 => ?_)
            · rw [show i.toNat - 1 = h.toNat - s.toNat - 1 by omega] at hb hr
              have hbF : b = (fin n sw sh sv wf s.toNat w.toNat h.toNat).1 := hb
              have hr : rlY s w h (fin n sw sh sv wf s.toNat w.toNat h.toNat).2 g1 g2 := hr
              have eW : (w * 25 + h).toNat = (w.toNat * 25 + h.toNat) := by omega
              have hr2 := hr
              unfold rlY at hr2
              refine z_aload_n (pc := 106) 2 gg dX1_choose_106 rfl rfl ?_
              refine z_get (pc := 107) 0 gg fl_X1_30 dX1_choose_107 rfl rfl ?_
              refine z_callS (pc := 110) (As := [.int (zI g1)]) (st := []) gg (c_C_isPlace M g1 (by first | assumption | omega | exact ⟨by omega, by omega⟩)) ys_1_isPlace ml_X1_59 dX1_choose_110 (by decide) (Nat.le_of_ble_eq_true rfl) (Nat.le_of_ble_eq_true rfl) (Nat.le_of_ble_eq_true rfl) rfl rfl (fun z110 u110 hz110 => ?_)
              refine z_if_eq (pc := 113) 138 gg dX1_choose_113 (by decide) ⟨by omega, by omega⟩ (fun h113 => ?_) (fun h113 => ?_)
              · refine z_aload_n (pc := 138) 2 gg dX1_choose_138 rfl rfl ?_
                refine z_iload_n (pc := 139) 3 gg dX1_choose_139 rfl rfl ?_
                refine z_iload_n (pc := 140) 4 gg dX1_choose_140 rfl rfl ?_
                refine z_callS (pc := 141) (As := [.int (zI w), .int (zI h)]) (st := [.ref t]) gg (c_C_place M w h ) ys_1_place ml_X1_44 dX1_choose_141 (by decide) (Nat.le_of_ble_eq_true rfl) (Nat.le_of_ble_eq_true rfl) (Nat.le_of_ble_eq_true rfl) rfl rfl (fun z141 u141 hz141 => ?_)
                subst hz141
                refine z_iload (pc := 144) 1 gg dX1_choose_144 rfl ?_
                refine z_callVv (pc := 146) (wr := [cO 8 h8 [.int (zI (n : Int)), .ref w8, .ref x8, .ref v8], cI M w8 6 sw, cI M x8 6 sh, cI M v8 6 sv]) (As := [.int (zI (w * 25 + h)), .int (zI k)]) (st := []) [0, 1, 2, 3, 4, 5, 6, 7, 8, 9] [10, 11, 12, 13] [4, 5, 6, 7, 8, 9, 10, 11, 12, 13, 0, 1, 2, 3] (fun u => [cO 1 t [.ref wo, .ref ma, .int (zI kn), .int (zI b), .int (zI g1), .int (zI g2)], cI M wo 625 (zU wf (w * 25 + h).toNat b), cG M ma 7 (gr r), cI M (r 0) 625 (u 0), cI M (r 1) 625 (u 1), cI M (r 2) 625 (u 2), cI M (r 3) 625 (u 3), cI M (r 4) 625 (u 4), cI M (r 5) 625 (u 5), cI M (r 6) 625 (u 6), cO 8 h8 [.int (zI (n : Int)), .ref w8, .ref x8, .ref v8], cI M w8 6 sw, cI M x8 6 sh, cI M v8 6 sv]) gg (c_C_writeWhole M t wo ma r kn b g1 g2 wf m (w * 25 + h) k (by first | assumption | omega | exact ⟨by omega, by omega⟩) (by first | assumption | omega | exact ⟨by omega, by omega⟩)) yv_1_writeWhole ml_X1_67 dX1_choose_146 (by decide) (Nat.le_of_ble_eq_true rfl) (Nat.le_of_ble_eq_true rfl) (Nat.le_of_ble_eq_true rfl) rfl rfl rfl rfl (by decide) rfl (fun _ => rfl) rfl rfl rfl (fun u146 hz146 => ?_)
                refine z_fun 1 (zU wf (w.toNat * 25 + h.toNat) (fin n sw sh sv wf s.toNat w.toNat h.toNat).1) [cO 1 t [.ref wo, .ref ma, .int (zI kn), .int (zI b), .int (zI g1), .int (zI g2)], cI M wo 625 (zU wf (w.toNat * 25 + h.toNat) (fin n sw sh sv wf s.toNat w.toNat h.toNat).1), cG M ma 7 (gr r), cI M (r 0) 625 (u146 0), cI M (r 1) 625 (u146 1), cI M (r 2) 625 (u146 2), cI M (r 3) 625 (u146 3), cI M (r 4) 625 (u146 4), cI M (r 5) 625 (u146 5), cI M (r 6) 625 (u146 6), cO 8 h8 [.int (zI (n : Int)), .ref w8, .ref x8, .ref v8], cI M w8 6 sw, cI M x8 6 sh, cI M v8 6 sv] rfl (fun j _ => by rw [eW, hbF]) rfl ?_
                exact hret (u146, b, g1, g2) 149 _ _ _ (Nat.le_of_ble_eq_true rfl) (Nat.le_of_ble_eq_true rfl) dX1_choose_149 (fun j hj => (hz146 j hj).trans (by rw [cm_whole hj (by omega), eW, show ((w.toNat : Int)) = w by omega, show ((h.toNat : Int)) = h by omega, h_k, hz3]))
              · refine z_aload_n (pc := 116) 2 gg dX1_choose_116 rfl rfl ?_
                refine z_get (pc := 117) 0 gg fl_X1_33 dX1_choose_117 rfl rfl ?_
                refine z_callS (pc := 120) (As := [.int (zI g2)]) (st := []) gg (c_C_isPlace M g2 (by first | assumption | omega | exact ⟨by omega, by omega⟩)) ys_1_isPlace ml_X1_59 dX1_choose_120 (by decide) (Nat.le_of_ble_eq_true rfl) (Nat.le_of_ble_eq_true rfl) (Nat.le_of_ble_eq_true rfl) rfl rfl (fun z120 u120 hz120 => ?_)
                refine z_if_eq (pc := 123) 138 gg dX1_choose_123 (by decide) ⟨by omega, by omega⟩ (fun h123 => ?_) (fun h123 => ?_)
                · exfalso; omega
                · refine z_aload_n (pc := 126) 2 gg dX1_choose_126 rfl rfl ?_
                  refine z_iload_n (pc := 127) 3 gg dX1_choose_127 rfl rfl ?_
                  refine z_iload_n (pc := 128) 4 gg dX1_choose_128 rfl rfl ?_
                  refine z_callS (pc := 129) (As := [.int (zI w), .int (zI h)]) (st := [.ref t]) gg (c_C_place M w h ) ys_1_place ml_X1_44 dX1_choose_129 (by decide) (Nat.le_of_ble_eq_true rfl) (Nat.le_of_ble_eq_true rfl) (Nat.le_of_ble_eq_true rfl) rfl rfl (fun z129 u129 hz129 => ?_)
                  subst hz129
                  refine z_callVv (pc := 132) (wr := [cO 8 h8 [.int (zI (n : Int)), .ref w8, .ref x8, .ref v8], cI M w8 6 sw, cI M x8 6 sh, cI M v8 6 sv]) (As := [.int (zI (w * 25 + h))]) (st := []) [0, 1, 2, 3, 4, 5, 6, 7, 8, 9] [10, 11, 12, 13] [4, 5, 6, 7, 8, 9, 10, 11, 12, 13, 0, 1, 2, 3] (fun u => [cO 1 t [.ref wo, .ref ma, .int (zI kn), .int (zI b), .int (zI g1), .int (zI g2)], cI M wo 625 (zU wf (w * 25 + h).toNat b), cG M ma 7 (gr r), cI M (r 0) 625 (u 0), cI M (r 1) 625 (u 1), cI M (r 2) 625 (u 2), cI M (r 3) 625 (u 3), cI M (r 4) 625 (u 4), cI M (r 5) 625 (u 5), cI M (r 6) 625 (u 6), cO 8 h8 [.int (zI (n : Int)), .ref w8, .ref x8, .ref v8], cI M w8 6 sw, cI M x8 6 sh, cI M v8 6 sv]) gg (c_C_writeCut M t wo ma r kn b g1 g2 wf m (w * 25 + h) (by first | assumption | omega | exact ⟨by omega, by omega⟩) (by first | assumption | omega | exact ⟨by omega, by omega⟩) (by first | assumption | omega | exact ⟨by omega, by omega⟩)) yv_1_writeCut ml_X1_63 dX1_choose_132 (by decide) (Nat.le_of_ble_eq_true rfl) (Nat.le_of_ble_eq_true rfl) (Nat.le_of_ble_eq_true rfl) rfl rfl rfl rfl (by decide) rfl (fun _ => rfl) rfl rfl rfl (fun u132 hz132 => ?_)
                  refine z_goto (pc := 135) 149 gg dX1_choose_135 (by decide) ?_
                  refine z_fun 1 (zU wf (w.toNat * 25 + h.toNat) (fin n sw sh sv wf s.toNat w.toNat h.toNat).1) [cO 1 t [.ref wo, .ref ma, .int (zI kn), .int (zI b), .int (zI g1), .int (zI g2)], cI M wo 625 (zU wf (w.toNat * 25 + h.toNat) (fin n sw sh sv wf s.toNat w.toNat h.toNat).1), cG M ma 7 (gr r), cI M (r 0) 625 (u132 0), cI M (r 1) 625 (u132 1), cI M (r 2) 625 (u132 2), cI M (r 3) 625 (u132 3), cI M (r 4) 625 (u132 4), cI M (r 5) 625 (u132 5), cI M (r 6) 625 (u132 6), cO 8 h8 [.int (zI (n : Int)), .ref w8, .ref x8, .ref v8], cI M w8 6 sw, cI M x8 6 sh, cI M v8 6 sv] rfl (fun j _ => by rw [eW, hbF]) rfl ?_
                  exact hret (u132, b, g1, g2) 149 _ _ _ (Nat.le_of_ble_eq_true rfl) (Nat.le_of_ble_eq_true rfl) dX1_choose_149 (fun j hj => (hz132 j hj).trans (by rw [cm_rel hr (by omega) hw hh (by omega), eW]))
            · have e1 : (w * 25 + i).toNat = w.toNat * 25 + i.toNat := by omega
              have e2 : (w * 25 + (h - s - i)).toNat = w.toNat * 25 + (h.toNat - s.toNat - i.toNat) := by omega
              have b1 := hB w.toNat i.toNat (by omega) (Nat.le_refl _) (by omega) (by omega) (Or.inr (by omega))
              have b2 := hB w.toNat (h.toNat - s.toNat - i.toNat) (by omega) (Nat.le_refl _) (by omega) (by omega) (Or.inr (by omega))
              rw [← e1] at b1
              rw [← e2] at b2
              have eg : gL wf s.toNat w.toNat h.toNat i.toNat = wf (w * 25 + i).toNat + wf (w * 25 + (h - s - i)).toNat := by rw [e1, e2]; rfl
              refine z_aload_n (pc := 79) 2 gg dX1_choose_79 rfl rfl ?_
              refine z_iload_n (pc := 80) 3 gg dX1_choose_80 rfl rfl ?_
              refine z_iload (pc := 81) 0 gg dX1_choose_81 rfl ?_
              refine z_callS (pc := 83) (As := [.int (zI w), .int (zI i)]) (st := [.ref t]) gg (c_C_place M w i ) ys_1_place ml_X1_44 dX1_choose_83 (by decide) (Nat.le_of_ble_eq_true rfl) (Nat.le_of_ble_eq_true rfl) (Nat.le_of_ble_eq_true rfl) rfl rfl (fun z83 u83 hz83 => ?_)
              subst hz83
              refine z_iload_n (pc := 86) 3 gg dX1_choose_86 rfl rfl ?_
              refine z_iload_n (pc := 87) 4 gg dX1_choose_87 rfl rfl ?_
              refine z_iload (pc := 88) 6 gg dX1_choose_88 rfl ?_
              refine z_isub (pc := 90) gg dX1_choose_90 ?_
              refine z_iload (pc := 91) 0 gg dX1_choose_91 rfl ?_
              refine z_isub (pc := 93) gg dX1_choose_93 ?_
              refine z_callS (pc := 94) (As := [.int (zI w), .int (zI ((h - s) - i))]) (st := [.int (zI (w * 25 + i)), .ref t]) gg (c_C_place M w ((h - s) - i) ) ys_1_place ml_X1_44 dX1_choose_94 (by decide) (Nat.le_of_ble_eq_true rfl) (Nat.le_of_ble_eq_true rfl) (Nat.le_of_ble_eq_true rfl) rfl rfl (fun z94 u94 hz94 => ?_)
              subst hz94
              by_cases hc : b < wf (w * 25 + i).toNat + wf (w * 25 + (h - s - i)).toNat
              · refine z_callVv (pc := 97) (wr := [cO 8 h8 [.int (zI (n : Int)), .ref w8, .ref x8, .ref v8], cI M w8 6 sw, cI M x8 6 sh, cI M v8 6 sv]) (As := [.int (zI (w * 25 + i)), .int (zI (w * 25 + (h - s - i)))]) (st := []) [0, 1, 2, 3, 4, 5, 6, 7, 8, 9] [10, 11, 12, 13] [4, 5, 6, 7, 8, 9, 10, 11, 12, 13, 0, 1, 2, 3] (fun u => [cO 1 t [.ref wo, .ref ma, .int (zI kn), .int (zI (wf (w * 25 + i).toNat + wf (w * 25 + (h - s - i)).toNat)), .int (zI (w * 25 + i)), .int (zI (w * 25 + (h - s - i)))], cI M wo 625 wf, cG M ma 7 (gr r), cI M (r 0) 625 (m 0), cI M (r 1) 625 (m 1), cI M (r 2) 625 (m 2), cI M (r 3) 625 (m 3), cI M (r 4) 625 (m 4), cI M (r 5) 625 (m 5), cI M (r 6) 625 (m 6), cO 8 h8 [.int (zI (n : Int)), .ref w8, .ref x8, .ref v8], cI M w8 6 sw, cI M x8 6 sh, cI M v8 6 sv]) gg (c_C_tryCut_yes M t wo ma r kn b g1 g2 wf m (w * 25 + i) (w * 25 + (h - s - i)) (by first | assumption | omega | exact ⟨by omega, by omega⟩) (by first | assumption | omega | exact ⟨by omega, by omega⟩) (by first | assumption | omega | exact ⟨by omega, by omega⟩) (by first | assumption | omega | exact ⟨by omega, by omega⟩) (by omega)) yv_1_tryCut ml_X1_55 dX1_choose_97 (by decide) (Nat.le_of_ble_eq_true rfl) (Nat.le_of_ble_eq_true rfl) (Nat.le_of_ble_eq_true rfl) rfl rfl rfl rfl (by decide) rfl (fun _ => rfl) rfl rfl rfl (fun u97 hz97 => ?_)
                refine z_iinc (pc := 100) 0 [(6, .int (zI (i + 1))), (5, .int (zI k)), (0, .ref t), (1, .int (zI w)), (2, .int (zI h)), (3, .ref h8), (4, .int (zI s))] gg dX1_choose_100 rfl (Nat.le_of_ble_eq_true rfl) rfl ?_
                refine z_goto (pc := 103) 70 gg dX1_choose_103 (by decide) ?_
                exact ih70 (i + 1) (wf (w * 25 + i).toNat + wf (w * 25 + (h - s - i)).toNat) (w * 25 + i) (w * 25 + (h - s - i)) (by omega) (by rw [lv_yes (by omega) hb (by rw [eg]; exact hc), eg]) (by rw [lv_yes (by omega) hb (by rw [eg]; exact hc)]; exact Or.inr (Or.inr ⟨by omega, by omega, by omega, by omega⟩)) (by omega)
              · refine z_callVv (pc := 97) (wr := [cO 8 h8 [.int (zI (n : Int)), .ref w8, .ref x8, .ref v8], cI M w8 6 sw, cI M x8 6 sh, cI M v8 6 sv]) (As := [.int (zI (w * 25 + i)), .int (zI (w * 25 + (h - s - i)))]) (st := []) [0, 1, 2, 3, 4, 5, 6, 7, 8, 9] [10, 11, 12, 13] [4, 5, 6, 7, 8, 9, 10, 11, 12, 13, 0, 1, 2, 3] (fun u => [cO 1 t [.ref wo, .ref ma, .int (zI kn), .int (zI b), .int (zI g1), .int (zI g2)], cI M wo 625 wf, cG M ma 7 (gr r), cI M (r 0) 625 (m 0), cI M (r 1) 625 (m 1), cI M (r 2) 625 (m 2), cI M (r 3) 625 (m 3), cI M (r 4) 625 (m 4), cI M (r 5) 625 (m 5), cI M (r 6) 625 (m 6), cO 8 h8 [.int (zI (n : Int)), .ref w8, .ref x8, .ref v8], cI M w8 6 sw, cI M x8 6 sh, cI M v8 6 sv]) gg (c_C_tryCut_no M t wo ma r kn b g1 g2 wf m (w * 25 + i) (w * 25 + (h - s - i)) (by first | assumption | omega | exact ⟨by omega, by omega⟩) (by first | assumption | omega | exact ⟨by omega, by omega⟩) (by first | assumption | omega | exact ⟨by omega, by omega⟩) (by first | assumption | omega | exact ⟨by omega, by omega⟩) (by omega)) yv_1_tryCut ml_X1_55 dX1_choose_97 (by decide) (Nat.le_of_ble_eq_true rfl) (Nat.le_of_ble_eq_true rfl) (Nat.le_of_ble_eq_true rfl) rfl rfl rfl rfl (by decide) rfl (fun _ => rfl) rfl rfl rfl (fun u97 hz97 => ?_)
                refine z_iinc (pc := 100) 0 [(6, .int (zI (i + 1))), (5, .int (zI k)), (0, .ref t), (1, .int (zI w)), (2, .int (zI h)), (3, .ref h8), (4, .int (zI s))] gg dX1_choose_100 rfl (Nat.le_of_ble_eq_true rfl) rfl ?_
                refine z_goto (pc := 103) 70 gg dX1_choose_103 (by decide) ?_
                exact ih70 (i + 1) b g1 g2 (by omega) (by rw [lv_no (by omega) hb (by rw [eg]; exact hc)]; exact hb) (by rw [lv_no (by omega) hb (by rw [eg]; exact hc)]; exact hr) (by omega)
        exact loop70 _ 1 b g1 g2 (by omega) (by rw [hb, show i.toNat - 1 = w.toNat - s.toNat - 1 by omega]; rfl) (by rw [show i.toNat - 1 = w.toNat - s.toNat - 1 by omega] at hr; exact hr) (Nat.lt_succ_self _)
      · have e1 : (i * 25 + h).toNat = i.toNat * 25 + h.toNat := by omega
        have e2 : ((w - s - i) * 25 + h).toNat = (w.toNat - s.toNat - i.toNat) * 25 + h.toNat := by omega
        have b1 := hB i.toNat h.toNat (by omega) (by omega) (by omega) (Nat.le_refl _) (Or.inl (by omega))
        have b2 := hB (w.toNat - s.toNat - i.toNat) h.toNat (by omega) (by omega) (by omega) (Nat.le_refl _) (Or.inl (by omega))
        rw [← e1] at b1
        rw [← e2] at b2
        have eg : gU wf s.toNat w.toNat h.toNat i.toNat = wf (i * 25 + h).toNat + wf ((w - s - i) * 25 + h).toNat := by rw [e1, e2]; rfl
        refine z_aload_n (pc := 40) 2 gg dX1_choose_40 rfl rfl ?_
        refine z_iload (pc := 41) 0 gg dX1_choose_41 rfl ?_
        refine z_iload_n (pc := 43) 4 gg dX1_choose_43 rfl rfl ?_
        refine z_callS (pc := 44) (As := [.int (zI i), .int (zI h)]) (st := [.ref t]) gg (c_C_place M i h ) ys_1_place ml_X1_44 dX1_choose_44 (by decide) (Nat.le_of_ble_eq_true rfl) (Nat.le_of_ble_eq_true rfl) (Nat.le_of_ble_eq_true rfl) rfl rfl (fun z44 u44 hz44 => ?_)
        subst hz44
        refine z_iload_n (pc := 47) 3 gg dX1_choose_47 rfl rfl ?_
        refine z_iload (pc := 48) 6 gg dX1_choose_48 rfl ?_
        refine z_isub (pc := 50) gg dX1_choose_50 ?_
        refine z_iload (pc := 51) 0 gg dX1_choose_51 rfl ?_
        refine z_isub (pc := 53) gg dX1_choose_53 ?_
        refine z_iload_n (pc := 54) 4 gg dX1_choose_54 rfl rfl ?_
        refine z_callS (pc := 55) (As := [.int (zI ((w - s) - i)), .int (zI h)]) (st := [.int (zI (i * 25 + h)), .ref t]) gg (c_C_place M ((w - s) - i) h ) ys_1_place ml_X1_44 dX1_choose_55 (by decide) (Nat.le_of_ble_eq_true rfl) (Nat.le_of_ble_eq_true rfl) (Nat.le_of_ble_eq_true rfl) rfl rfl (fun z55 u55 hz55 => ?_)
        subst hz55
        by_cases hc : b < wf (i * 25 + h).toNat + wf ((w - s - i) * 25 + h).toNat
        · refine z_callVv (pc := 58) (wr := [cO 8 h8 [.int (zI (n : Int)), .ref w8, .ref x8, .ref v8], cI M w8 6 sw, cI M x8 6 sh, cI M v8 6 sv]) (As := [.int (zI (i * 25 + h)), .int (zI ((w - s - i) * 25 + h))]) (st := []) [0, 1, 2, 3, 4, 5, 6, 7, 8, 9] [10, 11, 12, 13] [4, 5, 6, 7, 8, 9, 10, 11, 12, 13, 0, 1, 2, 3] (fun u => [cO 1 t [.ref wo, .ref ma, .int (zI kn), .int (zI (wf (i * 25 + h).toNat + wf ((w - s - i) * 25 + h).toNat)), .int (zI (i * 25 + h)), .int (zI ((w - s - i) * 25 + h))], cI M wo 625 wf, cG M ma 7 (gr r), cI M (r 0) 625 (m 0), cI M (r 1) 625 (m 1), cI M (r 2) 625 (m 2), cI M (r 3) 625 (m 3), cI M (r 4) 625 (m 4), cI M (r 5) 625 (m 5), cI M (r 6) 625 (m 6), cO 8 h8 [.int (zI (n : Int)), .ref w8, .ref x8, .ref v8], cI M w8 6 sw, cI M x8 6 sh, cI M v8 6 sv]) gg (c_C_tryCut_yes M t wo ma r kn b g1 g2 wf m (i * 25 + h) ((w - s - i) * 25 + h) (by first | assumption | omega | exact ⟨by omega, by omega⟩) (by first | assumption | omega | exact ⟨by omega, by omega⟩) (by first | assumption | omega | exact ⟨by omega, by omega⟩) (by first | assumption | omega | exact ⟨by omega, by omega⟩) (by omega)) yv_1_tryCut ml_X1_55 dX1_choose_58 (by decide) (Nat.le_of_ble_eq_true rfl) (Nat.le_of_ble_eq_true rfl) (Nat.le_of_ble_eq_true rfl) rfl rfl rfl rfl (by decide) rfl (fun _ => rfl) rfl rfl rfl (fun u58 hz58 => ?_)
          refine z_iinc (pc := 61) 0 [(6, .int (zI (i + 1))), (5, .int (zI k)), (0, .ref t), (1, .int (zI w)), (2, .int (zI h)), (3, .ref h8), (4, .int (zI s))] gg dX1_choose_61 rfl (Nat.le_of_ble_eq_true rfl) rfl ?_
          refine z_goto (pc := 64) 31 gg dX1_choose_64 (by decide) ?_
          exact ih31 (i + 1) (wf (i * 25 + h).toNat + wf ((w - s - i) * 25 + h).toNat) (i * 25 + h) ((w - s - i) * 25 + h) (by omega) (by rw [up_yes (by omega) hb (by rw [eg]; exact hc), eg]) (by rw [up_yes (by omega) hb (by rw [eg]; exact hc)]; exact Or.inr (Or.inl ⟨by omega, by omega, by omega, by omega⟩)) (by omega)
        · refine z_callVv (pc := 58) (wr := [cO 8 h8 [.int (zI (n : Int)), .ref w8, .ref x8, .ref v8], cI M w8 6 sw, cI M x8 6 sh, cI M v8 6 sv]) (As := [.int (zI (i * 25 + h)), .int (zI ((w - s - i) * 25 + h))]) (st := []) [0, 1, 2, 3, 4, 5, 6, 7, 8, 9] [10, 11, 12, 13] [4, 5, 6, 7, 8, 9, 10, 11, 12, 13, 0, 1, 2, 3] (fun u => [cO 1 t [.ref wo, .ref ma, .int (zI kn), .int (zI b), .int (zI g1), .int (zI g2)], cI M wo 625 wf, cG M ma 7 (gr r), cI M (r 0) 625 (m 0), cI M (r 1) 625 (m 1), cI M (r 2) 625 (m 2), cI M (r 3) 625 (m 3), cI M (r 4) 625 (m 4), cI M (r 5) 625 (m 5), cI M (r 6) 625 (m 6), cO 8 h8 [.int (zI (n : Int)), .ref w8, .ref x8, .ref v8], cI M w8 6 sw, cI M x8 6 sh, cI M v8 6 sv]) gg (c_C_tryCut_no M t wo ma r kn b g1 g2 wf m (i * 25 + h) ((w - s - i) * 25 + h) (by first | assumption | omega | exact ⟨by omega, by omega⟩) (by first | assumption | omega | exact ⟨by omega, by omega⟩) (by first | assumption | omega | exact ⟨by omega, by omega⟩) (by first | assumption | omega | exact ⟨by omega, by omega⟩) (by omega)) yv_1_tryCut ml_X1_55 dX1_choose_58 (by decide) (Nat.le_of_ble_eq_true rfl) (Nat.le_of_ble_eq_true rfl) (Nat.le_of_ble_eq_true rfl) rfl rfl rfl rfl (by decide) rfl (fun _ => rfl) rfl rfl rfl (fun u58 hz58 => ?_)
          refine z_iinc (pc := 61) 0 [(6, .int (zI (i + 1))), (5, .int (zI k)), (0, .ref t), (1, .int (zI w)), (2, .int (zI h)), (3, .ref h8), (4, .int (zI s))] gg dX1_choose_61 rfl (Nat.le_of_ble_eq_true rfl) rfl ?_
          refine z_goto (pc := 64) 31 gg dX1_choose_64 (by decide) ?_
          exact ih31 (i + 1) b g1 g2 (by omega) (by rw [up_no (by omega) hb (by rw [eg]; exact hc)]; exact hb) (by rw [up_no (by omega) hb (by rw [eg]; exact hc)]; exact hr) (by omega)
  exact loop31 _ 1 z12 (-1) (-1) (by omega) (by rw [hz12, h_k, hz3]; show _ = dW sv (dI sw sh sv (w.toNat : Int) (h.toNat : Int) n); rw [show (w.toNat : Int) = w by omega, show (h.toNat : Int) = h by omega]) rlY_0 (Nat.lt_succ_self _)
set_option maxHeartbeats 4000000 in
set_option maxRecDepth 100000 in
theorem c_C_prep_1 (M : KM) (t wo ma : Nat) (r : Nat → Nat) (kn bw f1 f2 : Int) (wf : Nat → Int) (m : Nat → Nat → Int) (h8 : Nat) (s : Int) (hk : kn = 1) : kCV M yX1_prepare cX1_prepare 5 0 0 0 [cO 1 t [.ref wo, .ref ma, .int (zI kn), .int (zI bw), .int (zI f1), .int (zI f2)], cI M wo 625 wf, cG M ma 7 (gr r), cI M (r 0) 625 (m 0), cI M (r 1) 625 (m 1), cI M (r 2) 625 (m 2), cI M (r 3) 625 (m 3), cI M (r 4) 625 (m 4), cI M (r 5) 625 (m 5), cI M (r 6) 625 (m 6)] [.ref t, .ref h8, .int (zI s)] (fun u : Unit => True) (fun u => [cO 1 t [.ref wo, .ref ma, .int (zI kn), .int (zI bw), .int (zI f1), .int (zI f2)], cI M wo 625 wf, cG M ma 7 (gr r), cI M (r 0) 625 (m 0), cI M (r 1) 625 (m 1), cI M (r 2) 625 (m 2), cI M (r 3) 625 (m 3), cI M (r 4) 625 (m 4), cI M (r 5) 625 (m 5), cI M (r 6) 625 (m 6)]) := by
  refine kCV.of [(0, .ref t), (1, .ref h8), (2, .int (zI s))] (by decide) (Nat.le_of_ble_eq_true rfl) rfl (fun E gg gn hret => ?_)
  refine z_aload_n (pc := 0) 0 gg dX1_prepare_0 rfl rfl ?_
  refine z_get (pc := 1) 0 gg fl_X1_22 dX1_prepare_1 rfl rfl ?_
  refine z_if_eq (pc := 4) 8 gg dX1_prepare_4 (by decide) ⟨by omega, by omega⟩ (fun h4 => ?_) (fun h4 => ?_)
  · exfalso; omega
  · exact hret () 7 _ _ _ (Nat.le_of_ble_eq_true rfl) (Nat.le_of_ble_eq_true rfl) dX1_prepare_7 trivial
set_option maxHeartbeats 4000000 in
set_option maxRecDepth 100000 in
theorem c_C_prep_0 (M : KM) (t wo ma : Nat) (r : Nat → Nat) (kn bw f1 f2 : Int) (wf : Nat → Int) (m : Nat → Nat → Int) (h8 w8 x8 v8 n : Nat) (sw sh sv : Nat → Int) (s : Int) (hn : n ≤ 6) (hs : ∀ j, j < 6 → 0 ≤ sw j ∧ sw j ≤ 24 ∧ 0 ≤ sh j ∧ sh j ≤ 24 ∧ 0 ≤ sv j ∧ sv j ≤ 999) (hsw : 0 ≤ s ∧ s ≤ 3) (hk : kn = 0) : kCV M yX1_prepare cX1_prepare 5 4 0 0 [cO 1 t [.ref wo, .ref ma, .int (zI kn), .int (zI bw), .int (zI f1), .int (zI f2)], cI M wo 625 wf, cG M ma 7 (gr r), cI M (r 0) 625 (m 0), cI M (r 1) 625 (m 1), cI M (r 2) 625 (m 2), cI M (r 3) 625 (m 3), cI M (r 4) 625 (m 4), cI M (r 5) 625 (m 5), cI M (r 6) 625 (m 6), cO 8 h8 [.int (zI (n : Int)), .ref w8, .ref x8, .ref v8], cI M w8 6 sw, cI M x8 6 sh, cI M v8 6 sv] [.ref t, .ref h8, .int (zI s)] (fun u : (Nat → Int) × (Nat → Nat → Int) × Int × Int × Int => tOK n sw sh sv s.toNat u.1 u.2.1 25 1) (fun u => [cO 1 t [.ref wo, .ref ma, .int (zI 1), .int (zI u.2.2.1), .int (zI u.2.2.2.1), .int (zI u.2.2.2.2)], cI M wo 625 u.1, cG M ma 7 (gr r), cI M (r 0) 625 (u.2.1 0), cI M (r 1) 625 (u.2.1 1), cI M (r 2) 625 (u.2.1 2), cI M (r 3) 625 (u.2.1 3), cI M (r 4) 625 (u.2.1 4), cI M (r 5) 625 (u.2.1 5), cI M (r 6) 625 (u.2.1 6), cO 8 h8 [.int (zI (n : Int)), .ref w8, .ref x8, .ref v8], cI M w8 6 sw, cI M x8 6 sh, cI M v8 6 sv]) := by
  refine kCV.of [(0, .ref t), (1, .ref h8), (2, .int (zI s))] (by decide) (Nat.le_of_ble_eq_true rfl) rfl (fun E gg gn hret => ?_)
  refine z_aload_n (pc := 0) 0 gg dX1_prepare_0 rfl rfl ?_
  refine z_get (pc := 1) 0 gg fl_X1_22 dX1_prepare_1 rfl rfl ?_
  refine z_if_eq (pc := 4) 8 gg dX1_prepare_4 (by decide) ⟨by omega, by omega⟩ (fun h4 => ?_) (fun h4 => ?_)
  · refine z_iconst (pc := 8) gg dX1_prepare_8 ?_
    refine z_istore_n (pc := 9) [(3, .int (zI 1)), (0, .ref t), (1, .ref h8), (2, .int (zI s))] gg dX1_prepare_9 rfl (Nat.le_of_ble_eq_true rfl) rfl ?_
    have loop10 : ∀ (k10 : Nat) (x b g1 g2 : Int) (wf1 : Nat → Int) (m1 : Nat → Nat → Int), (1 ≤ x ∧ x ≤ 25) → (tOK n sw sh sv s.toNat wf1 m1 x.toNat 1) → 25 - x.toNat < k10 → kV M E 5 0 0 [cO 1 t [.ref wo, .ref ma, .int (zI kn), .int (zI b), .int (zI g1), .int (zI g2)], cI M wo 625 wf1, cG M ma 7 (gr r), cI M (r 0) 625 (m1 0), cI M (r 1) 625 (m1 1), cI M (r 2) 625 (m1 2), cI M (r 3) 625 (m1 3), cI M (r 4) 625 (m1 4), cI M (r 5) 625 (m1 5), cI M (r 6) 625 (m1 6), cO 8 h8 [.int (zI (n : Int)), .ref w8, .ref x8, .ref v8], cI M w8 6 sw, cI M x8 6 sh, cI M v8 6 sv] [(3, .int (zI x)), (0, .ref t), (1, .ref h8), (2, .int (zI s))] 10 [] := by
      intro k10
      induction k10 with
      | zero => intro x b g1 g2 wf1 m1 hx ht0 hm10; exact absurd hm10 (Nat.not_lt_zero _)
      | succ k10 ih10 =>
        intro x b g1 g2 wf1 m1 hx ht0 hm10
        refine z_iload_n (pc := 10) 0 gg dX1_prepare_10 rfl rfl ?_
        refine z_bipush (pc := 11) gg dX1_prepare_11 (by decide +kernel) ?_
        refine z_icmp_ge (pc := 13) 47 gg dX1_prepare_13 (by decide) ⟨by omega, by omega⟩ ⟨by omega, by omega⟩ (fun h13 => ?_) (fun h13 => ?_)
        · refine z_aload_n (pc := 47) 1 gg dX1_prepare_47 rfl rfl ?_
          refine z_iconst (pc := 48) gg dX1_prepare_48 ?_
          refine z_put (pc := 49) 0 [cO 1 t [.ref wo, .ref ma, .int (zI 1), .int (zI b), .int (zI g1), .int (zI g2)], cI M wo 625 wf1, cG M ma 7 (gr r), cI M (r 0) 625 (m1 0), cI M (r 1) 625 (m1 1), cI M (r 2) 625 (m1 2), cI M (r 3) 625 (m1 3), cI M (r 4) 625 (m1 4), cI M (r 5) 625 (m1 5), cI M (r 6) 625 (m1 6), cO 8 h8 [.int (zI (n : Int)), .ref w8, .ref x8, .ref v8], cI M w8 6 sw, cI M x8 6 sh, cI M v8 6 sv] gg fp_X1_22 dX1_prepare_49 rfl (zB01 (by omega)) rfl (Nat.le_of_ble_eq_true rfl) rfl ?_
          exact hret (wf1, m1, b, g1, g2) 52 _ _ _ (Nat.le_of_ble_eq_true rfl) (Nat.le_of_ble_eq_true rfl) dX1_prepare_52 (by rw [show x.toNat = 25 by omega] at ht0; exact ht0)
        · refine z_iconst (pc := 16) gg dX1_prepare_16 ?_
          refine z_istore (pc := 17) [(4, .int (zI 1)), (3, .int (zI x)), (0, .ref t), (1, .ref h8), (2, .int (zI s))] gg dX1_prepare_17 (Nat.le_of_ble_eq_true rfl) rfl ?_
          have loop19 : ∀ (k19 : Nat) (y b g1 g2 : Int) (wf1 : Nat → Int) (m1 : Nat → Nat → Int), (1 ≤ y ∧ y ≤ 25) → (tOK n sw sh sv s.toNat wf1 m1 x.toNat y.toNat) → 25 - y.toNat < k19 → kV M E 5 0 0 [cO 1 t [.ref wo, .ref ma, .int (zI kn), .int (zI b), .int (zI g1), .int (zI g2)], cI M wo 625 wf1, cG M ma 7 (gr r), cI M (r 0) 625 (m1 0), cI M (r 1) 625 (m1 1), cI M (r 2) 625 (m1 2), cI M (r 3) 625 (m1 3), cI M (r 4) 625 (m1 4), cI M (r 5) 625 (m1 5), cI M (r 6) 625 (m1 6), cO 8 h8 [.int (zI (n : Int)), .ref w8, .ref x8, .ref v8], cI M w8 6 sw, cI M x8 6 sh, cI M v8 6 sv] [(4, .int (zI y)), (3, .int (zI x)), (0, .ref t), (1, .ref h8), (2, .int (zI s))] 19 [] := by
            intro k19
            induction k19 with
            | zero => intro y b g1 g2 wf1 m1 hy ht hm19; exact absurd hm19 (Nat.not_lt_zero _)
            | succ k19 ih19 =>
              intro y b g1 g2 wf1 m1 hy ht hm19
              refine z_iload (pc := 19) 0 gg dX1_prepare_19 rfl ?_
              refine z_bipush (pc := 21) gg dX1_prepare_21 (by decide +kernel) ?_
              refine z_icmp_ge (pc := 23) 41 gg dX1_prepare_23 (by decide) ⟨by omega, by omega⟩ ⟨by omega, by omega⟩ (fun h23 => ?_) (fun h23 => ?_)
              · refine z_iinc (pc := 41) 1 [(3, .int (zI (x + 1))), (4, .int (zI y)), (0, .ref t), (1, .ref h8), (2, .int (zI s))] gg dX1_prepare_41 rfl (Nat.le_of_ble_eq_true rfl) rfl ?_
                refine z_goto (pc := 44) 10 gg dX1_prepare_44 (by decide) ?_
                refine z_lv [(3, .int (zI (x + 1))), (0, .ref t), (1, .ref h8), (2, .int (zI s))] [0, 2, 3, 4] rfl ?_
                exact ih10 (x + 1) b g1 g2 wf1 m1 (by omega) (by rw [show (x + 1).toNat = x.toNat + 1 by omega]; rw [show y.toNat = 25 by omega] at ht; exact tOK_row ht) (by omega)
              · refine z_aload_n (pc := 26) 2 gg dX1_prepare_26 rfl rfl ?_
                refine z_iload_n (pc := 27) 1 gg dX1_prepare_27 rfl rfl ?_
                refine z_iload (pc := 28) 0 gg dX1_prepare_28 rfl ?_
                refine z_aload_n (pc := 30) 3 gg dX1_prepare_30 rfl rfl ?_
                refine z_iload_n (pc := 31) 4 gg dX1_prepare_31 rfl rfl ?_
                refine z_callWv (pc := 32) (As := [.int (zI x), .int (zI y), .ref h8, .int (zI s)]) (st := []) gg (c_C_choose M t wo ma r kn b g1 g2 wf1 m1 h8 w8 x8 v8 n sw sh sv x y s (by first | assumption | omega | exact ⟨by omega, by omega⟩) hs (by first | assumption | omega | exact ⟨by omega, by omega⟩) (by first | assumption | omega | exact ⟨by omega, by omega⟩) (by first | assumption | omega | exact ⟨by omega, by omega⟩) (tOK_600 ht (by omega) (by omega))) yv_1_choose ml_X1_36 dX1_prepare_32 (by decide) (Nat.le_of_ble_eq_true rfl) (Nat.le_of_ble_eq_true rfl) (Nat.le_of_ble_eq_true rfl) rfl rfl rfl (fun u32 hz32 => ?_)
                refine z_iinc (pc := 35) 0 [(4, .int (zI (y + 1))), (3, .int (zI x)), (0, .ref t), (1, .ref h8), (2, .int (zI s))] gg dX1_prepare_35 rfl (Nat.le_of_ble_eq_true rfl) rfl ?_
                refine z_goto (pc := 38) 19 gg dX1_prepare_38 (by decide) ?_
                exact ih19 (y + 1) u32.2.1 u32.2.2.1 u32.2.2.2 (zU wf1 (x.toNat * 25 + y.toNat) (fin n sw sh sv wf1 s.toNat x.toNat y.toNat).1) u32.1 (by omega) (by rw [show (y + 1).toNat = y.toNat + 1 by omega]; exact tOK_step ht (fun j hj => ⟨(hs j (by omega)).2.2.2.2.1, (hs j (by omega)).2.2.2.2.2⟩) (by omega) (by omega) hz32) (by omega)
          exact loop19 _ 1 b g1 g2 wf1 m1 (by omega) ht0 (Nat.lt_succ_self _)
    exact loop10 _ 1 bw f1 f2 wf m (by omega) tOK_0 (Nat.lt_succ_self _)
  · exfalso; omega
