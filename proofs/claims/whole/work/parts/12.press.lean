set_option maxHeartbeats 4000000 in
set_option maxRecDepth 100000 in
theorem c_D_isState (M : KM) (s : Int) (hs : zR s) : kCI M yX2_isState cX2_isState 1 .boolean 0 0 0 [] [.int (zI s)] (fun z (u : Unit) => (z = 1 ∧ 0 ≤ s ∧ s < 8) ∨ (z = 0 ∧ (s < 0 ∨ 8 ≤ s))) (fun u => []) := by
  refine kCI.of [(0, .int (zI s))] (by decide) (Nat.le_of_ble_eq_true rfl) rfl (fun E gg hret => ?_)
  have r1_hs := hs.1
  have r2_hs := hs.2
  refine z_iload_n (pc := 0) 0 gg dX2_isState_0 rfl rfl ?_
  refine z_if_lt (pc := 1) 14 gg dX2_isState_1 (by decide) ⟨by omega, by omega⟩ (fun h1 => ?_) (fun h1 => ?_)
  · refine z_iconst (pc := 14) gg dX2_isState_14 ?_
    exact hret 0 () 15 _ _ _ (Nat.le_of_ble_eq_true rfl) (Nat.le_of_ble_eq_true rfl) dX2_isState_15 (zB01 (by omega)) (by omega)
  · refine z_iload_n (pc := 4) 0 gg dX2_isState_4 rfl rfl ?_
    refine z_bipush (pc := 5) gg dX2_isState_5 (by decide +kernel) ?_
    refine z_icmp_ge (pc := 7) 14 gg dX2_isState_7 (by decide) ⟨by omega, by omega⟩ ⟨by omega, by omega⟩ (fun h7 => ?_) (fun h7 => ?_)
    · refine z_iconst (pc := 14) gg dX2_isState_14 ?_
      exact hret 0 () 15 _ _ _ (Nat.le_of_ble_eq_true rfl) (Nat.le_of_ble_eq_true rfl) dX2_isState_15 (zB01 (by omega)) (by omega)
    · refine z_iconst (pc := 10) gg dX2_isState_10 ?_
      refine z_goto (pc := 11) 15 gg dX2_isState_11 (by decide) ?_
      exact hret 1 () 15 _ _ _ (Nat.le_of_ble_eq_true rfl) (Nat.le_of_ble_eq_true rfl) dX2_isState_15 (zB01 (by omega)) (by omega)
set_option maxHeartbeats 4000000 in
set_option maxRecDepth 100000 in
theorem c_D_isEvent (M : KM) (s : Int) (hs : zR s) : kCI M yX2_isEvent cX2_isEvent 1 .boolean 0 0 0 [] [.int (zI s)] (fun z (u : Unit) => (z = 1 ∧ 0 ≤ s ∧ s < 4) ∨ (z = 0 ∧ (s < 0 ∨ 4 ≤ s))) (fun u => []) := by
  refine kCI.of [(0, .int (zI s))] (by decide) (Nat.le_of_ble_eq_true rfl) rfl (fun E gg hret => ?_)
  have r1_hs := hs.1
  have r2_hs := hs.2
  refine z_iload_n (pc := 0) 0 gg dX2_isEvent_0 rfl rfl ?_
  refine z_if_lt (pc := 1) 13 gg dX2_isEvent_1 (by decide) ⟨by omega, by omega⟩ (fun h1 => ?_) (fun h1 => ?_)
  · refine z_iconst (pc := 13) gg dX2_isEvent_13 ?_
    exact hret 0 () 14 _ _ _ (Nat.le_of_ble_eq_true rfl) (Nat.le_of_ble_eq_true rfl) dX2_isEvent_14 (zB01 (by omega)) (by omega)
  · refine z_iload_n (pc := 4) 0 gg dX2_isEvent_4 rfl rfl ?_
    refine z_iconst (pc := 5) gg dX2_isEvent_5 ?_
    refine z_icmp_ge (pc := 6) 13 gg dX2_isEvent_6 (by decide) ⟨by omega, by omega⟩ ⟨by omega, by omega⟩ (fun h6 => ?_) (fun h6 => ?_)
    · refine z_iconst (pc := 13) gg dX2_isEvent_13 ?_
      exact hret 0 () 14 _ _ _ (Nat.le_of_ble_eq_true rfl) (Nat.le_of_ble_eq_true rfl) dX2_isEvent_14 (zB01 (by omega)) (by omega)
    · refine z_iconst (pc := 9) gg dX2_isEvent_9 ?_
      refine z_goto (pc := 10) 14 gg dX2_isEvent_10 (by decide) ?_
      exact hret 1 () 14 _ _ _ (Nat.le_of_ble_eq_true rfl) (Nat.le_of_ble_eq_true rfl) dX2_isEvent_14 (zB01 (by omega)) (by omega)
set_option maxHeartbeats 4000000 in
set_option maxRecDepth 100000 in
theorem c_D_lead_ok (M : KM) (h l0 f0 w0 : Nat) (dl df dw : Nat → Int) (s e t : Int) (hs : 0 ≤ s ∧ s < 8) (he : 0 ≤ e ∧ e < 4) (ht : 0 ≤ t ∧ t < 8) : kCI M yX2_lead cX2_lead 4 .boolean 1 0 0 [cO 2 h [.ref l0, .ref f0, .ref w0], cI M l0 32 dl, cZ M f0 8 df, cZ M w0 8 dw] [.ref h, .int (zI s), .int (zI e), .int (zI t)] (fun z (u : Unit) => z = 1) (fun u => [cO 2 h [.ref l0, .ref f0, .ref w0], cI M l0 32 (zU dl (s.toNat * 4 + e.toNat) t), cZ M f0 8 df, cZ M w0 8 dw]) := by
  refine kCI.of [(0, .ref h), (1, .int (zI s)), (2, .int (zI e)), (3, .int (zI t))] (by decide) (Nat.le_of_ble_eq_true rfl) rfl (fun E gg hret => ?_)
  refine z_iload_n (pc := 0) 1 gg dX2_lead_0 rfl rfl ?_
  refine z_callS (pc := 1) (As := [.int (zI s)]) (st := []) gg (c_D_isState M s (by first | assumption | omega | exact ⟨by omega, by omega⟩)) ys_2_isState ml_X2_22 dX2_lead_1 (by decide) (Nat.le_of_ble_eq_true rfl) (Nat.le_of_ble_eq_true rfl) (Nat.le_of_ble_eq_true rfl) rfl rfl (fun z1 u1 hz1 => ?_)
  refine z_if_eq (pc := 4) 21 gg dX2_lead_4 (by decide) ⟨by omega, by omega⟩ (fun h4 => ?_) (fun h4 => ?_)
  · exfalso; omega
  · refine z_iload_n (pc := 7) 2 gg dX2_lead_7 rfl rfl ?_
    refine z_callS (pc := 8) (As := [.int (zI e)]) (st := []) gg (c_D_isEvent M e (by first | assumption | omega | exact ⟨by omega, by omega⟩)) ys_2_isEvent ml_X2_26 dX2_lead_8 (by decide) (Nat.le_of_ble_eq_true rfl) (Nat.le_of_ble_eq_true rfl) (Nat.le_of_ble_eq_true rfl) rfl rfl (fun z8 u8 hz8 => ?_)
    refine z_if_eq (pc := 11) 21 gg dX2_lead_11 (by decide) ⟨by omega, by omega⟩ (fun h11 => ?_) (fun h11 => ?_)
    · exfalso; omega
    · refine z_iload_n (pc := 14) 3 gg dX2_lead_14 rfl rfl ?_
      refine z_callS (pc := 15) (As := [.int (zI t)]) (st := []) gg (c_D_isState M t (by first | assumption | omega | exact ⟨by omega, by omega⟩)) ys_2_isState ml_X2_22 dX2_lead_15 (by decide) (Nat.le_of_ble_eq_true rfl) (Nat.le_of_ble_eq_true rfl) (Nat.le_of_ble_eq_true rfl) rfl rfl (fun z15 u15 hz15 => ?_)
      refine z_if_ne (pc := 18) 23 gg dX2_lead_18 (by decide) ⟨by omega, by omega⟩ (fun h18 => ?_) (fun h18 => ?_)
      · refine z_aload_n (pc := 23) 0 gg dX2_lead_23 rfl rfl ?_
        refine z_get (pc := 24) 0 gg fl_X2_11 dX2_lead_24 rfl rfl ?_
        refine z_iload_n (pc := 27) 1 gg dX2_lead_27 rfl rfl ?_
        refine z_iconst (pc := 28) gg dX2_lead_28 ?_
        refine z_imul (pc := 29) gg dX2_lead_29 ?_
        refine z_iload_n (pc := 30) 2 gg dX2_lead_30 rfl rfl ?_
        refine z_iadd (pc := 31) gg dX2_lead_31 ?_
        refine z_iload_n (pc := 32) 3 gg dX2_lead_32 rfl rfl ?_
        refine z_iast (pc := 33) 1 ((s.toNat * 4) + e.toNat) [cO 2 h [.ref l0, .ref f0, .ref w0], cI M l0 32 (zU dl ((s.toNat * 4) + e.toNat) t), cZ M f0 8 df, cZ M w0 8 dw] gg dX2_lead_33 rfl (by omega) (by omega) (by decide) rfl ?_
        refine z_iconst (pc := 34) gg dX2_lead_34 ?_
        exact hret 1 () 35 _ _ _ (Nat.le_of_ble_eq_true rfl) (Nat.le_of_ble_eq_true rfl) dX2_lead_35 (zB01 (by omega)) (by omega)
      · exfalso; omega
set_option maxHeartbeats 4000000 in
set_option maxRecDepth 100000 in
theorem c_D_lead_no (M : KM) (h l0 f0 w0 : Nat) (dl df dw : Nat → Int) (s e t : Int) (hs : zR s) (he : zR e) (ht : zR t) (hc : s < 0 ∨ 8 ≤ s ∨ e < 0 ∨ 4 ≤ e ∨ t < 0 ∨ 8 ≤ t) : kCI M yX2_lead cX2_lead 4 .boolean 1 0 0 [cO 2 h [.ref l0, .ref f0, .ref w0], cI M l0 32 dl, cZ M f0 8 df, cZ M w0 8 dw] [.ref h, .int (zI s), .int (zI e), .int (zI t)] (fun z (u : Unit) => z = 0) (fun u => [cO 2 h [.ref l0, .ref f0, .ref w0], cI M l0 32 dl, cZ M f0 8 df, cZ M w0 8 dw]) := by
  refine kCI.of [(0, .ref h), (1, .int (zI s)), (2, .int (zI e)), (3, .int (zI t))] (by decide) (Nat.le_of_ble_eq_true rfl) rfl (fun E gg hret => ?_)
  have r1_hs := hs.1
  have r2_hs := hs.2
  have r1_he := he.1
  have r2_he := he.2
  have r1_ht := ht.1
  have r2_ht := ht.2
  refine z_iload_n (pc := 0) 1 gg dX2_lead_0 rfl rfl ?_
  refine z_callS (pc := 1) (As := [.int (zI s)]) (st := []) gg (c_D_isState M s (by first | assumption | omega | exact ⟨by omega, by omega⟩)) ys_2_isState ml_X2_22 dX2_lead_1 (by decide) (Nat.le_of_ble_eq_true rfl) (Nat.le_of_ble_eq_true rfl) (Nat.le_of_ble_eq_true rfl) rfl rfl (fun z1 u1 hz1 => ?_)
  refine z_if_eq (pc := 4) 21 gg dX2_lead_4 (by decide) ⟨by omega, by omega⟩ (fun h4 => ?_) (fun h4 => ?_)
  · refine z_iconst (pc := 21) gg dX2_lead_21 ?_
    exact hret 0 () 22 _ _ _ (Nat.le_of_ble_eq_true rfl) (Nat.le_of_ble_eq_true rfl) dX2_lead_22 (zB01 (by omega)) (by omega)
  · refine z_iload_n (pc := 7) 2 gg dX2_lead_7 rfl rfl ?_
    refine z_callS (pc := 8) (As := [.int (zI e)]) (st := []) gg (c_D_isEvent M e (by first | assumption | omega | exact ⟨by omega, by omega⟩)) ys_2_isEvent ml_X2_26 dX2_lead_8 (by decide) (Nat.le_of_ble_eq_true rfl) (Nat.le_of_ble_eq_true rfl) (Nat.le_of_ble_eq_true rfl) rfl rfl (fun z8 u8 hz8 => ?_)
    refine z_if_eq (pc := 11) 21 gg dX2_lead_11 (by decide) ⟨by omega, by omega⟩ (fun h11 => ?_) (fun h11 => ?_)
    · refine z_iconst (pc := 21) gg dX2_lead_21 ?_
      exact hret 0 () 22 _ _ _ (Nat.le_of_ble_eq_true rfl) (Nat.le_of_ble_eq_true rfl) dX2_lead_22 (zB01 (by omega)) (by omega)
    · refine z_iload_n (pc := 14) 3 gg dX2_lead_14 rfl rfl ?_
      refine z_callS (pc := 15) (As := [.int (zI t)]) (st := []) gg (c_D_isState M t (by first | assumption | omega | exact ⟨by omega, by omega⟩)) ys_2_isState ml_X2_22 dX2_lead_15 (by decide) (Nat.le_of_ble_eq_true rfl) (Nat.le_of_ble_eq_true rfl) (Nat.le_of_ble_eq_true rfl) rfl rfl (fun z15 u15 hz15 => ?_)
      refine z_if_ne (pc := 18) 23 gg dX2_lead_18 (by decide) ⟨by omega, by omega⟩ (fun h18 => ?_) (fun h18 => ?_)
      · exfalso; omega
      · refine z_iconst (pc := 21) gg dX2_lead_21 ?_
        exact hret 0 () 22 _ _ _ (Nat.le_of_ble_eq_true rfl) (Nat.le_of_ble_eq_true rfl) dX2_lead_22 (zB01 (by omega)) (by omega)
set_option maxHeartbeats 4000000 in
set_option maxRecDepth 100000 in
theorem c_D_equip_ok (M : KM) (h l0 f0 w0 : Nat) (dl df dw : Nat → Int) (s x y : Int) (hs : 0 ≤ s ∧ s < 8) (hx : x = 0 ∨ x = 1) (hy : y = 0 ∨ y = 1) : kCI M yX2_equip cX2_equip 4 .boolean 1 0 0 [cO 2 h [.ref l0, .ref f0, .ref w0], cI M l0 32 dl, cZ M f0 8 df, cZ M w0 8 dw] [.ref h, .int (zI s), .int (zI x), .int (zI y)] (fun z (u : Unit) => z = 1) (fun u => [cO 2 h [.ref l0, .ref f0, .ref w0], cI M l0 32 dl, cZ M f0 8 (zU df s.toNat x), cZ M w0 8 (zU dw s.toNat y)]) := by
  refine kCI.of [(0, .ref h), (1, .int (zI s)), (2, .int (zI x)), (3, .int (zI y))] (by decide) (Nat.le_of_ble_eq_true rfl) rfl (fun E gg hret => ?_)
  refine z_iload_n (pc := 0) 1 gg dX2_equip_0 rfl rfl ?_
  refine z_callS (pc := 1) (As := [.int (zI s)]) (st := []) gg (c_D_isState M s (by first | assumption | omega | exact ⟨by omega, by omega⟩)) ys_2_isState ml_X2_22 dX2_equip_1 (by decide) (Nat.le_of_ble_eq_true rfl) (Nat.le_of_ble_eq_true rfl) (Nat.le_of_ble_eq_true rfl) rfl rfl (fun z1 u1 hz1 => ?_)
  refine z_if_ne (pc := 4) 9 gg dX2_equip_4 (by decide) ⟨by omega, by omega⟩ (fun h4 => ?_) (fun h4 => ?_)
  · refine z_aload_n (pc := 9) 0 gg dX2_equip_9 rfl rfl ?_
    refine z_get (pc := 10) 0 gg fl_X2_15 dX2_equip_10 rfl rfl ?_
    refine z_iload_n (pc := 13) 1 gg dX2_equip_13 rfl rfl ?_
    refine z_iload_n (pc := 14) 2 gg dX2_equip_14 rfl rfl ?_
    refine z_zast (pc := 15) 2 s.toNat [cO 2 h [.ref l0, .ref f0, .ref w0], cI M l0 32 dl, cZ M f0 8 (zU df s.toNat x), cZ M w0 8 dw] gg dX2_equip_15 rfl (by omega) (by omega) (by decide) (by omega) rfl ?_
    refine z_aload_n (pc := 16) 0 gg dX2_equip_16 rfl rfl ?_
    refine z_get (pc := 17) 0 gg fl_X2_19 dX2_equip_17 rfl rfl ?_
    refine z_iload_n (pc := 20) 1 gg dX2_equip_20 rfl rfl ?_
    refine z_iload_n (pc := 21) 3 gg dX2_equip_21 rfl rfl ?_
    refine z_zast (pc := 22) 3 s.toNat [cO 2 h [.ref l0, .ref f0, .ref w0], cI M l0 32 dl, cZ M f0 8 (zU df s.toNat x), cZ M w0 8 (zU dw s.toNat y)] gg dX2_equip_22 rfl (by omega) (by omega) (by decide) (by omega) rfl ?_
    refine z_iconst (pc := 23) gg dX2_equip_23 ?_
    exact hret 1 () 24 _ _ _ (Nat.le_of_ble_eq_true rfl) (Nat.le_of_ble_eq_true rfl) dX2_equip_24 (zB01 (by omega)) (by omega)
  · exfalso; omega
set_option maxHeartbeats 4000000 in
set_option maxRecDepth 100000 in
theorem c_D_equip_no (M : KM) (h l0 f0 w0 : Nat) (dl df dw : Nat → Int) (s x y : Int) (hs : zR s) (hc : s < 0 ∨ 8 ≤ s) : kCI M yX2_equip cX2_equip 4 .boolean 1 0 0 [cO 2 h [.ref l0, .ref f0, .ref w0], cI M l0 32 dl, cZ M f0 8 df, cZ M w0 8 dw] [.ref h, .int (zI s), .int (zI x), .int (zI y)] (fun z (u : Unit) => z = 0) (fun u => [cO 2 h [.ref l0, .ref f0, .ref w0], cI M l0 32 dl, cZ M f0 8 df, cZ M w0 8 dw]) := by
  refine kCI.of [(0, .ref h), (1, .int (zI s)), (2, .int (zI x)), (3, .int (zI y))] (by decide) (Nat.le_of_ble_eq_true rfl) rfl (fun E gg hret => ?_)
  have r1_hs := hs.1
  have r2_hs := hs.2
  refine z_iload_n (pc := 0) 1 gg dX2_equip_0 rfl rfl ?_
  refine z_callS (pc := 1) (As := [.int (zI s)]) (st := []) gg (c_D_isState M s (by first | assumption | omega | exact ⟨by omega, by omega⟩)) ys_2_isState ml_X2_22 dX2_equip_1 (by decide) (Nat.le_of_ble_eq_true rfl) (Nat.le_of_ble_eq_true rfl) (Nat.le_of_ble_eq_true rfl) rfl rfl (fun z1 u1 hz1 => ?_)
  refine z_if_ne (pc := 4) 9 gg dX2_equip_4 (by decide) ⟨by omega, by omega⟩ (fun h4 => ?_) (fun h4 => ?_)
  · exfalso; omega
  · refine z_iconst (pc := 7) gg dX2_equip_7 ?_
    exact hret 0 () 8 _ _ _ (Nat.le_of_ble_eq_true rfl) (Nat.le_of_ble_eq_true rfl) dX2_equip_8 (zB01 (by omega)) (by omega)
set_option maxHeartbeats 4000000 in
set_option maxRecDepth 100000 in
theorem c_D_after (M : KM) (h l0 f0 w0 : Nat) (dl df dw : Nat → Int) (s e : Int) (hs : 0 ≤ s ∧ s < 8) (he : 0 ≤ e ∧ e < 4) : kCI M yX2_after cX2_after 3 .int 1 0 0 [cO 2 h [.ref l0, .ref f0, .ref w0], cI M l0 32 dl, cZ M f0 8 df, cZ M w0 8 dw] [.ref h, .int (zI s), .int (zI e)] (fun z (u : Unit) => z = dl (s.toNat * 4 + e.toNat)) (fun u => [cO 2 h [.ref l0, .ref f0, .ref w0], cI M l0 32 dl, cZ M f0 8 df, cZ M w0 8 dw]) := by
  refine kCI.of [(0, .ref h), (1, .int (zI s)), (2, .int (zI e))] (by decide) (Nat.le_of_ble_eq_true rfl) rfl (fun E gg hret => ?_)
  refine z_iload_n (pc := 0) 1 gg dX2_after_0 rfl rfl ?_
  refine z_callS (pc := 1) (As := [.int (zI s)]) (st := []) gg (c_D_isState M s (by first | assumption | omega | exact ⟨by omega, by omega⟩)) ys_2_isState ml_X2_22 dX2_after_1 (by decide) (Nat.le_of_ble_eq_true rfl) (Nat.le_of_ble_eq_true rfl) (Nat.le_of_ble_eq_true rfl) rfl rfl (fun z1 u1 hz1 => ?_)
  refine z_if_eq (pc := 4) 27 gg dX2_after_4 (by decide) ⟨by omega, by omega⟩ (fun h4 => ?_) (fun h4 => ?_)
  · exfalso; omega
  · refine z_iload_n (pc := 7) 2 gg dX2_after_7 rfl rfl ?_
    refine z_callS (pc := 8) (As := [.int (zI e)]) (st := []) gg (c_D_isEvent M e (by first | assumption | omega | exact ⟨by omega, by omega⟩)) ys_2_isEvent ml_X2_26 dX2_after_8 (by decide) (Nat.le_of_ble_eq_true rfl) (Nat.le_of_ble_eq_true rfl) (Nat.le_of_ble_eq_true rfl) rfl rfl (fun z8 u8 hz8 => ?_)
    refine z_if_eq (pc := 11) 27 gg dX2_after_11 (by decide) ⟨by omega, by omega⟩ (fun h11 => ?_) (fun h11 => ?_)
    · exfalso; omega
    · refine z_aload_n (pc := 14) 0 gg dX2_after_14 rfl rfl ?_
      refine z_get (pc := 15) 0 gg fl_X2_11 dX2_after_15 rfl rfl ?_
      refine z_iload_n (pc := 18) 1 gg dX2_after_18 rfl rfl ?_
      refine z_iconst (pc := 19) gg dX2_after_19 ?_
      refine z_imul (pc := 20) gg dX2_after_20 ?_
      refine z_iload_n (pc := 21) 2 gg dX2_after_21 rfl rfl ?_
      refine z_iadd (pc := 22) gg dX2_after_22 ?_
      refine z_iald (pc := 23) 1 ((s.toNat * 4) + e.toNat) gg dX2_after_23 rfl (by omega) (by omega) (by decide) ?_
      refine z_goto (pc := 24) 28 gg dX2_after_24 (by decide) ?_
      exact hret (dl ((s.toNat * 4) + e.toNat)) () 28 _ _ _ (Nat.le_of_ble_eq_true rfl) (Nat.le_of_ble_eq_true rfl) dX2_after_28 rfl rfl
set_option maxHeartbeats 4000000 in
set_option maxRecDepth 100000 in
theorem c_D_feeds (M : KM) (h l0 f0 w0 : Nat) (dl df dw : Nat → Int) (s : Int) (hs : 0 ≤ s ∧ s < 8) (hb : ∀ j, j < 8 → df j = 0 ∨ df j = 1) : kCI M yX2_feeds cX2_feeds 2 .boolean 1 0 0 [cO 2 h [.ref l0, .ref f0, .ref w0], cI M l0 32 dl, cZ M f0 8 df, cZ M w0 8 dw] [.ref h, .int (zI s)] (fun z (u : Unit) => z = df s.toNat) (fun u => [cO 2 h [.ref l0, .ref f0, .ref w0], cI M l0 32 dl, cZ M f0 8 df, cZ M w0 8 dw]) := by
  refine kCI.of [(0, .ref h), (1, .int (zI s))] (by decide) (Nat.le_of_ble_eq_true rfl) rfl (fun E gg hret => ?_)
  refine z_iload_n (pc := 0) 1 gg dX2_feeds_0 rfl rfl ?_
  refine z_callS (pc := 1) (As := [.int (zI s)]) (st := []) gg (c_D_isState M s (by first | assumption | omega | exact ⟨by omega, by omega⟩)) ys_2_isState ml_X2_22 dX2_feeds_1 (by decide) (Nat.le_of_ble_eq_true rfl) (Nat.le_of_ble_eq_true rfl) (Nat.le_of_ble_eq_true rfl) rfl rfl (fun z1 u1 hz1 => ?_)
  refine z_if_eq (pc := 4) 20 gg dX2_feeds_4 (by decide) ⟨by omega, by omega⟩ (fun h4 => ?_) (fun h4 => ?_)
  · exfalso; omega
  · refine z_aload_n (pc := 7) 0 gg dX2_feeds_7 rfl rfl ?_
    refine z_get (pc := 8) 0 gg fl_X2_15 dX2_feeds_8 rfl rfl ?_
    refine z_iload_n (pc := 11) 1 gg dX2_feeds_11 rfl rfl ?_
    refine z_zald (pc := 12) 2 s.toNat gg dX2_feeds_12 rfl (by omega) (by omega) (by decide) ?_
    have hf12 := hb s.toNat (by omega)
    refine z_if_eq (pc := 13) 20 gg dX2_feeds_13 (by decide) ⟨by omega, by omega⟩ (fun h13 => ?_) (fun h13 => ?_)
    · refine z_iconst (pc := 20) gg dX2_feeds_20 ?_
      exact hret 0 () 21 _ _ _ (Nat.le_of_ble_eq_true rfl) (Nat.le_of_ble_eq_true rfl) dX2_feeds_21 (zB01 (by omega)) (by omega)
    · refine z_iconst (pc := 16) gg dX2_feeds_16 ?_
      refine z_goto (pc := 17) 21 gg dX2_feeds_17 (by decide) ?_
      exact hret 1 () 21 _ _ _ (Nat.le_of_ble_eq_true rfl) (Nat.le_of_ble_eq_true rfl) dX2_feeds_21 (zB01 (by omega)) (by omega)
set_option maxHeartbeats 4000000 in
set_option maxRecDepth 100000 in
theorem c_D_waters (M : KM) (h l0 f0 w0 : Nat) (dl df dw : Nat → Int) (s : Int) (hs : 0 ≤ s ∧ s < 8) (hb : ∀ j, j < 8 → dw j = 0 ∨ dw j = 1) : kCI M yX2_waters cX2_waters 2 .boolean 1 0 0 [cO 2 h [.ref l0, .ref f0, .ref w0], cI M l0 32 dl, cZ M f0 8 df, cZ M w0 8 dw] [.ref h, .int (zI s)] (fun z (u : Unit) => z = dw s.toNat) (fun u => [cO 2 h [.ref l0, .ref f0, .ref w0], cI M l0 32 dl, cZ M f0 8 df, cZ M w0 8 dw]) := by
  refine kCI.of [(0, .ref h), (1, .int (zI s))] (by decide) (Nat.le_of_ble_eq_true rfl) rfl (fun E gg hret => ?_)
  refine z_iload_n (pc := 0) 1 gg dX2_waters_0 rfl rfl ?_
  refine z_callS (pc := 1) (As := [.int (zI s)]) (st := []) gg (c_D_isState M s (by first | assumption | omega | exact ⟨by omega, by omega⟩)) ys_2_isState ml_X2_22 dX2_waters_1 (by decide) (Nat.le_of_ble_eq_true rfl) (Nat.le_of_ble_eq_true rfl) (Nat.le_of_ble_eq_true rfl) rfl rfl (fun z1 u1 hz1 => ?_)
  refine z_if_eq (pc := 4) 20 gg dX2_waters_4 (by decide) ⟨by omega, by omega⟩ (fun h4 => ?_) (fun h4 => ?_)
  · exfalso; omega
  · refine z_aload_n (pc := 7) 0 gg dX2_waters_7 rfl rfl ?_
    refine z_get (pc := 8) 0 gg fl_X2_19 dX2_waters_8 rfl rfl ?_
    refine z_iload_n (pc := 11) 1 gg dX2_waters_11 rfl rfl ?_
    refine z_zald (pc := 12) 3 s.toNat gg dX2_waters_12 rfl (by omega) (by omega) (by decide) ?_
    have hf12 := hb s.toNat (by omega)
    refine z_if_eq (pc := 13) 20 gg dX2_waters_13 (by decide) ⟨by omega, by omega⟩ (fun h13 => ?_) (fun h13 => ?_)
    · refine z_iconst (pc := 20) gg dX2_waters_20 ?_
      exact hret 0 () 21 _ _ _ (Nat.le_of_ble_eq_true rfl) (Nat.le_of_ble_eq_true rfl) dX2_waters_21 (zB01 (by omega)) (by omega)
    · refine z_iconst (pc := 16) gg dX2_waters_16 ?_
      refine z_goto (pc := 17) 21 gg dX2_waters_17 (by decide) ?_
      exact hret 1 () 21 _ _ _ (Nat.le_of_ble_eq_true rfl) (Nat.le_of_ble_eq_true rfl) dX2_waters_21 (zB01 (by omega)) (by omega)
set_option maxHeartbeats 4000000 in
set_option maxRecDepth 100000 in
theorem c_D_copyFrom (M : KM) (h l0 f0 w0 : Nat) (dl df dw : Nat → Int) (h2 l2 f2 w2 : Nat) (dl2 df2 dw2 : Nat → Int) (hu : ∀ j, j < 8 → df2 j = 0 ∨ df2 j = 1) (hv : ∀ j, j < 8 → dw2 j = 0 ∨ dw2 j = 1) : kCV M yX2_copyFrom cX2_copyFrom 3 1 0 0 [cO 2 h [.ref l0, .ref f0, .ref w0], cI M l0 32 dl, cZ M f0 8 df, cZ M w0 8 dw, cO 2 h2 [.ref l2, .ref f2, .ref w2], cI M l2 32 dl2, cZ M f2 8 df2, cZ M w2 8 dw2] [.ref h, .ref h2] (fun u : Unit => True) (fun u => [cO 2 h [.ref l0, .ref f0, .ref w0], cI M l0 32 dl2, cZ M f0 8 df2, cZ M w0 8 dw2, cO 2 h2 [.ref l2, .ref f2, .ref w2], cI M l2 32 dl2, cZ M f2 8 df2, cZ M w2 8 dw2]) := by
  refine kCV.of [(0, .ref h), (1, .ref h2)] (by decide) (Nat.le_of_ble_eq_true rfl) rfl (fun E gg gn hret => ?_)
  refine z_aload_n (pc := 0) 1 gg dX2_copyFrom_0 rfl rfl ?_
  refine z_get (pc := 1) 4 gg fl_X2_11 dX2_copyFrom_1 rfl rfl ?_
  refine z_iconst (pc := 4) gg dX2_copyFrom_4 ?_
  refine z_aload_n (pc := 5) 0 gg dX2_copyFrom_5 rfl rfl ?_
  refine z_get (pc := 6) 0 gg fl_X2_11 dX2_copyFrom_6 rfl rfl ?_
  refine z_iconst (pc := 9) gg dX2_copyFrom_9 ?_
  refine z_bipush (pc := 10) gg dX2_copyFrom_10 (by decide +kernel) ?_
  refine z_copy (pc := 12) 5 1 [cO 2 h [.ref l0, .ref f0, .ref w0], cI M l0 32 dl2, cZ M f0 8 df, cZ M w0 8 dw, cO 2 h2 [.ref l2, .ref f2, .ref w2], cI M l2 32 dl2, cZ M f2 8 df2, cZ M w2 8 dw2] gg dX2_copyFrom_12 ml_X2_29 ac_1 ac_2 ac_3 (by decide) (Nat.le_of_ble_eq_true rfl) rfl rfl rfl (by decide) rfl ?_
  refine z_iconst (pc := 15) gg dX2_copyFrom_15 ?_
  refine z_istore_n (pc := 16) [(2, .int (zI 0)), (0, .ref h), (1, .ref h2)] gg dX2_copyFrom_16 rfl (Nat.le_of_ble_eq_true rfl) rfl ?_
  have loop17 : ∀ (k17 : Nat) (i : Int) (x1 x2 : Nat → Int), (0 ≤ i ∧ i ≤ 8) → (∀ j, j < i.toNat → x1 j = df2 j) → (∀ j, j < i.toNat → x2 j = dw2 j) → 8 - i.toNat < k17 → kV M E 3 0 0 [cO 2 h [.ref l0, .ref f0, .ref w0], cI M l0 32 dl2, cZ M f0 8 x1, cZ M w0 8 x2, cO 2 h2 [.ref l2, .ref f2, .ref w2], cI M l2 32 dl2, cZ M f2 8 df2, cZ M w2 8 dw2] [(2, .int (zI i)), (0, .ref h), (1, .ref h2)] 17 [] := by
    intro k17
    induction k17 with
    | zero => intro i x1 x2 hi k1 k2 hm17; exact absurd hm17 (Nat.not_lt_zero _)
    | succ k17 ih17 =>
      intro i x1 x2 hi k1 k2 hm17
      refine z_iload_n (pc := 17) 0 gg dX2_copyFrom_17 rfl rfl ?_
      refine z_bipush (pc := 18) gg dX2_copyFrom_18 (by decide +kernel) ?_
      refine z_icmp_ge (pc := 20) 53 gg dX2_copyFrom_20 (by decide) ⟨by omega, by omega⟩ ⟨by omega, by omega⟩ (fun h20 => ?_) (fun h20 => ?_)
      · refine z_funZ 2 df2 [cO 2 h [.ref l0, .ref f0, .ref w0], cI M l0 32 dl2, cZ M f0 8 df2, cZ M w0 8 x2, cO 2 h2 [.ref l2, .ref f2, .ref w2], cI M l2 32 dl2, cZ M f2 8 df2, cZ M w2 8 dw2] rfl (fun j hj => k1 j (by omega)) rfl ?_
        refine z_funZ 3 dw2 [cO 2 h [.ref l0, .ref f0, .ref w0], cI M l0 32 dl2, cZ M f0 8 df2, cZ M w0 8 dw2, cO 2 h2 [.ref l2, .ref f2, .ref w2], cI M l2 32 dl2, cZ M f2 8 df2, cZ M w2 8 dw2] rfl (fun j hj => k2 j (by omega)) rfl ?_
        exact hret () 53 _ _ _ (Nat.le_of_ble_eq_true rfl) (Nat.le_of_ble_eq_true rfl) dX2_copyFrom_53 trivial
      · refine z_aload_n (pc := 23) 1 gg dX2_copyFrom_23 rfl rfl ?_
        refine z_get (pc := 24) 0 gg fl_X2_15 dX2_copyFrom_24 rfl rfl ?_
        refine z_iload_n (pc := 27) 0 gg dX2_copyFrom_27 rfl rfl ?_
        refine z_aload_n (pc := 28) 2 gg dX2_copyFrom_28 rfl rfl ?_
        refine z_get (pc := 29) 4 gg fl_X2_15 dX2_copyFrom_29 rfl rfl ?_
        refine z_iload_n (pc := 32) 0 gg dX2_copyFrom_32 rfl rfl ?_
        refine z_zald (pc := 33) 6 i.toNat gg dX2_copyFrom_33 rfl (by omega) (by omega) (by decide) ?_
        have hf33 := hu i.toNat (by omega)
        refine z_zast (pc := 34) 2 i.toNat [cO 2 h [.ref l0, .ref f0, .ref w0], cI M l0 32 dl2, cZ M f0 8 (zU x1 i.toNat (df2 i.toNat)), cZ M w0 8 x2, cO 2 h2 [.ref l2, .ref f2, .ref w2], cI M l2 32 dl2, cZ M f2 8 df2, cZ M w2 8 dw2] gg dX2_copyFrom_34 rfl (by omega) (by omega) (by decide) (by omega) rfl ?_
        refine z_aload_n (pc := 35) 1 gg dX2_copyFrom_35 rfl rfl ?_
        refine z_get (pc := 36) 0 gg fl_X2_19 dX2_copyFrom_36 rfl rfl ?_
        refine z_iload_n (pc := 39) 0 gg dX2_copyFrom_39 rfl rfl ?_
        refine z_aload_n (pc := 40) 2 gg dX2_copyFrom_40 rfl rfl ?_
        refine z_get (pc := 41) 4 gg fl_X2_19 dX2_copyFrom_41 rfl rfl ?_
        refine z_iload_n (pc := 44) 0 gg dX2_copyFrom_44 rfl rfl ?_
        refine z_zald (pc := 45) 7 i.toNat gg dX2_copyFrom_45 rfl (by omega) (by omega) (by decide) ?_
        have hf45 := hv i.toNat (by omega)
        refine z_zast (pc := 46) 3 i.toNat [cO 2 h [.ref l0, .ref f0, .ref w0], cI M l0 32 dl2, cZ M f0 8 (zU x1 i.toNat (df2 i.toNat)), cZ M w0 8 (zU x2 i.toNat (dw2 i.toNat)), cO 2 h2 [.ref l2, .ref f2, .ref w2], cI M l2 32 dl2, cZ M f2 8 df2, cZ M w2 8 dw2] gg dX2_copyFrom_46 rfl (by omega) (by omega) (by decide) (by omega) rfl ?_
        refine z_iinc (pc := 47) 0 [(2, .int (zI (i + 1))), (0, .ref h), (1, .ref h2)] gg dX2_copyFrom_47 rfl (Nat.le_of_ble_eq_true rfl) rfl ?_
        refine z_goto (pc := 50) 17 gg dX2_copyFrom_50 (by decide) ?_
        exact ih17 (i + 1) (zU x1 i.toNat (df2 i.toNat)) (zU x2 i.toNat (dw2 i.toNat)) (by omega) (zU_ext (by omega) k1) (zU_ext (by omega) k2) (by omega)
  exact loop17 _ 0 df dw (by omega) (fun j hj => absurd hj (by omega)) (fun j hj => absurd hj (by omega)) (Nat.lt_succ_self _)
set_option maxHeartbeats 4000000 in
set_option maxRecDepth 100000 in
theorem c_D_init (M : KM) (h : Nat)  : kCV M yX2_init cX2_init 2 1 3 48 [cO 2 h [.null, .null, .null]] [.ref h] (fun u : Nat × Nat × Nat => True) (fun u => [cO 2 h [.ref u.1, .ref u.2.1, .ref u.2.2], cI M u.1 32 (fun j => ((j / 4 : Nat) : Int)), cZ M u.2.1 8 (fun _ => 0), cZ M u.2.2 8 (fun _ => 0)]) := by
  refine kCV.of [(0, .ref h)] (by decide) (Nat.le_of_ble_eq_true rfl) rfl (fun E gg gn hret => ?_)
  refine z_aload_n (pc := 0) 0 gg dX2_init_0 rfl rfl ?_
  refine z_obj (pc := 1) gg dX2_init_1 ml_X2_3 oi_1 oi_2 (by decide) (Nat.le_of_ble_eq_true rfl) ?_
  refine z_aload_n (pc := 4) 0 gg dX2_init_4 rfl rfl ?_
  refine z_bipush (pc := 5) gg dX2_init_5 (by decide +kernel) ?_
  refine z_newaI (pc := 7) gg dX2_init_7 ar_I rfl (by decide) (Nat.le_of_ble_eq_true rfl) (Nat.le_of_ble_eq_true rfl) (fun q1 => ?_)
  show kV M E 2 _ _ [cO 2 h [.null, .null, .null], cI M q1 32 (fun _ => 0)] _ _ _
  refine z_putF (pc := 9) 0 [cO 2 h [.ref q1, .null, .null], cI M q1 32 (fun _ => 0)] gg gn fp_X2_11 dX2_init_9 rfl rfl rfl (Nat.le_of_ble_eq_true rfl) rfl ?_
  refine z_aload_n (pc := 12) 0 gg dX2_init_12 rfl rfl ?_
  refine z_bipush (pc := 13) gg dX2_init_13 (by decide +kernel) ?_
  refine z_newaZ (pc := 15) gg dX2_init_15 ar_Z rfl (by decide) (Nat.le_of_ble_eq_true rfl) (Nat.le_of_ble_eq_true rfl) (fun q2 => ?_)
  show kV M E 2 _ _ [cO 2 h [.ref q1, .null, .null], cI M q1 32 (fun _ => 0), cZ M q2 8 (fun _ => 0)] _ _ _
  refine z_putF (pc := 17) 0 [cO 2 h [.ref q1, .ref q2, .null], cI M q1 32 (fun _ => 0), cZ M q2 8 (fun _ => 0)] gg gn fp_X2_15 dX2_init_17 rfl rfl rfl (Nat.le_of_ble_eq_true rfl) rfl ?_
  refine z_aload_n (pc := 20) 0 gg dX2_init_20 rfl rfl ?_
  refine z_bipush (pc := 21) gg dX2_init_21 (by decide +kernel) ?_
  refine z_newaZ (pc := 23) gg dX2_init_23 ar_Z rfl (by decide) (Nat.le_of_ble_eq_true rfl) (Nat.le_of_ble_eq_true rfl) (fun q3 => ?_)
  show kV M E 2 _ _ [cO 2 h [.ref q1, .ref q2, .null], cI M q1 32 (fun _ => 0), cZ M q2 8 (fun _ => 0), cZ M q3 8 (fun _ => 0)] _ _ _
  refine z_putF (pc := 25) 0 [cO 2 h [.ref q1, .ref q2, .ref q3], cI M q1 32 (fun _ => 0), cZ M q2 8 (fun _ => 0), cZ M q3 8 (fun _ => 0)] gg gn fp_X2_19 dX2_init_25 rfl rfl rfl (Nat.le_of_ble_eq_true rfl) rfl ?_
  refine z_iconst (pc := 28) gg dX2_init_28 ?_
  refine z_istore_n (pc := 29) [(1, .int (zI 0)), (0, .ref h)] gg dX2_init_29 rfl (Nat.le_of_ble_eq_true rfl) rfl ?_
  have loop30 : ∀ (k30 : Nat) (i : Int) (x : Nat → Int), (0 ≤ i ∧ i ≤ 32) → (∀ j, j < i.toNat → x j = ((j / 4 : Nat) : Int)) → 32 - i.toNat < k30 → kV M E 2 3 48 [cO 2 h [.ref q1, .ref q2, .ref q3], cI M q1 32 x, cZ M q2 8 (fun _ => 0), cZ M q3 8 (fun _ => 0)] [(1, .int (zI i)), (0, .ref h)] 30 [] := by
    intro k30
    induction k30 with
    | zero => intro i x hi k1 hm30; exact absurd hm30 (Nat.not_lt_zero _)
    | succ k30 ih30 =>
      intro i x hi k1 hm30
      refine z_iload_n (pc := 30) 0 gg dX2_init_30 rfl rfl ?_
      refine z_bipush (pc := 31) gg dX2_init_31 (by decide +kernel) ?_
      refine z_icmp_ge (pc := 33) 51 gg dX2_init_33 (by decide) ⟨by omega, by omega⟩ ⟨by omega, by omega⟩ (fun h33 => ?_) (fun h33 => ?_)
      · refine z_fun 1 (fun j => ((j / 4 : Nat) : Int)) [cO 2 h [.ref q1, .ref q2, .ref q3], cI M q1 32 (fun j => ((j / 4 : Nat) : Int)), cZ M q2 8 (fun _ => 0), cZ M q3 8 (fun _ => 0)] rfl (fun j hj => k1 j (by omega)) rfl ?_
        exact hret (q1, q2, q3) 51 _ _ _ (Nat.le_of_ble_eq_true rfl) (Nat.le_of_ble_eq_true rfl) dX2_init_51 trivial
      · refine z_aload_n (pc := 36) 1 gg dX2_init_36 rfl rfl ?_
        refine z_get (pc := 37) 0 gg fl_X2_11 dX2_init_37 rfl rfl ?_
        refine z_iload_n (pc := 40) 0 gg dX2_init_40 rfl rfl ?_
        refine z_iload_n (pc := 41) 0 gg dX2_init_41 rfl rfl ?_
        refine z_iconst (pc := 42) gg dX2_init_42 ?_
        refine z_idivn (pc := 43) gg dX2_init_43 (by omega) (by omega) (by omega) (by omega) ?_
        refine z_iast (pc := 44) 1 i.toNat [cO 2 h [.ref q1, .ref q2, .ref q3], cI M q1 32 (zU x i.toNat (i / 4)), cZ M q2 8 (fun _ => 0), cZ M q3 8 (fun _ => 0)] gg dX2_init_44 rfl (by omega) (by omega) (by decide) rfl ?_
        refine z_iinc (pc := 45) 0 [(1, .int (zI (i + 1))), (0, .ref h)] gg dX2_init_45 rfl (Nat.le_of_ble_eq_true rfl) rfl ?_
        refine z_goto (pc := 48) 30 gg dX2_init_48 (by decide) ?_
        exact ih30 (i + 1) (zU x i.toNat (i / 4)) (by omega) (zU_eq (g := fun j => ((j / 4 : Nat) : Int)) (by omega) k1 (by omega)) (by omega)
  exact loop30 _ 0 (fun _ => 0) (by omega) (fun j hj => absurd hj (by omega)) (Nat.lt_succ_self _)
set_option maxHeartbeats 4000000 in
set_option maxRecDepth 100000 in
theorem c_H_init (M : KM) (h : Nat)  : kCV M yX3_init cX3_init 1 1 3 31 [cO 3 h [.null, .null, .null]] [.ref h] (fun u : Nat × Nat × Nat => True) (fun u => [cO 3 h [.ref u.1, .ref u.2.1, .ref u.2.2], cI M u.1 11 (fun _ => 0), cI M u.2.1 11 (fun _ => 0), cI M u.2.2 9 (fun _ => 0)]) := by
  refine kCV.of [(0, .ref h)] (by decide) (Nat.le_of_ble_eq_true rfl) rfl (fun E gg gn hret => ?_)
  refine z_aload_n (pc := 0) 0 gg dX3_init_0 rfl rfl ?_
  refine z_obj (pc := 1) gg dX3_init_1 ml_X3_3 oi_1 oi_2 (by decide) (Nat.le_of_ble_eq_true rfl) ?_
  refine z_aload_n (pc := 4) 0 gg dX3_init_4 rfl rfl ?_
  refine z_bipush (pc := 5) gg dX3_init_5 (by decide +kernel) ?_
  refine z_newaI (pc := 7) gg dX3_init_7 ar_I rfl (by decide) (Nat.le_of_ble_eq_true rfl) (Nat.le_of_ble_eq_true rfl) (fun q1 => ?_)
  show kV M E 1 _ _ [cO 3 h [.null, .null, .null], cI M q1 11 (fun _ => 0)] _ _ _
  refine z_putF (pc := 9) 0 [cO 3 h [.ref q1, .null, .null], cI M q1 11 (fun _ => 0)] gg gn fp_X3_11 dX3_init_9 rfl rfl rfl (Nat.le_of_ble_eq_true rfl) rfl ?_
  refine z_aload_n (pc := 12) 0 gg dX3_init_12 rfl rfl ?_
  refine z_bipush (pc := 13) gg dX3_init_13 (by decide +kernel) ?_
  refine z_newaI (pc := 15) gg dX3_init_15 ar_I rfl (by decide) (Nat.le_of_ble_eq_true rfl) (Nat.le_of_ble_eq_true rfl) (fun q2 => ?_)
  show kV M E 1 _ _ [cO 3 h [.ref q1, .null, .null], cI M q1 11 (fun _ => 0), cI M q2 11 (fun _ => 0)] _ _ _
  refine z_putF (pc := 17) 0 [cO 3 h [.ref q1, .ref q2, .null], cI M q1 11 (fun _ => 0), cI M q2 11 (fun _ => 0)] gg gn fp_X3_15 dX3_init_17 rfl rfl rfl (Nat.le_of_ble_eq_true rfl) rfl ?_
  refine z_aload_n (pc := 20) 0 gg dX3_init_20 rfl rfl ?_
  refine z_bipush (pc := 21) gg dX3_init_21 (by decide +kernel) ?_
  refine z_newaI (pc := 23) gg dX3_init_23 ar_I rfl (by decide) (Nat.le_of_ble_eq_true rfl) (Nat.le_of_ble_eq_true rfl) (fun q3 => ?_)
  show kV M E 1 _ _ [cO 3 h [.ref q1, .ref q2, .null], cI M q1 11 (fun _ => 0), cI M q2 11 (fun _ => 0), cI M q3 9 (fun _ => 0)] _ _ _
  refine z_putF (pc := 25) 0 [cO 3 h [.ref q1, .ref q2, .ref q3], cI M q1 11 (fun _ => 0), cI M q2 11 (fun _ => 0), cI M q3 9 (fun _ => 0)] gg gn fp_X3_18 dX3_init_25 rfl rfl rfl (Nat.le_of_ble_eq_true rfl) rfl ?_
  exact hret (q1, q2, q3) 28 _ _ _ (Nat.le_of_ble_eq_true rfl) (Nat.le_of_ble_eq_true rfl) dX3_init_28 trivial
set_option maxHeartbeats 4000000 in
set_option maxRecDepth 100000 in
theorem c_H_begin (M : KM) (h a b c : Nat) (p : Int) (f bf cu : Nat → Int)  : kCV M yX3_begin cX3_begin 3 0 0 0 [cO 3 h [.ref a, .ref b, .ref c], cI M a 11 f, cI M b 11 bf, cI M c 9 cu] [.ref h, .int (zI p)] (fun u : Unit => True) (fun u => [cO 3 h [.ref a, .ref b, .ref c], cI M a 11 (hx (100 * p) (sH (100 * p) 0)), cI M b 11 bf, cI M c 9 (sC (100 * p) 0)]) := by
  refine kCV.of [(0, .ref h), (1, .int (zI p))] (by decide) (Nat.le_of_ble_eq_true rfl) rfl (fun E gg gn hret => ?_)
  refine z_aload_n (pc := 0) 0 gg dX3_begin_0 rfl rfl ?_
  refine z_get (pc := 1) 0 gg fl_X3_11 dX3_begin_1 rfl rfl ?_
  refine z_iconst (pc := 4) gg dX3_begin_4 ?_
  refine z_bipush (pc := 5) gg dX3_begin_5 (by decide +kernel) ?_
  refine z_iload_n (pc := 7) 1 gg dX3_begin_7 rfl rfl ?_
  refine z_imul (pc := 8) gg dX3_begin_8 ?_
  refine z_iast (pc := 9) 1 0 [cO 3 h [.ref a, .ref b, .ref c], cI M a 11 (zU f 0 (100 * p)), cI M b 11 bf, cI M c 9 cu] gg dX3_begin_9 rfl (by omega) (by omega) (by decide) rfl ?_
  refine z_aload_n (pc := 10) 0 gg dX3_begin_10 rfl rfl ?_
  refine z_get (pc := 11) 0 gg fl_X3_11 dX3_begin_11 rfl rfl ?_
  refine z_bipush (pc := 14) gg dX3_begin_14 (by decide +kernel) ?_
  refine z_bipush (pc := 16) gg dX3_begin_16 (by decide +kernel) ?_
  refine z_iload_n (pc := 18) 1 gg dX3_begin_18 rfl rfl ?_
  refine z_imul (pc := 19) gg dX3_begin_19 ?_
  refine z_iast (pc := 20) 1 10 [cO 3 h [.ref a, .ref b, .ref c], cI M a 11 (zU (zU f 0 (100 * p)) 10 (100 * p)), cI M b 11 bf, cI M c 9 cu] gg dX3_begin_20 rfl (by omega) (by omega) (by decide) rfl ?_
  refine z_iconst (pc := 21) gg dX3_begin_21 ?_
  refine z_istore_n (pc := 22) [(2, .int (zI 0)), (0, .ref h), (1, .int (zI p))] gg dX3_begin_22 rfl (Nat.le_of_ble_eq_true rfl) rfl ?_
  have loop23 : ∀ (k23 : Nat) (i : Int) (x y : Nat → Int), (0 ≤ i ∧ i ≤ 9) → (x 0 = 100 * p ∧ x 10 = 100 * p) → (∀ j, j < i.toNat → x (j + 1) = 2000) → (∀ j, j < i.toNat → y j = 0) → 9 - i.toNat < k23 → kV M E 3 0 0 [cO 3 h [.ref a, .ref b, .ref c], cI M a 11 x, cI M b 11 bf, cI M c 9 y] [(2, .int (zI i)), (0, .ref h), (1, .int (zI p))] 23 [] := by
    intro k23
    induction k23 with
    | zero => intro i x y hi k0 k1 k2 hm23; exact absurd hm23 (Nat.not_lt_zero _)
    | succ k23 ih23 =>
      intro i x y hi k0 k1 k2 hm23
      refine z_iload_n (pc := 23) 0 gg dX3_begin_23 rfl rfl ?_
      refine z_bipush (pc := 24) gg dX3_begin_24 (by decide +kernel) ?_
      refine z_icmp_ge (pc := 26) 53 gg dX3_begin_26 (by decide) ⟨by omega, by omega⟩ ⟨by omega, by omega⟩ (fun h26 => ?_) (fun h26 => ?_)
      · refine z_fun 1 (hx (100 * p) (sH (100 * p) 0)) [cO 3 h [.ref a, .ref b, .ref c], cI M a 11 (hx (100 * p) (sH (100 * p) 0)), cI M b 11 bf, cI M c 9 y] rfl (fun j hj => ?_) rfl ?_
        · unfold hx
          by_cases e : 1 ≤ j ∧ j ≤ 9
          · rw [if_pos e]
            have := k1 (j - 1) (by omega)
            rw [show j - 1 + 1 = j by omega] at this
            exact this
          · rw [if_neg e]
            rcases (show j = 0 ∨ j = 10 by omega) with rfl | rfl
            · exact k0.1
            · exact k0.2
        refine z_fun 3 (sC (100 * p) 0) [cO 3 h [.ref a, .ref b, .ref c], cI M a 11 (hx (100 * p) (sH (100 * p) 0)), cI M b 11 bf, cI M c 9 (sC (100 * p) 0)] rfl (fun j hj => k2 j (by omega)) rfl ?_
        exact hret () 53 _ _ _ (Nat.le_of_ble_eq_true rfl) (Nat.le_of_ble_eq_true rfl) dX3_begin_53 trivial
      · refine z_aload_n (pc := 29) 1 gg dX3_begin_29 rfl rfl ?_
        refine z_get (pc := 30) 0 gg fl_X3_11 dX3_begin_30 rfl rfl ?_
        refine z_iload_n (pc := 33) 0 gg dX3_begin_33 rfl rfl ?_
        refine z_iconst (pc := 34) gg dX3_begin_34 ?_
        refine z_iadd (pc := 35) gg dX3_begin_35 ?_
        refine z_sipush (pc := 36) gg dX3_begin_36 (by decide +kernel) ?_
        refine z_iast (pc := 39) 1 (i.toNat + 1) [cO 3 h [.ref a, .ref b, .ref c], cI M a 11 (zU x (i.toNat + 1) 2000), cI M b 11 bf, cI M c 9 y] gg dX3_begin_39 rfl (by omega) (by omega) (by decide) rfl ?_
        refine z_aload_n (pc := 40) 1 gg dX3_begin_40 rfl rfl ?_
        refine z_get (pc := 41) 0 gg fl_X3_18 dX3_begin_41 rfl rfl ?_
        refine z_iload_n (pc := 44) 0 gg dX3_begin_44 rfl rfl ?_
        refine z_iconst (pc := 45) gg dX3_begin_45 ?_
        refine z_iast (pc := 46) 3 i.toNat [cO 3 h [.ref a, .ref b, .ref c], cI M a 11 (zU x (i.toNat + 1) 2000), cI M b 11 bf, cI M c 9 (zU y i.toNat 0)] gg dX3_begin_46 rfl (by omega) (by omega) (by decide) rfl ?_
        refine z_iinc (pc := 47) 0 [(2, .int (zI (i + 1))), (0, .ref h), (1, .int (zI p))] gg dX3_begin_47 rfl (Nat.le_of_ble_eq_true rfl) rfl ?_
        refine z_goto (pc := 50) 23 gg dX3_begin_50 (by decide) ?_
        exact ih23 (i + 1) (zU x (i.toNat + 1) 2000) (zU y i.toNat 0) (by omega) ⟨by rw [zU_n _ _ (by omega)]; exact k0.1, by rw [zU_n _ _ (by omega)]; exact k0.2⟩ (fun j hj => by
        by_cases e : j = i.toNat
        · rw [e]; exact zU_s _ _ _
        · rw [zU_n _ _ (by omega)]; exact k1 j (by omega)) (zU_eq (g := fun _ => 0) (by omega) k2 rfl) (by omega)
  exact loop23 _ 0 (zU (zU f 0 (100 * p)) 10 (100 * p)) cu (by omega) ⟨rfl, rfl⟩ (fun j hj => absurd hj (by omega)) (fun j hj => absurd hj (by omega)) (Nat.lt_succ_self _)
set_option maxHeartbeats 4000000 in
set_option maxRecDepth 100000 in
theorem c_H_tick (M : KM) (h a b c : Nat) (T : Int) (f bf cu : Nat → Int) (hB : ∀ j, j < 11 → 0 ≤ hx T f j ∧ hx T f j ≤ 25000) : kCV M yX3_tick cX3_tick 4 1 0 0 [cO 3 h [.ref a, .ref b, .ref c], cI M a 11 (hx T f), cI M b 11 bf, cI M c 9 cu] [.ref h] (fun u : Unit => True) (fun u => [cO 3 h [.ref a, .ref b, .ref c], cI M a 11 (hx T (tkH T f)), cI M b 11 (hx T f), cI M c 9 (fun s => cu s + tkC (tkH T f s))]) := by
  refine kCV.of [(0, .ref h)] (by decide) (Nat.le_of_ble_eq_true rfl) rfl (fun E gg gn hret => ?_)
  refine z_aload_n (pc := 0) 0 gg dX3_tick_0 rfl rfl ?_
  refine z_get (pc := 1) 0 gg fl_X3_11 dX3_tick_1 rfl rfl ?_
  refine z_iconst (pc := 4) gg dX3_tick_4 ?_
  refine z_aload_n (pc := 5) 0 gg dX3_tick_5 rfl rfl ?_
  refine z_get (pc := 6) 0 gg fl_X3_15 dX3_tick_6 rfl rfl ?_
  refine z_iconst (pc := 9) gg dX3_tick_9 ?_
  refine z_bipush (pc := 10) gg dX3_tick_10 (by decide +kernel) ?_
  refine z_copy (pc := 12) 1 2 [cO 3 h [.ref a, .ref b, .ref c], cI M a 11 (hx T f), cI M b 11 (hx T f), cI M c 9 cu] gg dX3_tick_12 ml_X3_21 ac_1 ac_2 ac_3 (by decide) (Nat.le_of_ble_eq_true rfl) rfl rfl rfl (by decide) rfl ?_
  refine z_iconst (pc := 15) gg dX3_tick_15 ?_
  refine z_istore_n (pc := 16) [(1, .int (zI 0)), (0, .ref h)] gg dX3_tick_16 rfl (Nat.le_of_ble_eq_true rfl) rfl ?_
  have loop17 : ∀ (k17 : Nat) (i : Int) (x y : Nat → Int), (0 ≤ i ∧ i ≤ 9) → (x = hm T f i.toNat) → (∀ j, j < i.toNat → y j = cu j + tkC (tkH T f j)) → (∀ j, i.toNat ≤ j → y j = cu j) → 9 - i.toNat < k17 → kV M E 4 0 0 [cO 3 h [.ref a, .ref b, .ref c], cI M a 11 x, cI M b 11 (hx T f), cI M c 9 y] [(1, .int (zI i)), (0, .ref h)] 17 [] := by
    intro k17
    induction k17 with
    | zero => intro i x y hi k1 k2 k3 hm17; exact absurd hm17 (Nat.not_lt_zero _)
    | succ k17 ih17 =>
      intro i x y hi k1 k2 k3 hm17
      refine z_iload_n (pc := 17) 0 gg dX3_tick_17 rfl rfl ?_
      refine z_bipush (pc := 18) gg dX3_tick_18 (by decide +kernel) ?_
      refine z_icmp_ge (pc := 20) 96 gg dX3_tick_20 (by decide) ⟨by omega, by omega⟩ ⟨by omega, by omega⟩ (fun h20 => ?_) (fun h20 => ?_)
      · have e9 : i.toNat = 9 := by omega
        rw [e9, hm_9] at k1
        subst k1
        refine z_fun 3 (fun s => cu s + tkC (tkH T f s)) [cO 3 h [.ref a, .ref b, .ref c], cI M a 11 (hx T (tkH T f)), cI M b 11 (hx T f), cI M c 9 (fun s => cu s + tkC (tkH T f s))] rfl (fun j hj => k2 j (by omega)) rfl ?_
        exact hret () 96 _ _ _ (Nat.le_of_ble_eq_true rfl) (Nat.le_of_ble_eq_true rfl) dX3_tick_96 trivial
      · refine z_aload_n (pc := 23) 1 gg dX3_tick_23 rfl rfl ?_
        refine z_get (pc := 24) 0 gg fl_X3_15 dX3_tick_24 rfl rfl ?_
        refine z_iload_n (pc := 27) 0 gg dX3_tick_27 rfl rfl ?_
        refine z_iconst (pc := 28) gg dX3_tick_28 ?_
        refine z_iadd (pc := 29) gg dX3_tick_29 ?_
        refine z_iald (pc := 30) 2 (i.toNat + 1) gg dX3_tick_30 rfl (by omega) (by omega) (by decide) ?_
        have hf30 := hB (i.toNat + 1) (by omega)
        refine z_istore_n (pc := 31) [(2, .int (zI ((hx T f) (i.toNat + 1)))), (1, .int (zI i)), (0, .ref h)] gg dX3_tick_31 rfl (Nat.le_of_ble_eq_true rfl) rfl ?_
        refine z_iload_n (pc := 32) 0 gg dX3_tick_32 rfl rfl ?_
        refine z_aload_n (pc := 33) 2 gg dX3_tick_33 rfl rfl ?_
        refine z_get (pc := 34) 0 gg fl_X3_15 dX3_tick_34 rfl rfl ?_
        refine z_iload_n (pc := 37) 1 gg dX3_tick_37 rfl rfl ?_
        refine z_iald (pc := 38) 2 i.toNat gg dX3_tick_38 rfl (by omega) (by omega) (by decide) ?_
        have hf38 := hB i.toNat (by omega)
        refine z_aload_n (pc := 39) 2 gg dX3_tick_39 rfl rfl ?_
        refine z_get (pc := 40) 0 gg fl_X3_15 dX3_tick_40 rfl rfl ?_
        refine z_iload_n (pc := 43) 1 gg dX3_tick_43 rfl rfl ?_
        refine z_iconst (pc := 44) gg dX3_tick_44 ?_
        refine z_iadd (pc := 45) gg dX3_tick_45 ?_
        refine z_iald (pc := 46) 2 (i.toNat + 2) gg dX3_tick_46 rfl (by omega) (by omega) (by decide) ?_
        have hf46 := hB (i.toNat + 2) (by omega)
        refine z_iadd (pc := 47) gg dX3_tick_47 ?_
        refine z_iconst (pc := 48) gg dX3_tick_48 ?_
        refine z_iload_n (pc := 49) 0 gg dX3_tick_49 rfl rfl ?_
        refine z_imul (pc := 50) gg dX3_tick_50 ?_
        refine z_isub (pc := 51) gg dX3_tick_51 ?_
        refine z_bipush (pc := 52) gg dX3_tick_52 (by decide +kernel) ?_
        refine z_idiv (pc := 54) gg dX3_tick_54 ⟨by omega, by omega⟩ ⟨by omega, by omega⟩ (by omega) ?_
        refine z_iadd (pc := 55) gg dX3_tick_55 ?_
        refine z_top (fun nx h_nx => ?_)
        have h_nx : nx = tkH T f i.toNat := h_nx
        have nb := tkH_b hB (s := i.toNat) (by omega)
        rw [← h_nx] at nb
        refine z_istore_n (pc := 56) [(3, .int (zI nx)), (2, .int (zI ((hx T f) (i.toNat + 1)))), (1, .int (zI i)), (0, .ref h)] gg dX3_tick_56 rfl (Nat.le_of_ble_eq_true rfl) rfl ?_
        refine z_aload_n (pc := 57) 3 gg dX3_tick_57 rfl rfl ?_
        refine z_get (pc := 58) 0 gg fl_X3_11 dX3_tick_58 rfl rfl ?_
        refine z_iload_n (pc := 61) 2 gg dX3_tick_61 rfl rfl ?_
        refine z_iconst (pc := 62) gg dX3_tick_62 ?_
        refine z_iadd (pc := 63) gg dX3_tick_63 ?_
        refine z_iload_n (pc := 64) 0 gg dX3_tick_64 rfl rfl ?_
        refine z_iast (pc := 65) 1 (i.toNat + 1) [cO 3 h [.ref a, .ref b, .ref c], cI M a 11 (zU x (i.toNat + 1) nx), cI M b 11 (hx T f), cI M c 9 y] gg dX3_tick_65 rfl (by omega) (by omega) (by decide) rfl ?_
        refine z_iload_n (pc := 66) 0 gg dX3_tick_66 rfl rfl ?_
        refine z_sipush (pc := 67) gg dX3_tick_67 (by decide +kernel) ?_
        refine z_icmp_le (pc := 70) 90 gg dX3_tick_70 (by decide) ⟨by omega, by omega⟩ ⟨by omega, by omega⟩ (fun h70 => ?_) (fun h70 => ?_)
        · refine z_iinc (pc := 90) 2 [(1, .int (zI (i + 1))), (3, .int (zI nx)), (2, .int (zI ((hx T f) (i.toNat + 1)))), (0, .ref h)] gg dX3_tick_90 rfl (Nat.le_of_ble_eq_true rfl) rfl ?_
          refine z_goto (pc := 93) 17 gg dX3_tick_93 (by decide) ?_
          refine z_lv [(1, .int (zI (i + 1))), (0, .ref h)] [0, 3] rfl ?_
          exact ih17 (i + 1) (zU x (i.toNat + 1) nx) y (by omega) (by rw [hm_step (by omega), k1, h_nx]) (fun j hj => by
        by_cases e : j = i.toNat
        · rw [e, k3 _ (Nat.le_refl _)]; unfold tkC; rw [if_neg (by rw [← h_nx]; omega)]; omega
        · exact k2 j (by omega)) (fun j hj => k3 j (by omega)) (by omega)
        · refine z_aload_n (pc := 73) 3 gg dX3_tick_73 rfl rfl ?_
          refine z_get (pc := 74) 0 gg fl_X3_18 dX3_tick_74 rfl rfl ?_
          refine z_iload_n (pc := 77) 2 gg dX3_tick_77 rfl rfl ?_
          refine z_dup2 (pc := 78) gg dX3_tick_78 rfl rfl ?_
          refine z_iald (pc := 79) 3 i.toNat gg dX3_tick_79 rfl (by omega) (by omega) (by decide) ?_
          refine z_iload_n (pc := 80) 0 gg dX3_tick_80 rfl rfl ?_
          refine z_sipush (pc := 81) gg dX3_tick_81 (by decide +kernel) ?_
          refine z_isub (pc := 84) gg dX3_tick_84 ?_
          refine z_bipush (pc := 85) gg dX3_tick_85 (by decide +kernel) ?_
          refine z_idivn (pc := 87) gg dX3_tick_87 (by omega) (by omega) (by omega) (by omega) ?_
          refine z_iadd (pc := 88) gg dX3_tick_88 ?_
          refine z_iast (pc := 89) 3 i.toNat [cO 3 h [.ref a, .ref b, .ref c], cI M a 11 (zU x (i.toNat + 1) nx), cI M b 11 (hx T f), cI M c 9 (zU y i.toNat ((y i.toNat) + ((nx - 8000) / 100)))] gg dX3_tick_89 rfl (by omega) (by omega) (by decide) rfl ?_
          refine z_iinc (pc := 90) 2 [(1, .int (zI (i + 1))), (3, .int (zI nx)), (2, .int (zI ((hx T f) (i.toNat + 1)))), (0, .ref h)] gg dX3_tick_90 rfl (Nat.le_of_ble_eq_true rfl) rfl ?_
          refine z_goto (pc := 93) 17 gg dX3_tick_93 (by decide) ?_
          refine z_lv [(1, .int (zI (i + 1))), (0, .ref h)] [0, 3] rfl ?_
          exact ih17 (i + 1) (zU x (i.toNat + 1) nx) (zU y i.toNat ((y i.toNat) + ((nx - 8000) / 100))) (by omega) (by rw [hm_step (by omega), k1, h_nx]) (fun j hj => by
        by_cases e : j = i.toNat
        · rw [e, zU_s, k3 _ (Nat.le_refl _)]; unfold tkC; rw [if_pos (by rw [← h_nx]; omega), ← h_nx]
        · rw [zU_n _ _ e]; exact k2 j (by omega)) (fun j hj => by rw [zU_n _ _ (by omega)]; exact k3 j (by omega)) (by omega)
  exact loop17 _ 0 (hx T f) cu (by omega) (hm_0 T f).symm (fun j hj => absurd hj (by omega)) (fun j _ => rfl) (Nat.lt_succ_self _)
set_option maxHeartbeats 4000000 in
set_option maxRecDepth 100000 in
theorem c_H_heatOf (M : KM) (h a b c : Nat) (T : Int) (f bf cu : Nat → Int) (s : Int) (hs : zR s) : kCI M yX3_heatOf cX3_heatOf 2 .int 0 0 0 [cO 3 h [.ref a, .ref b, .ref c], cI M a 11 (hx T f), cI M b 11 bf, cI M c 9 cu] [.ref h, .int (zI s)] (fun z (u : Unit) => (0 ≤ s ∧ s < 9 ∧ z = f s.toNat) ∨ ((s < 0 ∨ 9 ≤ s) ∧ z = -1)) (fun u => [cO 3 h [.ref a, .ref b, .ref c], cI M a 11 (hx T f), cI M b 11 bf, cI M c 9 cu]) := by
  refine kCI.of [(0, .ref h), (1, .int (zI s))] (by decide) (Nat.le_of_ble_eq_true rfl) rfl (fun E gg hret => ?_)
  have r1_hs := hs.1
  have r2_hs := hs.2
  refine z_iload_n (pc := 0) 1 gg dX3_heatOf_0 rfl rfl ?_
  refine z_if_lt (pc := 1) 21 gg dX3_heatOf_1 (by decide) ⟨by omega, by omega⟩ (fun h1 => ?_) (fun h1 => ?_)
  · refine z_iconst (pc := 21) gg dX3_heatOf_21 ?_
    exact hret (-1) () 22 _ _ _ (Nat.le_of_ble_eq_true rfl) (Nat.le_of_ble_eq_true rfl) dX3_heatOf_22 rfl (by omega)
  · refine z_iload_n (pc := 4) 1 gg dX3_heatOf_4 rfl rfl ?_
    refine z_bipush (pc := 5) gg dX3_heatOf_5 (by decide +kernel) ?_
    refine z_icmp_ge (pc := 7) 21 gg dX3_heatOf_7 (by decide) ⟨by omega, by omega⟩ ⟨by omega, by omega⟩ (fun h7 => ?_) (fun h7 => ?_)
    · refine z_iconst (pc := 21) gg dX3_heatOf_21 ?_
      exact hret (-1) () 22 _ _ _ (Nat.le_of_ble_eq_true rfl) (Nat.le_of_ble_eq_true rfl) dX3_heatOf_22 rfl (by omega)
    · refine z_aload_n (pc := 10) 0 gg dX3_heatOf_10 rfl rfl ?_
      refine z_get (pc := 11) 0 gg fl_X3_11 dX3_heatOf_11 rfl rfl ?_
      refine z_iload_n (pc := 14) 1 gg dX3_heatOf_14 rfl rfl ?_
      refine z_iconst (pc := 15) gg dX3_heatOf_15 ?_
      refine z_iadd (pc := 16) gg dX3_heatOf_16 ?_
      refine z_iald (pc := 17) 1 (s.toNat + 1) gg dX3_heatOf_17 rfl (by omega) (by omega) (by decide) ?_
      refine z_goto (pc := 18) 22 gg dX3_heatOf_18 (by decide) ?_
      exact hret ((hx T f) (s.toNat + 1)) () 22 _ _ _ (Nat.le_of_ble_eq_true rfl) (Nat.le_of_ble_eq_true rfl) dX3_heatOf_22 rfl (Or.inl ⟨by omega, by omega, hx_s (by omega)⟩)
set_option maxHeartbeats 4000000 in
set_option maxRecDepth 100000 in
theorem c_H_cureOf (M : KM) (h a b c : Nat) (T : Int) (f bf cu : Nat → Int) (s : Int) (hs : zR s) : kCI M yX3_cureOf cX3_cureOf 2 .int 0 0 0 [cO 3 h [.ref a, .ref b, .ref c], cI M a 11 (hx T f), cI M b 11 bf, cI M c 9 cu] [.ref h, .int (zI s)] (fun z (u : Unit) => (0 ≤ s ∧ s < 9 ∧ z = cu s.toNat) ∨ ((s < 0 ∨ 9 ≤ s) ∧ z = -1)) (fun u => [cO 3 h [.ref a, .ref b, .ref c], cI M a 11 (hx T f), cI M b 11 bf, cI M c 9 cu]) := by
  refine kCI.of [(0, .ref h), (1, .int (zI s))] (by decide) (Nat.le_of_ble_eq_true rfl) rfl (fun E gg hret => ?_)
  have r1_hs := hs.1
  have r2_hs := hs.2
  refine z_iload_n (pc := 0) 1 gg dX3_cureOf_0 rfl rfl ?_
  refine z_if_lt (pc := 1) 19 gg dX3_cureOf_1 (by decide) ⟨by omega, by omega⟩ (fun h1 => ?_) (fun h1 => ?_)
  · refine z_iconst (pc := 19) gg dX3_cureOf_19 ?_
    exact hret (-1) () 20 _ _ _ (Nat.le_of_ble_eq_true rfl) (Nat.le_of_ble_eq_true rfl) dX3_cureOf_20 rfl (by omega)
  · refine z_iload_n (pc := 4) 1 gg dX3_cureOf_4 rfl rfl ?_
    refine z_bipush (pc := 5) gg dX3_cureOf_5 (by decide +kernel) ?_
    refine z_icmp_ge (pc := 7) 19 gg dX3_cureOf_7 (by decide) ⟨by omega, by omega⟩ ⟨by omega, by omega⟩ (fun h7 => ?_) (fun h7 => ?_)
    · refine z_iconst (pc := 19) gg dX3_cureOf_19 ?_
      exact hret (-1) () 20 _ _ _ (Nat.le_of_ble_eq_true rfl) (Nat.le_of_ble_eq_true rfl) dX3_cureOf_20 rfl (by omega)
    · refine z_aload_n (pc := 10) 0 gg dX3_cureOf_10 rfl rfl ?_
      refine z_get (pc := 11) 0 gg fl_X3_18 dX3_cureOf_11 rfl rfl ?_
      refine z_iload_n (pc := 14) 1 gg dX3_cureOf_14 rfl rfl ?_
      refine z_iald (pc := 15) 3 s.toNat gg dX3_cureOf_15 rfl (by omega) (by omega) (by decide) ?_
      refine z_goto (pc := 16) 20 gg dX3_cureOf_16 (by decide) ?_
      exact hret (cu s.toNat) () 20 _ _ _ (Nat.le_of_ble_eq_true rfl) (Nat.le_of_ble_eq_true rfl) dX3_cureOf_20 rfl (by omega)
set_option maxHeartbeats 4000000 in
set_option maxRecDepth 100000 in
theorem c_H_steamOf (M : KM) (h a b c : Nat) (T : Int) (f bf cu : Nat → Int) (s d : Int) (hs : zR s) (hd : 0 ≤ d ∧ d ≤ 20) (hf : ∀ j, j < 9 → 0 ≤ f j ∧ f j ≤ 25000) : kCI M yX3_steamOf cX3_steamOf 4 .int 0 0 0 [cO 3 h [.ref a, .ref b, .ref c], cI M a 11 (hx T f), cI M b 11 bf, cI M c 9 cu] [.ref h, .int (zI s), .int (zI d)] (fun z (u : Unit) => (0 ≤ s ∧ s < 9 ∧ z = stm (f s.toNat) d) ∨ ((s < 0 ∨ 9 ≤ s) ∧ z = -1)) (fun u => [cO 3 h [.ref a, .ref b, .ref c], cI M a 11 (hx T f), cI M b 11 bf, cI M c 9 cu]) := by
  refine kCI.of [(0, .ref h), (1, .int (zI s)), (2, .int (zI d))] (by decide) (Nat.le_of_ble_eq_true rfl) rfl (fun E gg hret => ?_)
  have r1_hs := hs.1
  have r2_hs := hs.2
  refine z_iload_n (pc := 0) 1 gg dX3_steamOf_0 rfl rfl ?_
  refine z_if_lt (pc := 1) 10 gg dX3_steamOf_1 (by decide) ⟨by omega, by omega⟩ (fun h1 => ?_) (fun h1 => ?_)
  · refine z_iconst (pc := 10) gg dX3_steamOf_10 ?_
    exact hret (-1) () 11 _ _ _ (Nat.le_of_ble_eq_true rfl) (Nat.le_of_ble_eq_true rfl) dX3_steamOf_11 rfl (by omega)
  · refine z_iload_n (pc := 4) 1 gg dX3_steamOf_4 rfl rfl ?_
    refine z_bipush (pc := 5) gg dX3_steamOf_5 (by decide +kernel) ?_
    refine z_icmp_lt (pc := 7) 12 gg dX3_steamOf_7 (by decide) ⟨by omega, by omega⟩ ⟨by omega, by omega⟩ (fun h7 => ?_) (fun h7 => ?_)
    · refine z_aload_n (pc := 12) 0 gg dX3_steamOf_12 rfl rfl ?_
      refine z_get (pc := 13) 0 gg fl_X3_11 dX3_steamOf_13 rfl rfl ?_
      refine z_iload_n (pc := 16) 1 gg dX3_steamOf_16 rfl rfl ?_
      refine z_iconst (pc := 17) gg dX3_steamOf_17 ?_
      refine z_iadd (pc := 18) gg dX3_steamOf_18 ?_
      refine z_iald (pc := 19) 1 (s.toNat + 1) gg dX3_steamOf_19 rfl (by omega) (by omega) (by decide) ?_
      rw [hx_s (show s.toNat < 9 by omega)]
      have hb2 := hf s.toNat (by omega)
      refine z_sipush (pc := 20) gg dX3_steamOf_20 (by decide +kernel) ?_
      refine z_isub (pc := 23) gg dX3_steamOf_23 ?_
      refine z_istore_n (pc := 24) [(3, .int (zI ((f s.toNat) - 10000))), (0, .ref h), (1, .int (zI s)), (2, .int (zI d))] gg dX3_steamOf_24 rfl (Nat.le_of_ble_eq_true rfl) rfl ?_
      refine z_iload_n (pc := 25) 0 gg dX3_steamOf_25 rfl rfl ?_
      refine z_if_le (pc := 26) 38 gg dX3_steamOf_26 (by decide) ⟨by omega, by omega⟩ (fun h26 => ?_) (fun h26 => ?_)
      · refine z_iconst (pc := 38) gg dX3_steamOf_38 ?_
        exact hret 0 () 39 _ _ _ (Nat.le_of_ble_eq_true rfl) (Nat.le_of_ble_eq_true rfl) dX3_steamOf_39 rfl (Or.inl ⟨by omega, by omega, by unfold stm; rw [if_neg (by omega)]⟩)
      · refine z_iload_n (pc := 29) 0 gg dX3_steamOf_29 rfl rfl ?_
        refine z_iload_n (pc := 30) 3 gg dX3_steamOf_30 rfl rfl ?_
        refine z_imul (pc := 31) gg dX3_steamOf_31 ?_
        have m1 : 0 ≤ (f s.toNat - 10000) * d := Int.mul_nonneg (by omega) hd.1
        have m2 : (f s.toNat - 10000) * d ≤ 15000 * 20 := Int.mul_le_mul (by omega) hd.2 hd.1 (by omega)
        refine z_bipush (pc := 32) gg dX3_steamOf_32 (by decide +kernel) ?_
        refine z_idivn (pc := 34) gg dX3_steamOf_34 (by omega) (by omega) (by omega) (by omega) ?_
        refine z_goto (pc := 35) 39 gg dX3_steamOf_35 (by decide) ?_
        exact hret ((((f s.toNat) - 10000) * d) / 100) () 39 _ _ _ (Nat.le_of_ble_eq_true rfl) (Nat.le_of_ble_eq_true rfl) dX3_steamOf_39 rfl (Or.inl ⟨by omega, by omega, by unfold stm; rw [if_pos (by omega)]⟩)
    · refine z_iconst (pc := 10) gg dX3_steamOf_10 ?_
      exact hret (-1) () 11 _ _ _ (Nat.le_of_ble_eq_true rfl) (Nat.le_of_ble_eq_true rfl) dX3_steamOf_11 rfl (by omega)
set_option maxHeartbeats 4000000 in
set_option maxRecDepth 100000 in
theorem c_H_mayOpen (M : KM) (h a b c : Nat) (T : Int) (f bf cu : Nat → Int) (need d : Int) (hn : 0 ≤ need ∧ need ≤ 5000) (hd : 0 ≤ d ∧ d ≤ 20) (hf : ∀ j, j < 9 → 0 ≤ f j ∧ f j ≤ 25000) (hc : ∀ j, j < 9 → 0 ≤ cu j ∧ cu j ≤ 1000000) : kCI M yX3_mayOpen cX3_mayOpen 4 .boolean 1 0 0 [cO 3 h [.ref a, .ref b, .ref c], cI M a 11 (hx T f), cI M b 11 bf, cI M c 9 cu] [.ref h, .int (zI need), .int (zI d)] (fun z (u : Unit) => (z = 1 ∧ opn f cu need d) ∨ (z = 0 ∧ ¬ opn f cu need d)) (fun u => [cO 3 h [.ref a, .ref b, .ref c], cI M a 11 (hx T f), cI M b 11 bf, cI M c 9 cu]) := by
  refine kCI.of [(0, .ref h), (1, .int (zI need)), (2, .int (zI d))] (by decide) (Nat.le_of_ble_eq_true rfl) rfl (fun E gg hret => ?_)
  refine z_iconst (pc := 0) gg dX3_mayOpen_0 ?_
  refine z_istore_n (pc := 1) [(3, .int (zI 0)), (0, .ref h), (1, .int (zI need)), (2, .int (zI d))] gg dX3_mayOpen_1 rfl (Nat.le_of_ble_eq_true rfl) rfl ?_
  have loop2 : ∀ (k2 : Nat) (i : Int), (0 ≤ i ∧ i ≤ 9) → (∀ s, s < i.toNat → need ≤ cu s ∧ stm (f s) d ≤ cu s) → 9 - i.toNat < k2 → kV M E 4 0 0 [cO 3 h [.ref a, .ref b, .ref c], cI M a 11 (hx T f), cI M b 11 bf, cI M c 9 cu] [(3, .int (zI i)), (0, .ref h), (1, .int (zI need)), (2, .int (zI d))] 2 [] := by
    intro k2
    induction k2 with
    | zero => intro i hi ko hm2; exact absurd hm2 (Nat.not_lt_zero _)
    | succ k2 ih2 =>
      intro i hi ko hm2
      refine z_iload_n (pc := 2) 0 gg dX3_mayOpen_2 rfl rfl ?_
      refine z_bipush (pc := 3) gg dX3_mayOpen_3 (by decide +kernel) ?_
      refine z_icmp_ge (pc := 5) 41 gg dX3_mayOpen_5 (by decide) ⟨by omega, by omega⟩ ⟨by omega, by omega⟩ (fun h5 => ?_) (fun h5 => ?_)
      · refine z_iconst (pc := 41) gg dX3_mayOpen_41 ?_
        exact hret 1 () 42 _ _ _ (Nat.le_of_ble_eq_true rfl) (Nat.le_of_ble_eq_true rfl) dX3_mayOpen_42 (zB01 (by omega)) (Or.inl ⟨rfl, fun s hs => ko s (by omega)⟩)
      · refine z_aload_n (pc := 8) 1 gg dX3_mayOpen_8 rfl rfl ?_
        refine z_get (pc := 9) 0 gg fl_X3_18 dX3_mayOpen_9 rfl rfl ?_
        refine z_iload_n (pc := 12) 0 gg dX3_mayOpen_12 rfl rfl ?_
        refine z_iald (pc := 13) 3 i.toNat gg dX3_mayOpen_13 rfl (by omega) (by omega) (by decide) ?_
        have hf13 := hc i.toNat (by omega)
        refine z_iload_n (pc := 14) 2 gg dX3_mayOpen_14 rfl rfl ?_
        refine z_icmp_lt (pc := 15) 33 gg dX3_mayOpen_15 (by decide) ⟨by omega, by omega⟩ ⟨by omega, by omega⟩ (fun h15 => ?_) (fun h15 => ?_)
        · refine z_iconst (pc := 33) gg dX3_mayOpen_33 ?_
          exact hret 0 () 34 _ _ _ (Nat.le_of_ble_eq_true rfl) (Nat.le_of_ble_eq_true rfl) dX3_mayOpen_34 (zB01 (by omega)) (Or.inr ⟨rfl, fun ho => by have := ho i.toNat (by omega); omega⟩)
        · refine z_aload_n (pc := 18) 1 gg dX3_mayOpen_18 rfl rfl ?_
          refine z_iload_n (pc := 19) 0 gg dX3_mayOpen_19 rfl rfl ?_
          refine z_iload_n (pc := 20) 3 gg dX3_mayOpen_20 rfl rfl ?_
          refine z_callWi (pc := 21) (As := [.int (zI i), .int (zI d)]) (st := []) gg (c_H_steamOf M h a b c T f bf cu i d (by first | assumption | omega | exact ⟨by omega, by omega⟩) (by first | assumption | omega | exact ⟨by omega, by omega⟩) (by first | assumption | omega | exact ⟨by omega, by omega⟩)) yv_3_steamOf ml_X3_27 dX3_mayOpen_21 (by decide) (Nat.le_of_ble_eq_true rfl) (Nat.le_of_ble_eq_true rfl) (Nat.le_of_ble_eq_true rfl) rfl rfl rfl (fun z21 u21 hz21 => ?_)
          have hz9 : z21 = stm (f i.toNat) d := by omega
          have sb := stm_b (hf i.toNat (by omega)).2 hd
          rw [← hz9] at sb
          refine z_aload_n (pc := 24) 1 gg dX3_mayOpen_24 rfl rfl ?_
          refine z_get (pc := 25) 0 gg fl_X3_18 dX3_mayOpen_25 rfl rfl ?_
          refine z_iload_n (pc := 28) 0 gg dX3_mayOpen_28 rfl rfl ?_
          refine z_iald (pc := 29) 3 i.toNat gg dX3_mayOpen_29 rfl (by omega) (by omega) (by decide) ?_
          have hf29 := hc i.toNat (by omega)
          refine z_icmp_le (pc := 30) 35 gg dX3_mayOpen_30 (by decide) ⟨by omega, by omega⟩ ⟨by omega, by omega⟩ (fun h30 => ?_) (fun h30 => ?_)
          · refine z_iinc (pc := 35) 0 [(3, .int (zI (i + 1))), (0, .ref h), (1, .int (zI need)), (2, .int (zI d))] gg dX3_mayOpen_35 rfl (Nat.le_of_ble_eq_true rfl) rfl ?_
            refine z_goto (pc := 38) 2 gg dX3_mayOpen_38 (by decide) ?_
            exact ih2 (i + 1) (by omega) (fun s hs => by
        by_cases e : s = i.toNat
        · rw [e]; omega
        · exact ko s (by omega)) (by omega)
          · refine z_iconst (pc := 33) gg dX3_mayOpen_33 ?_
            exact hret 0 () 34 _ _ _ (Nat.le_of_ble_eq_true rfl) (Nat.le_of_ble_eq_true rfl) dX3_mayOpen_34 (zB01 (by omega)) (Or.inr ⟨rfl, fun ho => by have := ho i.toNat (by omega); omega⟩)
  exact loop2 _ 0 (by omega) (fun j hj => absurd hj (by omega)) (Nat.lt_succ_self _)
