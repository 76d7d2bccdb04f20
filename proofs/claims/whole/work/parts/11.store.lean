set_option maxHeartbeats 4000000 in
set_option maxRecDepth 100000 in
theorem c_L_has (M : KM) (h g n : Nat) (fg : Nat → Int) (b : Int) (hn : n ≤ 8) (hb : zR b) : kCI M yX4_has cX4_has 2 .boolean 0 0 0 [cO 4 h [.int (zI (n : Int)), .ref g], cI M g 8 fg] [.ref h, .int (zI b)] (fun z (u : Unit) => (z = 1 ∧ 0 ≤ b ∧ b < n) ∨ (z = 0 ∧ (b < 0 ∨ (n : Int) ≤ b))) (fun u => [cO 4 h [.int (zI (n : Int)), .ref g], cI M g 8 fg]) := by
  refine kCI.of [(0, .ref h), (1, .int (zI b))] (by decide) (Nat.le_of_ble_eq_true rfl) rfl (fun E gg hret => ?_)
  have r1_hb := hb.1
  have r2_hb := hb.2
  refine z_iload_n (pc := 0) 1 gg dX4_has_0 rfl rfl ?_
  refine z_if_lt (pc := 1) 16 gg dX4_has_1 (by decide) ⟨by omega, by omega⟩ (fun h1 => ?_) (fun h1 => ?_)
  · refine z_iconst (pc := 16) gg dX4_has_16 ?_
    exact hret 0 () 17 _ _ _ (Nat.le_of_ble_eq_true rfl) (Nat.le_of_ble_eq_true rfl) dX4_has_17 (zB01 (by omega)) (by omega)
  · refine z_iload_n (pc := 4) 1 gg dX4_has_4 rfl rfl ?_
    refine z_aload_n (pc := 5) 0 gg dX4_has_5 rfl rfl ?_
    refine z_get (pc := 6) 0 gg fl_X4_9 dX4_has_6 rfl rfl ?_
    refine z_icmp_ge (pc := 9) 16 gg dX4_has_9 (by decide) ⟨by omega, by omega⟩ ⟨by omega, by omega⟩ (fun h9 => ?_) (fun h9 => ?_)
    · refine z_iconst (pc := 16) gg dX4_has_16 ?_
      exact hret 0 () 17 _ _ _ (Nat.le_of_ble_eq_true rfl) (Nat.le_of_ble_eq_true rfl) dX4_has_17 (zB01 (by omega)) (by omega)
    · refine z_iconst (pc := 12) gg dX4_has_12 ?_
      refine z_goto (pc := 13) 17 gg dX4_has_13 (by decide) ?_
      exact hret 1 () 17 _ _ _ (Nat.le_of_ble_eq_true rfl) (Nat.le_of_ble_eq_true rfl) dX4_has_17 (zB01 (by omega)) (by omega)
set_option maxHeartbeats 4000000 in
set_option maxRecDepth 100000 in
theorem c_L_add_ok (M : KM) (h g n : Nat) (fg : Nat → Int) (x : Int) (hn : n < 8) (hx : 1 ≤ x ∧ x ≤ 100000) : kCI M yX4_add cX4_add 2 .int 0 0 0 [cO 4 h [.int (zI (n : Int)), .ref g], cI M g 8 fg] [.ref h, .int (zI x)] (fun z (u : Unit) => z = n) (fun u => [cO 4 h [.int (zI ((n : Int) + 1)), .ref g], cI M g 8 (zU fg n x)]) := by
  refine kCI.of [(0, .ref h), (1, .int (zI x))] (by decide) (Nat.le_of_ble_eq_true rfl) rfl (fun E gg hret => ?_)
  refine z_aload_n (pc := 0) 0 gg dX4_add_0 rfl rfl ?_
  refine z_get (pc := 1) 0 gg fl_X4_9 dX4_add_1 rfl rfl ?_
  refine z_bipush (pc := 4) gg dX4_add_4 (by decide +kernel) ?_
  refine z_icmp_ge (pc := 6) 20 gg dX4_add_6 (by decide) ⟨by omega, by omega⟩ ⟨by omega, by omega⟩ (fun h6 => ?_) (fun h6 => ?_)
  · exfalso; omega
  · refine z_iload_n (pc := 9) 1 gg dX4_add_9 rfl rfl ?_
    refine z_iconst (pc := 10) gg dX4_add_10 ?_
    refine z_icmp_lt (pc := 11) 20 gg dX4_add_11 (by decide) ⟨by omega, by omega⟩ ⟨by omega, by omega⟩ (fun h11 => ?_) (fun h11 => ?_)
    · exfalso; omega
    · refine z_iload_n (pc := 14) 1 gg dX4_add_14 rfl rfl ?_
      refine z_ldc (pc := 15) (n := 100000) gg dX4_add_15 kc_X4_19 (by decide +kernel) ?_
      refine z_icmp_le (pc := 17) 22 gg dX4_add_17 (by decide) ⟨by omega, by omega⟩ ⟨by omega, by omega⟩ (fun h17 => ?_) (fun h17 => ?_)
      · refine z_aload_n (pc := 22) 0 gg dX4_add_22 rfl rfl ?_
        refine z_get (pc := 23) 0 gg fl_X4_15 dX4_add_23 rfl rfl ?_
        refine z_aload_n (pc := 26) 0 gg dX4_add_26 rfl rfl ?_
        refine z_get (pc := 27) 0 gg fl_X4_9 dX4_add_27 rfl rfl ?_
        refine z_iload_n (pc := 30) 1 gg dX4_add_30 rfl rfl ?_
        refine z_iast (pc := 31) 1 n [cO 4 h [.int (zI (n : Int)), .ref g], cI M g 8 (zU fg n x)] gg dX4_add_31 rfl (by omega) (by omega) (by decide) rfl ?_
        refine z_aload_n (pc := 32) 0 gg dX4_add_32 rfl rfl ?_
        refine z_dup (pc := 33) gg dX4_add_33 rfl ?_
        refine z_get (pc := 34) 0 gg fl_X4_9 dX4_add_34 rfl rfl ?_
        refine z_iconst (pc := 37) gg dX4_add_37 ?_
        refine z_iadd (pc := 38) gg dX4_add_38 ?_
        refine z_put (pc := 39) 0 [cO 4 h [.int (zI ((n : Int) + 1)), .ref g], cI M g 8 (zU fg n x)] gg fp_X4_9 dX4_add_39 rfl rfl rfl (Nat.le_of_ble_eq_true rfl) rfl ?_
        refine z_aload_n (pc := 42) 0 gg dX4_add_42 rfl rfl ?_
        refine z_get (pc := 43) 0 gg fl_X4_9 dX4_add_43 rfl rfl ?_
        refine z_iconst (pc := 46) gg dX4_add_46 ?_
        refine z_isub (pc := 47) gg dX4_add_47 ?_
        exact hret (((n : Int) + 1) - 1) () 48 _ _ _ (Nat.le_of_ble_eq_true rfl) (Nat.le_of_ble_eq_true rfl) dX4_add_48 rfl (by omega)
      · exfalso; omega
set_option maxHeartbeats 4000000 in
set_option maxRecDepth 100000 in
theorem c_L_add_no (M : KM) (h g n : Nat) (fg : Nat → Int) (x : Int) (hn : n ≤ 8) (hx : n = 8 ∨ x < 1 ∨ 100000 < x) (hr : zR x) : kCI M yX4_add cX4_add 2 .int 0 0 0 [cO 4 h [.int (zI (n : Int)), .ref g], cI M g 8 fg] [.ref h, .int (zI x)] (fun z (u : Unit) => z = -1) (fun u => [cO 4 h [.int (zI (n : Int)), .ref g], cI M g 8 fg]) := by
  refine kCI.of [(0, .ref h), (1, .int (zI x))] (by decide) (Nat.le_of_ble_eq_true rfl) rfl (fun E gg hret => ?_)
  have r1_hr := hr.1
  have r2_hr := hr.2
  refine z_aload_n (pc := 0) 0 gg dX4_add_0 rfl rfl ?_
  refine z_get (pc := 1) 0 gg fl_X4_9 dX4_add_1 rfl rfl ?_
  refine z_bipush (pc := 4) gg dX4_add_4 (by decide +kernel) ?_
  refine z_icmp_ge (pc := 6) 20 gg dX4_add_6 (by decide) ⟨by omega, by omega⟩ ⟨by omega, by omega⟩ (fun h6 => ?_) (fun h6 => ?_)
  · refine z_iconst (pc := 20) gg dX4_add_20 ?_
    exact hret (-1) () 21 _ _ _ (Nat.le_of_ble_eq_true rfl) (Nat.le_of_ble_eq_true rfl) dX4_add_21 rfl (by omega)
  · refine z_iload_n (pc := 9) 1 gg dX4_add_9 rfl rfl ?_
    refine z_iconst (pc := 10) gg dX4_add_10 ?_
    refine z_icmp_lt (pc := 11) 20 gg dX4_add_11 (by decide) ⟨by omega, by omega⟩ ⟨by omega, by omega⟩ (fun h11 => ?_) (fun h11 => ?_)
    · refine z_iconst (pc := 20) gg dX4_add_20 ?_
      exact hret (-1) () 21 _ _ _ (Nat.le_of_ble_eq_true rfl) (Nat.le_of_ble_eq_true rfl) dX4_add_21 rfl (by omega)
    · refine z_iload_n (pc := 14) 1 gg dX4_add_14 rfl rfl ?_
      refine z_ldc (pc := 15) (n := 100000) gg dX4_add_15 kc_X4_19 (by decide +kernel) ?_
      refine z_icmp_le (pc := 17) 22 gg dX4_add_17 (by decide) ⟨by omega, by omega⟩ ⟨by omega, by omega⟩ (fun h17 => ?_) (fun h17 => ?_)
      · exfalso; omega
      · refine z_iconst (pc := 20) gg dX4_add_20 ?_
        exact hret (-1) () 21 _ _ _ (Nat.le_of_ble_eq_true rfl) (Nat.le_of_ble_eq_true rfl) dX4_add_21 rfl (by omega)
set_option maxHeartbeats 4000000 in
set_option maxRecDepth 100000 in
theorem c_L_gramsOf (M : KM) (h g n : Nat) (fg : Nat → Int) (b : Int) (hn : n ≤ 8) (hb : zR b) : kCI M yX4_gramsOf cX4_gramsOf 2 .int 1 0 0 [cO 4 h [.int (zI (n : Int)), .ref g], cI M g 8 fg] [.ref h, .int (zI b)] (fun z (u : Unit) => (0 ≤ b ∧ b < n ∧ z = fg b.toNat) ∨ ((b < 0 ∨ (n : Int) ≤ b) ∧ z = -1)) (fun u => [cO 4 h [.int (zI (n : Int)), .ref g], cI M g 8 fg]) := by
  refine kCI.of [(0, .ref h), (1, .int (zI b))] (by decide) (Nat.le_of_ble_eq_true rfl) rfl (fun E gg hret => ?_)
  have r1_hb := hb.1
  have r2_hb := hb.2
  refine z_aload_n (pc := 0) 0 gg dX4_gramsOf_0 rfl rfl ?_
  refine z_iload_n (pc := 1) 1 gg dX4_gramsOf_1 rfl rfl ?_
  refine z_callWi (pc := 2) (As := [.int (zI b)]) (st := []) gg (c_L_has M h g n fg b (by first | assumption | omega | exact ⟨by omega, by omega⟩) (by first | assumption | omega | exact ⟨by omega, by omega⟩)) yv_4_has ml_X4_20 dX4_gramsOf_2 (by decide) (Nat.le_of_ble_eq_true rfl) (Nat.le_of_ble_eq_true rfl) (Nat.le_of_ble_eq_true rfl) rfl rfl rfl (fun z2 u2 hz2 => ?_)
  refine z_if_eq (pc := 5) 17 gg dX4_gramsOf_5 (by decide) ⟨by omega, by omega⟩ (fun h5 => ?_) (fun h5 => ?_)
  · refine z_iconst (pc := 17) gg dX4_gramsOf_17 ?_
    exact hret (-1) () 18 _ _ _ (Nat.le_of_ble_eq_true rfl) (Nat.le_of_ble_eq_true rfl) dX4_gramsOf_18 rfl (by omega)
  · refine z_aload_n (pc := 8) 0 gg dX4_gramsOf_8 rfl rfl ?_
    refine z_get (pc := 9) 0 gg fl_X4_15 dX4_gramsOf_9 rfl rfl ?_
    refine z_iload_n (pc := 12) 1 gg dX4_gramsOf_12 rfl rfl ?_
    refine z_iald (pc := 13) 1 b.toNat gg dX4_gramsOf_13 rfl (by omega) (by omega) (by decide) ?_
    refine z_goto (pc := 14) 18 gg dX4_gramsOf_14 (by decide) ?_
    exact hret (fg b.toNat) () 18 _ _ _ (Nat.le_of_ble_eq_true rfl) (Nat.le_of_ble_eq_true rfl) dX4_gramsOf_18 rfl (by omega)
set_option maxHeartbeats 4000000 in
set_option maxRecDepth 100000 in
theorem c_L_total (M : KM) (h g n : Nat) (fg : Nat → Int) (hn : n ≤ 8) (hf : ∀ j, j < 8 → 0 ≤ fg j ∧ fg j ≤ 100000) : kCI M yX4_total cX4_total 3 .int 0 0 0 [cO 4 h [.int (zI (n : Int)), .ref g], cI M g 8 fg] [.ref h] (fun z (u : Unit) => z = zS fg n) (fun u => [cO 4 h [.int (zI (n : Int)), .ref g], cI M g 8 fg]) := by
  refine kCI.of [(0, .ref h)] (by decide) (Nat.le_of_ble_eq_true rfl) rfl (fun E gg hret => ?_)
  refine z_iconst (pc := 0) gg dX4_total_0 ?_
  refine z_istore_n (pc := 1) [(1, .int (zI 0)), (0, .ref h)] gg dX4_total_1 rfl (Nat.le_of_ble_eq_true rfl) rfl ?_
  refine z_iconst (pc := 2) gg dX4_total_2 ?_
  refine z_istore_n (pc := 3) [(2, .int (zI 0)), (1, .int (zI 0)), (0, .ref h)] gg dX4_total_3 rfl (Nat.le_of_ble_eq_true rfl) rfl ?_
  have loop4 : ∀ (k4 : Nat) (i s : Int), (0 ≤ i ∧ i ≤ n) → (s = zS fg i.toNat) → (n : Int).toNat - i.toNat < k4 → kV M E 3 0 0 [cO 4 h [.int (zI (n : Int)), .ref g], cI M g 8 fg] [(2, .int (zI i)), (1, .int (zI s)), (0, .ref h)] 4 [] := by
    intro k4
    induction k4 with
    | zero => intro i s hi hs hm4; exact absurd hm4 (Nat.not_lt_zero _)
    | succ k4 ih4 =>
      intro i s hi hs hm4
      refine z_iload_n (pc := 4) 0 gg dX4_total_4 rfl rfl ?_
      refine z_aload_n (pc := 5) 2 gg dX4_total_5 rfl rfl ?_
      refine z_get (pc := 6) 0 gg fl_X4_9 dX4_total_6 rfl rfl ?_
      refine z_icmp_ge (pc := 9) 33 gg dX4_total_9 (by decide) ⟨by omega, by omega⟩ ⟨by omega, by omega⟩ (fun h9 => ?_) (fun h9 => ?_)
      · refine z_iload_n (pc := 33) 1 gg dX4_total_33 rfl rfl ?_
        exact hret s () 34 _ _ _ (Nat.le_of_ble_eq_true rfl) (Nat.le_of_ble_eq_true rfl) dX4_total_34 rfl (by rw [hs]; congr 1; omega)
      · refine z_iload_n (pc := 12) 0 gg dX4_total_12 rfl rfl ?_
        refine z_bipush (pc := 13) gg dX4_total_13 (by decide +kernel) ?_
        refine z_icmp_ge (pc := 15) 33 gg dX4_total_15 (by decide) ⟨by omega, by omega⟩ ⟨by omega, by omega⟩ (fun h15 => ?_) (fun h15 => ?_)
        · exfalso; omega
        · refine z_iload_n (pc := 18) 1 gg dX4_total_18 rfl rfl ?_
          refine z_aload_n (pc := 19) 2 gg dX4_total_19 rfl rfl ?_
          refine z_get (pc := 20) 0 gg fl_X4_15 dX4_total_20 rfl rfl ?_
          refine z_iload_n (pc := 23) 0 gg dX4_total_23 rfl rfl ?_
          refine z_iald (pc := 24) 1 i.toNat gg dX4_total_24 rfl (by omega) (by omega) (by decide) ?_
          refine z_iadd (pc := 25) gg dX4_total_25 ?_
          refine z_istore_n (pc := 26) [(1, .int (zI (s + (fg i.toNat)))), (2, .int (zI i)), (0, .ref h)] gg dX4_total_26 rfl (Nat.le_of_ble_eq_true rfl) rfl ?_
          refine z_iinc (pc := 27) 1 [(2, .int (zI (i + 1))), (1, .int (zI (s + (fg i.toNat)))), (0, .ref h)] gg dX4_total_27 rfl (Nat.le_of_ble_eq_true rfl) rfl ?_
          refine z_goto (pc := 30) 4 gg dX4_total_30 (by decide) ?_
          exact ih4 (i + 1) (s + fg i.toNat) (by omega) (by rw [zS_step (by omega), hs]) (by omega)
  exact loop4 _ 0 0 (by omega) rfl (Nat.lt_succ_self _)
set_option maxHeartbeats 4000000 in
set_option maxRecDepth 100000 in
theorem c_L_draw (M : KM) (h g n : Nat) (fg : Nat → Int) (q : Int) (hn : n ≤ 8) (hf : ∀ j, j < 8 → 0 ≤ fg j ∧ fg j ≤ 100000) (hq : 0 ≤ q ∧ q ≤ 100000) : kCI M yX4_draw cX4_draw 6 .int 1 0 0 [cO 4 h [.int (zI (n : Int)), .ref g], cI M g 8 fg] [.ref h, .int (zI q)] (fun z (u : Unit) => z = dB fg q n) (fun u => [cO 4 h [.int (zI (n : Int)), .ref g], cI M g 8 (dG fg q n)]) := by
  refine kCI.of [(0, .ref h), (1, .int (zI q))] (by decide) (Nat.le_of_ble_eq_true rfl) rfl (fun E gg hret => ?_)
  refine z_iconst (pc := 0) gg dX4_draw_0 ?_
  refine z_istore_n (pc := 1) [(2, .int (zI 0)), (0, .ref h), (1, .int (zI q))] gg dX4_draw_1 rfl (Nat.le_of_ble_eq_true rfl) rfl ?_
  refine z_iload_n (pc := 2) 2 gg dX4_draw_2 rfl rfl ?_
  refine z_istore_n (pc := 3) [(3, .int (zI q)), (2, .int (zI 0)), (0, .ref h), (1, .int (zI q))] gg dX4_draw_3 rfl (Nat.le_of_ble_eq_true rfl) rfl ?_
  refine z_iconst (pc := 4) gg dX4_draw_4 ?_
  refine z_istore (pc := 5) [(4, .int (zI 0)), (3, .int (zI q)), (2, .int (zI 0)), (0, .ref h), (1, .int (zI q))] gg dX4_draw_5 (Nat.le_of_ble_eq_true rfl) rfl ?_
  have loop7 : ∀ (k7 : Nat) (i o b : Int) (f : Nat → Int), (0 ≤ i ∧ i ≤ n) → (o = dL fg q i.toNat) → (b = dB fg q i.toNat) → (f = dG fg q i.toNat) → (n : Int).toNat - i.toNat < k7 → kV M E 6 0 0 [cO 4 h [.int (zI (n : Int)), .ref g], cI M g 8 f] [(4, .int (zI i)), (3, .int (zI o)), (2, .int (zI b)), (0, .ref h), (1, .int (zI q))] 7 [] := by
    intro k7
    induction k7 with
    | zero => intro i o b f hi ho hb hg hm7; exact absurd hm7 (Nat.not_lt_zero _)
    | succ k7 ih7 =>
      intro i o b f hi ho hb hg hm7
      have e0 := dL_nn (f := fg) (q := q) hq.1 (n := i.toNat) (fun j hj => (hf j (by omega)).1)
      have eR := dB_R fg q i.toNat
      refine z_iload (pc := 7) 0 gg dX4_draw_7 rfl ?_
      refine z_aload_n (pc := 9) 3 gg dX4_draw_9 rfl rfl ?_
      refine z_get (pc := 10) 0 gg fl_X4_9 dX4_draw_10 rfl rfl ?_
      refine z_icmp_ge (pc := 13) 71 gg dX4_draw_13 (by decide) ⟨by omega, by omega⟩ ⟨by omega, by omega⟩ (fun h13 => ?_) (fun h13 => ?_)
      · refine z_iload_n (pc := 71) 2 gg dX4_draw_71 rfl rfl ?_
        have en : i.toNat = n := by omega
        rw [en] at hg
        subst hg
        exact hret b () 72 _ _ _ (Nat.le_of_ble_eq_true rfl) (Nat.le_of_ble_eq_true rfl) dX4_draw_72 rfl (by rw [hb, en])
      · refine z_iload (pc := 16) 0 gg dX4_draw_16 rfl ?_
        refine z_bipush (pc := 18) gg dX4_draw_18 (by decide +kernel) ?_
        refine z_icmp_ge (pc := 20) 71 gg dX4_draw_20 (by decide) ⟨by omega, by omega⟩ ⟨by omega, by omega⟩ (fun h20 => ?_) (fun h20 => ?_)
        · exfalso; omega
        · refine z_iload_n (pc := 23) 1 gg dX4_draw_23 rfl rfl ?_
          refine z_aload_n (pc := 24) 3 gg dX4_draw_24 rfl rfl ?_
          refine z_get (pc := 25) 0 gg fl_X4_15 dX4_draw_25 rfl rfl ?_
          refine z_iload (pc := 28) 0 gg dX4_draw_28 rfl ?_
          refine z_iald (pc := 30) 1 i.toNat gg dX4_draw_30 rfl (by omega) (by omega) (by decide) ?_
          have ef : f i.toNat = fg i.toNat := by rw [hg, dG_at]
          have e1 := hf i.toNat (by omega)
          rw [ef]
          refine z_min (pc := 31) gg dX4_draw_31 ml_X4_24 mm_min1 mm_0 mm_min2 (by decide) (Nat.le_of_ble_eq_true rfl) (Nat.le_of_ble_eq_true rfl) (Nat.le_of_ble_eq_true rfl) ⟨by omega, by omega⟩ ⟨by omega, by omega⟩ ?_
          refine z_istore (pc := 34) [(5, .int (zI (if (fg i.toNat) < o then (fg i.toNat) else o))), (4, .int (zI i)), (3, .int (zI o)), (2, .int (zI b)), (0, .ref h), (1, .int (zI q))] gg dX4_draw_34 (Nat.le_of_ble_eq_true rfl) rfl ?_
          have e9 : 0 ≤ (if fg i.toNat < o then fg i.toNat else o) ∧ (if fg i.toNat < o then fg i.toNat else o) ≤ 100000 := by split <;> omega
          refine z_iload (pc := 36) 0 gg dX4_draw_36 rfl ?_
          refine z_if_le (pc := 38) 65 gg dX4_draw_38 (by decide) ⟨by omega, by omega⟩ (fun h38 => ?_) (fun h38 => ?_)
          · refine z_iinc (pc := 65) 1 [(4, .int (zI (i + 1))), (5, .int (zI (if (fg i.toNat) < o then (fg i.toNat) else o))), (3, .int (zI o)), (2, .int (zI b)), (0, .ref h), (1, .int (zI q))] gg dX4_draw_65 rfl (Nat.le_of_ble_eq_true rfl) rfl ?_
            refine z_goto (pc := 68) 7 gg dX4_draw_68 (by decide) ?_
            refine z_lv [(4, .int (zI (i + 1))), (3, .int (zI o)), (2, .int (zI b)), (0, .ref h), (1, .int (zI q))] [0, 2, 3, 4, 5] rfl ?_
            exact ih7 (i + 1) o b f (by omega) (by rw [dL_step (by omega)]; unfold dV; rw [← ho]; omega) (by rw [dB_step (by omega), ← hb]; unfold dV; rw [← ho, if_neg (by omega)]) (by rw [dG_stepz (by omega) (by unfold dV; rw [← ho]; omega), hg]) (by omega)
          · refine z_aload_n (pc := 41) 4 gg dX4_draw_41 rfl rfl ?_
            refine z_get (pc := 42) 0 gg fl_X4_15 dX4_draw_42 rfl rfl ?_
            refine z_iload (pc := 45) 1 gg dX4_draw_45 rfl ?_
            refine z_dup2 (pc := 47) gg dX4_draw_47 rfl rfl ?_
            refine z_iald (pc := 48) 1 i.toNat gg dX4_draw_48 rfl (by omega) (by omega) (by decide) ?_
            rw [ef]
            refine z_iload (pc := 49) 0 gg dX4_draw_49 rfl ?_
            refine z_isub (pc := 51) gg dX4_draw_51 ?_
            refine z_iast (pc := 52) 1 i.toNat [cO 4 h [.int (zI (n : Int)), .ref g], cI M g 8 (zU f i.toNat ((fg i.toNat) - (if (fg i.toNat) < o then (fg i.toNat) else o)))] gg dX4_draw_52 rfl (by omega) (by omega) (by decide) rfl ?_
            refine z_iload_n (pc := 53) 2 gg dX4_draw_53 rfl rfl ?_
            refine z_iload (pc := 54) 0 gg dX4_draw_54 rfl ?_
            refine z_isub (pc := 56) gg dX4_draw_56 ?_
            refine z_istore_n (pc := 57) [(3, .int (zI (o - (if (fg i.toNat) < o then (fg i.toNat) else o)))), (5, .int (zI (if (fg i.toNat) < o then (fg i.toNat) else o))), (4, .int (zI i)), (2, .int (zI b)), (0, .ref h), (1, .int (zI q))] gg dX4_draw_57 rfl (Nat.le_of_ble_eq_true rfl) rfl ?_
            refine z_iload_n (pc := 58) 3 gg dX4_draw_58 rfl rfl ?_
            refine z_iconst (pc := 59) gg dX4_draw_59 ?_
            refine z_iload (pc := 60) 2 gg dX4_draw_60 rfl ?_
            refine z_ishl (pc := 62) gg dX4_draw_62 ?_
            refine z_ior (pc := 63) gg dX4_draw_63 ?_
            refine z_istore_n (pc := 64) [(2, .int (zI (zOr b (zShl 1 i)))), (3, .int (zI (o - (if (fg i.toNat) < o then (fg i.toNat) else o)))), (5, .int (zI (if (fg i.toNat) < o then (fg i.toNat) else o))), (4, .int (zI i)), (0, .ref h), (1, .int (zI q))] gg dX4_draw_64 rfl (Nat.le_of_ble_eq_true rfl) rfl ?_
            refine z_iinc (pc := 65) 3 [(4, .int (zI (i + 1))), (2, .int (zI (zOr b (zShl 1 i)))), (3, .int (zI (o - (if (fg i.toNat) < o then (fg i.toNat) else o)))), (5, .int (zI (if (fg i.toNat) < o then (fg i.toNat) else o))), (0, .ref h), (1, .int (zI q))] gg dX4_draw_65 rfl (Nat.le_of_ble_eq_true rfl) rfl ?_
            refine z_goto (pc := 68) 7 gg dX4_draw_68 (by decide) ?_
            refine z_lv [(4, .int (zI (i + 1))), (3, .int (zI (o - (if (fg i.toNat) < o then (fg i.toNat) else o)))), (2, .int (zI (zOr b (zShl 1 i)))), (0, .ref h), (1, .int (zI q))] [0, 2, 1, 4, 5] rfl ?_
            exact ih7 (i + 1) (o - (if (fg i.toNat) < o then (fg i.toNat) else o)) (zOr b (zShl 1 i)) (zU f i.toNat ((fg i.toNat) - (if (fg i.toNat) < o then (fg i.toNat) else o))) (by omega) (by rw [dL_step (by omega)]; unfold dV; rw [← ho]) (by rw [dB_step (by omega), ← hb]; unfold dV; rw [← ho, if_pos (by omega)]) (by rw [dG_step (by omega), hg]; unfold dV; rw [← ho]) (by omega)
  exact loop7 _ 0 q 0 fg (by omega) rfl rfl (dG_0 fg q).symm (Nat.lt_succ_self _)
set_option maxHeartbeats 4000000 in
set_option maxRecDepth 100000 in
theorem c_L_copyFrom (M : KM) (h g n : Nat) (fg : Nat → Int) (h2 g2 n2 : Nat) (fg2 : Nat → Int)  : kCV M yX4_copyFrom cX4_copyFrom 2 1 0 0 [cO 4 h [.int (zI (n : Int)), .ref g], cI M g 8 fg, cO 4 h2 [.int (zI (n2 : Int)), .ref g2], cI M g2 8 fg2] [.ref h, .ref h2] (fun u : Unit => True) (fun u => [cO 4 h [.int (zI (n2 : Int)), .ref g], cI M g 8 fg2, cO 4 h2 [.int (zI (n2 : Int)), .ref g2], cI M g2 8 fg2]) := by
  refine kCV.of [(0, .ref h), (1, .ref h2)] (by decide) (Nat.le_of_ble_eq_true rfl) rfl (fun E gg gn hret => ?_)
  refine z_aload_n (pc := 0) 0 gg dX4_copyFrom_0 rfl rfl ?_
  refine z_aload_n (pc := 1) 1 gg dX4_copyFrom_1 rfl rfl ?_
  refine z_get (pc := 2) 2 gg fl_X4_9 dX4_copyFrom_2 rfl rfl ?_
  refine z_put (pc := 5) 0 [cO 4 h [.int (zI (n2 : Int)), .ref g], cI M g 8 fg, cO 4 h2 [.int (zI (n2 : Int)), .ref g2], cI M g2 8 fg2] gg fp_X4_9 dX4_copyFrom_5 rfl rfl rfl (Nat.le_of_ble_eq_true rfl) rfl ?_
  refine z_aload_n (pc := 8) 1 gg dX4_copyFrom_8 rfl rfl ?_
  refine z_get (pc := 9) 2 gg fl_X4_15 dX4_copyFrom_9 rfl rfl ?_
  refine z_iconst (pc := 12) gg dX4_copyFrom_12 ?_
  refine z_aload_n (pc := 13) 0 gg dX4_copyFrom_13 rfl rfl ?_
  refine z_get (pc := 14) 0 gg fl_X4_15 dX4_copyFrom_14 rfl rfl ?_
  refine z_iconst (pc := 17) gg dX4_copyFrom_17 ?_
  refine z_bipush (pc := 18) gg dX4_copyFrom_18 (by decide +kernel) ?_
  refine z_copy (pc := 20) 3 1 [cO 4 h [.int (zI (n2 : Int)), .ref g], cI M g 8 fg2, cO 4 h2 [.int (zI (n2 : Int)), .ref g2], cI M g2 8 fg2] gg dX4_copyFrom_20 ml_X4_30 ac_1 ac_2 ac_3 (by decide) (Nat.le_of_ble_eq_true rfl) rfl rfl rfl (by decide) rfl ?_
  exact hret () 23 _ _ _ (Nat.le_of_ble_eq_true rfl) (Nat.le_of_ble_eq_true rfl) dX4_copyFrom_23 trivial
set_option maxHeartbeats 4000000 in
set_option maxRecDepth 100000 in
theorem c_L_init (M : KM) (h : Nat)  : kCV M yX4_init cX4_init 1 1 1 8 [cO 4 h [.int (zI 0), .null]] [.ref h] (fun u : Nat => True) (fun u => [cO 4 h [.int (zI 0), .ref u], cI M u 8 (fun _ => 0)]) := by
  refine kCV.of [(0, .ref h)] (by decide) (Nat.le_of_ble_eq_true rfl) rfl (fun E gg gn hret => ?_)
  refine z_aload_n (pc := 0) 0 gg dX4_init_0 rfl rfl ?_
  refine z_obj (pc := 1) gg dX4_init_1 ml_X4_3 oi_1 oi_2 (by decide) (Nat.le_of_ble_eq_true rfl) ?_
  refine z_aload_n (pc := 4) 0 gg dX4_init_4 rfl rfl ?_
  refine z_iconst (pc := 5) gg dX4_init_5 ?_
  refine z_put (pc := 6) 0 [cO 4 h [.int (zI 0), .null]] gg fp_X4_9 dX4_init_6 rfl rfl rfl (Nat.le_of_ble_eq_true rfl) rfl ?_
  refine z_aload_n (pc := 9) 0 gg dX4_init_9 rfl rfl ?_
  refine z_bipush (pc := 10) gg dX4_init_10 (by decide +kernel) ?_
  refine z_newaI (pc := 12) gg dX4_init_12 ar_I rfl (by decide) (Nat.le_of_ble_eq_true rfl) (Nat.le_of_ble_eq_true rfl) (fun q1 => ?_)
  show kV M E 1 _ _ [cO 4 h [.int (zI 0), .null], cI M q1 8 (fun _ => 0)] _ _ _
  refine z_putF (pc := 14) 0 [cO 4 h [.int (zI 0), .ref q1], cI M q1 8 (fun _ => 0)] gg gn fp_X4_15 dX4_init_14 rfl rfl rfl (Nat.le_of_ble_eq_true rfl) rfl ?_
  exact hret q1 17 _ _ _ (Nat.le_of_ble_eq_true rfl) (Nat.le_of_ble_eq_true rfl) dX4_init_17 trivial
set_option maxHeartbeats 4000000 in
set_option maxRecDepth 100000 in
theorem c_P_has (M : KM) (h g n : Nat) (fg : Nat → Int) (b : Int) (hn : n ≤ 4) (hb : zR b) : kCI M yX6_has cX6_has 2 .boolean 0 0 0 [cO 6 h [.int (zI (n : Int)), .ref g], cI M g 4 fg] [.ref h, .int (zI b)] (fun z (u : Unit) => (z = 1 ∧ 0 ≤ b ∧ b < n) ∨ (z = 0 ∧ (b < 0 ∨ (n : Int) ≤ b))) (fun u => [cO 6 h [.int (zI (n : Int)), .ref g], cI M g 4 fg]) := by
  refine kCI.of [(0, .ref h), (1, .int (zI b))] (by decide) (Nat.le_of_ble_eq_true rfl) rfl (fun E gg hret => ?_)
  have r1_hb := hb.1
  have r2_hb := hb.2
  refine z_iload_n (pc := 0) 1 gg dX6_has_0 rfl rfl ?_
  refine z_if_lt (pc := 1) 16 gg dX6_has_1 (by decide) ⟨by omega, by omega⟩ (fun h1 => ?_) (fun h1 => ?_)
  · refine z_iconst (pc := 16) gg dX6_has_16 ?_
    exact hret 0 () 17 _ _ _ (Nat.le_of_ble_eq_true rfl) (Nat.le_of_ble_eq_true rfl) dX6_has_17 (zB01 (by omega)) (by omega)
  · refine z_iload_n (pc := 4) 1 gg dX6_has_4 rfl rfl ?_
    refine z_aload_n (pc := 5) 0 gg dX6_has_5 rfl rfl ?_
    refine z_get (pc := 6) 0 gg fl_X6_9 dX6_has_6 rfl rfl ?_
    refine z_icmp_ge (pc := 9) 16 gg dX6_has_9 (by decide) ⟨by omega, by omega⟩ ⟨by omega, by omega⟩ (fun h9 => ?_) (fun h9 => ?_)
    · refine z_iconst (pc := 16) gg dX6_has_16 ?_
      exact hret 0 () 17 _ _ _ (Nat.le_of_ble_eq_true rfl) (Nat.le_of_ble_eq_true rfl) dX6_has_17 (zB01 (by omega)) (by omega)
    · refine z_iconst (pc := 12) gg dX6_has_12 ?_
      refine z_goto (pc := 13) 17 gg dX6_has_13 (by decide) ?_
      exact hret 1 () 17 _ _ _ (Nat.le_of_ble_eq_true rfl) (Nat.le_of_ble_eq_true rfl) dX6_has_17 (zB01 (by omega)) (by omega)
set_option maxHeartbeats 4000000 in
set_option maxRecDepth 100000 in
theorem c_P_add_ok (M : KM) (h g n : Nat) (fg : Nat → Int) (x : Int) (hn : n < 4) (hx : 100 ≤ x ∧ x ≤ 250) : kCI M yX6_add cX6_add 2 .int 0 0 0 [cO 6 h [.int (zI (n : Int)), .ref g], cI M g 4 fg] [.ref h, .int (zI x)] (fun z (u : Unit) => z = n) (fun u => [cO 6 h [.int (zI ((n : Int) + 1)), .ref g], cI M g 4 (zU fg n x)]) := by
  refine kCI.of [(0, .ref h), (1, .int (zI x))] (by decide) (Nat.le_of_ble_eq_true rfl) rfl (fun E gg hret => ?_)
  refine z_aload_n (pc := 0) 0 gg dX6_add_0 rfl rfl ?_
  refine z_get (pc := 1) 0 gg fl_X6_9 dX6_add_1 rfl rfl ?_
  refine z_iconst (pc := 4) gg dX6_add_4 ?_
  refine z_icmp_ge (pc := 5) 21 gg dX6_add_5 (by decide) ⟨by omega, by omega⟩ ⟨by omega, by omega⟩ (fun h5 => ?_) (fun h5 => ?_)
  · exfalso; omega
  · refine z_iload_n (pc := 8) 1 gg dX6_add_8 rfl rfl ?_
    refine z_bipush (pc := 9) gg dX6_add_9 (by decide +kernel) ?_
    refine z_icmp_lt (pc := 11) 21 gg dX6_add_11 (by decide) ⟨by omega, by omega⟩ ⟨by omega, by omega⟩ (fun h11 => ?_) (fun h11 => ?_)
    · exfalso; omega
    · refine z_iload_n (pc := 14) 1 gg dX6_add_14 rfl rfl ?_
      refine z_sipush (pc := 15) gg dX6_add_15 (by decide +kernel) ?_
      refine z_icmp_le (pc := 18) 23 gg dX6_add_18 (by decide) ⟨by omega, by omega⟩ ⟨by omega, by omega⟩ (fun h18 => ?_) (fun h18 => ?_)
      · refine z_aload_n (pc := 23) 0 gg dX6_add_23 rfl rfl ?_
        refine z_get (pc := 24) 0 gg fl_X6_15 dX6_add_24 rfl rfl ?_
        refine z_aload_n (pc := 27) 0 gg dX6_add_27 rfl rfl ?_
        refine z_get (pc := 28) 0 gg fl_X6_9 dX6_add_28 rfl rfl ?_
        refine z_iload_n (pc := 31) 1 gg dX6_add_31 rfl rfl ?_
        refine z_iast (pc := 32) 1 n [cO 6 h [.int (zI (n : Int)), .ref g], cI M g 4 (zU fg n x)] gg dX6_add_32 rfl (by omega) (by omega) (by decide) rfl ?_
        refine z_aload_n (pc := 33) 0 gg dX6_add_33 rfl rfl ?_
        refine z_dup (pc := 34) gg dX6_add_34 rfl ?_
        refine z_get (pc := 35) 0 gg fl_X6_9 dX6_add_35 rfl rfl ?_
        refine z_iconst (pc := 38) gg dX6_add_38 ?_
        refine z_iadd (pc := 39) gg dX6_add_39 ?_
        refine z_put (pc := 40) 0 [cO 6 h [.int (zI ((n : Int) + 1)), .ref g], cI M g 4 (zU fg n x)] gg fp_X6_9 dX6_add_40 rfl rfl rfl (Nat.le_of_ble_eq_true rfl) rfl ?_
        refine z_aload_n (pc := 43) 0 gg dX6_add_43 rfl rfl ?_
        refine z_get (pc := 44) 0 gg fl_X6_9 dX6_add_44 rfl rfl ?_
        refine z_iconst (pc := 47) gg dX6_add_47 ?_
        refine z_isub (pc := 48) gg dX6_add_48 ?_
        exact hret (((n : Int) + 1) - 1) () 49 _ _ _ (Nat.le_of_ble_eq_true rfl) (Nat.le_of_ble_eq_true rfl) dX6_add_49 rfl (by omega)
      · exfalso; omega
set_option maxHeartbeats 4000000 in
set_option maxRecDepth 100000 in
theorem c_P_add_no (M : KM) (h g n : Nat) (fg : Nat → Int) (x : Int) (hn : n ≤ 4) (hx : n = 4 ∨ x < 100 ∨ 250 < x) (hr : zR x) : kCI M yX6_add cX6_add 2 .int 0 0 0 [cO 6 h [.int (zI (n : Int)), .ref g], cI M g 4 fg] [.ref h, .int (zI x)] (fun z (u : Unit) => z = -1) (fun u => [cO 6 h [.int (zI (n : Int)), .ref g], cI M g 4 fg]) := by
  refine kCI.of [(0, .ref h), (1, .int (zI x))] (by decide) (Nat.le_of_ble_eq_true rfl) rfl (fun E gg hret => ?_)
  have r1_hr := hr.1
  have r2_hr := hr.2
  refine z_aload_n (pc := 0) 0 gg dX6_add_0 rfl rfl ?_
  refine z_get (pc := 1) 0 gg fl_X6_9 dX6_add_1 rfl rfl ?_
  refine z_iconst (pc := 4) gg dX6_add_4 ?_
  refine z_icmp_ge (pc := 5) 21 gg dX6_add_5 (by decide) ⟨by omega, by omega⟩ ⟨by omega, by omega⟩ (fun h5 => ?_) (fun h5 => ?_)
  · refine z_iconst (pc := 21) gg dX6_add_21 ?_
    exact hret (-1) () 22 _ _ _ (Nat.le_of_ble_eq_true rfl) (Nat.le_of_ble_eq_true rfl) dX6_add_22 rfl (by omega)
  · refine z_iload_n (pc := 8) 1 gg dX6_add_8 rfl rfl ?_
    refine z_bipush (pc := 9) gg dX6_add_9 (by decide +kernel) ?_
    refine z_icmp_lt (pc := 11) 21 gg dX6_add_11 (by decide) ⟨by omega, by omega⟩ ⟨by omega, by omega⟩ (fun h11 => ?_) (fun h11 => ?_)
    · refine z_iconst (pc := 21) gg dX6_add_21 ?_
      exact hret (-1) () 22 _ _ _ (Nat.le_of_ble_eq_true rfl) (Nat.le_of_ble_eq_true rfl) dX6_add_22 rfl (by omega)
    · refine z_iload_n (pc := 14) 1 gg dX6_add_14 rfl rfl ?_
      refine z_sipush (pc := 15) gg dX6_add_15 (by decide +kernel) ?_
      refine z_icmp_le (pc := 18) 23 gg dX6_add_18 (by decide) ⟨by omega, by omega⟩ ⟨by omega, by omega⟩ (fun h18 => ?_) (fun h18 => ?_)
      · exfalso; omega
      · refine z_iconst (pc := 21) gg dX6_add_21 ?_
        exact hret (-1) () 22 _ _ _ (Nat.le_of_ble_eq_true rfl) (Nat.le_of_ble_eq_true rfl) dX6_add_22 rfl (by omega)
set_option maxHeartbeats 4000000 in
set_option maxRecDepth 100000 in
theorem c_P_heatOf (M : KM) (h g n : Nat) (fg : Nat → Int) (b : Int) (hn : n ≤ 4) (hb : 0 ≤ b ∧ b < n) : kCI M yX6_heatOf cX6_heatOf 2 .int 1 0 0 [cO 6 h [.int (zI (n : Int)), .ref g], cI M g 4 fg] [.ref h, .int (zI b)] (fun z (u : Unit) => z = fg b.toNat) (fun u => [cO 6 h [.int (zI (n : Int)), .ref g], cI M g 4 fg]) := by
  refine kCI.of [(0, .ref h), (1, .int (zI b))] (by decide) (Nat.le_of_ble_eq_true rfl) rfl (fun E gg hret => ?_)
  refine z_aload_n (pc := 0) 0 gg dX6_heatOf_0 rfl rfl ?_
  refine z_iload_n (pc := 1) 1 gg dX6_heatOf_1 rfl rfl ?_
  refine z_callWi (pc := 2) (As := [.int (zI b)]) (st := []) gg (c_P_has M h g n fg b (by first | assumption | omega | exact ⟨by omega, by omega⟩) (by first | assumption | omega | exact ⟨by omega, by omega⟩)) yv_6_has ml_X6_19 dX6_heatOf_2 (by decide) (Nat.le_of_ble_eq_true rfl) (Nat.le_of_ble_eq_true rfl) (Nat.le_of_ble_eq_true rfl) rfl rfl rfl (fun z2 u2 hz2 => ?_)
  refine z_if_eq (pc := 5) 17 gg dX6_heatOf_5 (by decide) ⟨by omega, by omega⟩ (fun h5 => ?_) (fun h5 => ?_)
  · exfalso; omega
  · refine z_aload_n (pc := 8) 0 gg dX6_heatOf_8 rfl rfl ?_
    refine z_get (pc := 9) 0 gg fl_X6_15 dX6_heatOf_9 rfl rfl ?_
    refine z_iload_n (pc := 12) 1 gg dX6_heatOf_12 rfl rfl ?_
    refine z_iald (pc := 13) 1 b.toNat gg dX6_heatOf_13 rfl (by omega) (by omega) (by decide) ?_
    refine z_goto (pc := 14) 18 gg dX6_heatOf_14 (by decide) ?_
    exact hret (fg b.toNat) () 18 _ _ _ (Nat.le_of_ble_eq_true rfl) (Nat.le_of_ble_eq_true rfl) dX6_heatOf_18 rfl rfl
set_option maxHeartbeats 4000000 in
set_option maxRecDepth 100000 in
theorem c_P_copyFrom (M : KM) (h g n : Nat) (fg : Nat → Int) (h2 g2 n2 : Nat) (fg2 : Nat → Int)  : kCV M yX6_copyFrom cX6_copyFrom 2 1 0 0 [cO 6 h [.int (zI (n : Int)), .ref g], cI M g 4 fg, cO 6 h2 [.int (zI (n2 : Int)), .ref g2], cI M g2 4 fg2] [.ref h, .ref h2] (fun u : Unit => True) (fun u => [cO 6 h [.int (zI (n2 : Int)), .ref g], cI M g 4 fg2, cO 6 h2 [.int (zI (n2 : Int)), .ref g2], cI M g2 4 fg2]) := by
  refine kCV.of [(0, .ref h), (1, .ref h2)] (by decide) (Nat.le_of_ble_eq_true rfl) rfl (fun E gg gn hret => ?_)
  refine z_aload_n (pc := 0) 0 gg dX6_copyFrom_0 rfl rfl ?_
  refine z_aload_n (pc := 1) 1 gg dX6_copyFrom_1 rfl rfl ?_
  refine z_get (pc := 2) 2 gg fl_X6_9 dX6_copyFrom_2 rfl rfl ?_
  refine z_put (pc := 5) 0 [cO 6 h [.int (zI (n2 : Int)), .ref g], cI M g 4 fg, cO 6 h2 [.int (zI (n2 : Int)), .ref g2], cI M g2 4 fg2] gg fp_X6_9 dX6_copyFrom_5 rfl rfl rfl (Nat.le_of_ble_eq_true rfl) rfl ?_
  refine z_aload_n (pc := 8) 1 gg dX6_copyFrom_8 rfl rfl ?_
  refine z_get (pc := 9) 2 gg fl_X6_15 dX6_copyFrom_9 rfl rfl ?_
  refine z_iconst (pc := 12) gg dX6_copyFrom_12 ?_
  refine z_aload_n (pc := 13) 0 gg dX6_copyFrom_13 rfl rfl ?_
  refine z_get (pc := 14) 0 gg fl_X6_15 dX6_copyFrom_14 rfl rfl ?_
  refine z_iconst (pc := 17) gg dX6_copyFrom_17 ?_
  refine z_iconst (pc := 18) gg dX6_copyFrom_18 ?_
  refine z_copy (pc := 19) 3 1 [cO 6 h [.int (zI (n2 : Int)), .ref g], cI M g 4 fg2, cO 6 h2 [.int (zI (n2 : Int)), .ref g2], cI M g2 4 fg2] gg dX6_copyFrom_19 ml_X6_23 ac_1 ac_2 ac_3 (by decide) (Nat.le_of_ble_eq_true rfl) rfl rfl rfl (by decide) rfl ?_
  exact hret () 22 _ _ _ (Nat.le_of_ble_eq_true rfl) (Nat.le_of_ble_eq_true rfl) dX6_copyFrom_22 trivial
set_option maxHeartbeats 4000000 in
set_option maxRecDepth 100000 in
theorem c_P_init (M : KM) (h : Nat)  : kCV M yX6_init cX6_init 1 1 1 4 [cO 6 h [.int (zI 0), .null]] [.ref h] (fun u : Nat => True) (fun u => [cO 6 h [.int (zI 0), .ref u], cI M u 4 (fun _ => 0)]) := by
  refine kCV.of [(0, .ref h)] (by decide) (Nat.le_of_ble_eq_true rfl) rfl (fun E gg gn hret => ?_)
  refine z_aload_n (pc := 0) 0 gg dX6_init_0 rfl rfl ?_
  refine z_obj (pc := 1) gg dX6_init_1 ml_X6_3 oi_1 oi_2 (by decide) (Nat.le_of_ble_eq_true rfl) ?_
  refine z_aload_n (pc := 4) 0 gg dX6_init_4 rfl rfl ?_
  refine z_iconst (pc := 5) gg dX6_init_5 ?_
  refine z_put (pc := 6) 0 [cO 6 h [.int (zI 0), .null]] gg fp_X6_9 dX6_init_6 rfl rfl rfl (Nat.le_of_ble_eq_true rfl) rfl ?_
  refine z_aload_n (pc := 9) 0 gg dX6_init_9 rfl rfl ?_
  refine z_iconst (pc := 10) gg dX6_init_10 ?_
  refine z_newaI (pc := 11) gg dX6_init_11 ar_I rfl (by decide) (Nat.le_of_ble_eq_true rfl) (Nat.le_of_ble_eq_true rfl) (fun q1 => ?_)
  show kV M E 1 _ _ [cO 6 h [.int (zI 0), .null], cI M q1 4 (fun _ => 0)] _ _ _
  refine z_putF (pc := 13) 0 [cO 6 h [.int (zI 0), .ref q1], cI M q1 4 (fun _ => 0)] gg gn fp_X6_15 dX6_init_13 rfl rfl rfl (Nat.le_of_ble_eq_true rfl) rfl ?_
  exact hret q1 16 _ _ _ (Nat.le_of_ble_eq_true rfl) (Nat.le_of_ble_eq_true rfl) dX6_init_16 trivial
set_option maxHeartbeats 4000000 in
set_option maxRecDepth 100000 in
theorem c_M_isFull (M : KM) (h g n : Nat) (F : Nat → Int) (hn : n ≤ 24) : kCI M yX5_isFull cX5_isFull 1 .boolean 0 0 0 [cO 5 h [.int (zI (n : Int)), .ref g], cI M g 192 F] [.ref h] (fun z (u : Unit) => (z = 1 ∧ n = 24) ∨ (z = 0 ∧ n < 24)) (fun u => [cO 5 h [.int (zI (n : Int)), .ref g], cI M g 192 F]) := by
  refine kCI.of [(0, .ref h)] (by decide) (Nat.le_of_ble_eq_true rfl) rfl (fun E gg hret => ?_)
  refine z_aload_n (pc := 0) 0 gg dX5_isFull_0 rfl rfl ?_
  refine z_get (pc := 1) 0 gg fl_X5_9 dX5_isFull_1 rfl rfl ?_
  refine z_bipush (pc := 4) gg dX5_isFull_4 (by decide +kernel) ?_
  refine z_icmp_lt (pc := 6) 13 gg dX5_isFull_6 (by decide) ⟨by omega, by omega⟩ ⟨by omega, by omega⟩ (fun h6 => ?_) (fun h6 => ?_)
  · refine z_iconst (pc := 13) gg dX5_isFull_13 ?_
    exact hret 0 () 14 _ _ _ (Nat.le_of_ble_eq_true rfl) (Nat.le_of_ble_eq_true rfl) dX5_isFull_14 (zB01 (by omega)) (by omega)
  · refine z_iconst (pc := 9) gg dX5_isFull_9 ?_
    refine z_goto (pc := 10) 14 gg dX5_isFull_10 (by decide) ?_
    exact hret 1 () 14 _ _ _ (Nat.le_of_ble_eq_true rfl) (Nat.le_of_ble_eq_true rfl) dX5_isFull_14 (zB01 (by omega)) (by omega)
set_option maxHeartbeats 4000000 in
set_option maxRecDepth 100000 in
theorem c_M_add (M : KM) (h g n : Nat) (F : Nat → Int) (hn : n < 24) : kCI M yX5_add cX5_add 1 .int 1 0 0 [cO 5 h [.int (zI (n : Int)), .ref g], cI M g 192 F] [.ref h] (fun z (u : Unit) => z = n) (fun u => [cO 5 h [.int (zI ((n : Int) + 1)), .ref g], cI M g 192 F]) := by
  refine kCI.of [(0, .ref h)] (by decide) (Nat.le_of_ble_eq_true rfl) rfl (fun E gg hret => ?_)
  refine z_aload_n (pc := 0) 0 gg dX5_add_0 rfl rfl ?_
  refine z_callWi (pc := 1) (As := []) (st := []) gg (c_M_isFull M h g n F (by first | assumption | omega | exact ⟨by omega, by omega⟩)) yv_5_isFull ml_X5_19 dX5_add_1 (by decide) (Nat.le_of_ble_eq_true rfl) (Nat.le_of_ble_eq_true rfl) (Nat.le_of_ble_eq_true rfl) rfl rfl rfl (fun z1 u1 hz1 => ?_)
  refine z_if_eq (pc := 4) 9 gg dX5_add_4 (by decide) ⟨by omega, by omega⟩ (fun h4 => ?_) (fun h4 => ?_)
  · refine z_aload_n (pc := 9) 0 gg dX5_add_9 rfl rfl ?_
    refine z_dup (pc := 10) gg dX5_add_10 rfl ?_
    refine z_get (pc := 11) 0 gg fl_X5_9 dX5_add_11 rfl rfl ?_
    refine z_iconst (pc := 14) gg dX5_add_14 ?_
    refine z_iadd (pc := 15) gg dX5_add_15 ?_
    refine z_put (pc := 16) 0 [cO 5 h [.int (zI ((n : Int) + 1)), .ref g], cI M g 192 F] gg fp_X5_9 dX5_add_16 rfl rfl rfl (Nat.le_of_ble_eq_true rfl) rfl ?_
    refine z_aload_n (pc := 19) 0 gg dX5_add_19 rfl rfl ?_
    refine z_get (pc := 20) 0 gg fl_X5_9 dX5_add_20 rfl rfl ?_
    refine z_iconst (pc := 23) gg dX5_add_23 ?_
    refine z_isub (pc := 24) gg dX5_add_24 ?_
    exact hret (((n : Int) + 1) - 1) () 25 _ _ _ (Nat.le_of_ble_eq_true rfl) (Nat.le_of_ble_eq_true rfl) dX5_add_25 rfl (by omega)
  · exfalso; omega
set_option maxHeartbeats 4000000 in
set_option maxRecDepth 100000 in
theorem c_M_has (M : KM) (h g n : Nat) (F : Nat → Int) (b : Int) (hn : n ≤ 24) (hb : zR b) : kCI M yX5_has cX5_has 2 .boolean 0 0 0 [cO 5 h [.int (zI (n : Int)), .ref g], cI M g 192 F] [.ref h, .int (zI b)] (fun z (u : Unit) => (z = 1 ∧ 0 ≤ b ∧ b < n) ∨ (z = 0 ∧ (b < 0 ∨ (n : Int) ≤ b))) (fun u => [cO 5 h [.int (zI (n : Int)), .ref g], cI M g 192 F]) := by
  refine kCI.of [(0, .ref h), (1, .int (zI b))] (by decide) (Nat.le_of_ble_eq_true rfl) rfl (fun E gg hret => ?_)
  have r1_hb := hb.1
  have r2_hb := hb.2
  refine z_iload_n (pc := 0) 1 gg dX5_has_0 rfl rfl ?_
  refine z_if_lt (pc := 1) 16 gg dX5_has_1 (by decide) ⟨by omega, by omega⟩ (fun h1 => ?_) (fun h1 => ?_)
  · refine z_iconst (pc := 16) gg dX5_has_16 ?_
    exact hret 0 () 17 _ _ _ (Nat.le_of_ble_eq_true rfl) (Nat.le_of_ble_eq_true rfl) dX5_has_17 (zB01 (by omega)) (by omega)
  · refine z_iload_n (pc := 4) 1 gg dX5_has_4 rfl rfl ?_
    refine z_aload_n (pc := 5) 0 gg dX5_has_5 rfl rfl ?_
    refine z_get (pc := 6) 0 gg fl_X5_9 dX5_has_6 rfl rfl ?_
    refine z_icmp_ge (pc := 9) 16 gg dX5_has_9 (by decide) ⟨by omega, by omega⟩ ⟨by omega, by omega⟩ (fun h9 => ?_) (fun h9 => ?_)
    · refine z_iconst (pc := 16) gg dX5_has_16 ?_
      exact hret 0 () 17 _ _ _ (Nat.le_of_ble_eq_true rfl) (Nat.le_of_ble_eq_true rfl) dX5_has_17 (zB01 (by omega)) (by omega)
    · refine z_iconst (pc := 12) gg dX5_has_12 ?_
      refine z_goto (pc := 13) 17 gg dX5_has_13 (by decide) ?_
      exact hret 1 () 17 _ _ _ (Nat.le_of_ble_eq_true rfl) (Nat.le_of_ble_eq_true rfl) dX5_has_17 (zB01 (by omega)) (by omega)
set_option maxHeartbeats 4000000 in
set_option maxRecDepth 100000 in
theorem c_M_get (M : KM) (h g n : Nat) (F : Nat → Int) (b w : Int) (hn : n ≤ 24) (hb : zR b) (hw : zR w) : kCI M yX5_get cX5_get 3 .int 1 0 0 [cO 5 h [.int (zI (n : Int)), .ref g], cI M g 192 F] [.ref h, .int (zI b), .int (zI w)] (fun z (u : Unit) => (0 ≤ b ∧ b < n ∧ 0 ≤ w ∧ w < 8 ∧ z = F (b.toNat * 8 + w.toNat)) ∨ ((b < 0 ∨ (n : Int) ≤ b ∨ w < 0 ∨ 8 ≤ w) ∧ z = -1)) (fun u => [cO 5 h [.int (zI (n : Int)), .ref g], cI M g 192 F]) := by
  refine kCI.of [(0, .ref h), (1, .int (zI b)), (2, .int (zI w))] (by decide) (Nat.le_of_ble_eq_true rfl) rfl (fun E gg hret => ?_)
  have r1_hb := hb.1
  have r2_hb := hb.2
  have r1_hw := hw.1
  have r2_hw := hw.2
  refine z_aload_n (pc := 0) 0 gg dX5_get_0 rfl rfl ?_
  refine z_iload_n (pc := 1) 1 gg dX5_get_1 rfl rfl ?_
  refine z_callWi (pc := 2) (As := [.int (zI b)]) (st := []) gg (c_M_has M h g n F b (by first | assumption | omega | exact ⟨by omega, by omega⟩) (by first | assumption | omega | exact ⟨by omega, by omega⟩)) yv_5_has ml_X5_23 dX5_get_2 (by decide) (Nat.le_of_ble_eq_true rfl) (Nat.le_of_ble_eq_true rfl) (Nat.le_of_ble_eq_true rfl) rfl rfl rfl (fun z2 u2 hz2 => ?_)
  refine z_if_eq (pc := 5) 32 gg dX5_get_5 (by decide) ⟨by omega, by omega⟩ (fun h5 => ?_) (fun h5 => ?_)
  · refine z_iconst (pc := 32) gg dX5_get_32 ?_
    exact hret (-1) () 33 _ _ _ (Nat.le_of_ble_eq_true rfl) (Nat.le_of_ble_eq_true rfl) dX5_get_33 rfl (by omega)
  · refine z_iload_n (pc := 8) 2 gg dX5_get_8 rfl rfl ?_
    refine z_if_lt (pc := 9) 32 gg dX5_get_9 (by decide) ⟨by omega, by omega⟩ (fun h9 => ?_) (fun h9 => ?_)
    · refine z_iconst (pc := 32) gg dX5_get_32 ?_
      exact hret (-1) () 33 _ _ _ (Nat.le_of_ble_eq_true rfl) (Nat.le_of_ble_eq_true rfl) dX5_get_33 rfl (by omega)
    · refine z_iload_n (pc := 12) 2 gg dX5_get_12 rfl rfl ?_
      refine z_bipush (pc := 13) gg dX5_get_13 (by decide +kernel) ?_
      refine z_icmp_ge (pc := 15) 32 gg dX5_get_15 (by decide) ⟨by omega, by omega⟩ ⟨by omega, by omega⟩ (fun h15 => ?_) (fun h15 => ?_)
      · refine z_iconst (pc := 32) gg dX5_get_32 ?_
        exact hret (-1) () 33 _ _ _ (Nat.le_of_ble_eq_true rfl) (Nat.le_of_ble_eq_true rfl) dX5_get_33 rfl (by omega)
      · refine z_aload_n (pc := 18) 0 gg dX5_get_18 rfl rfl ?_
        refine z_get (pc := 19) 0 gg fl_X5_15 dX5_get_19 rfl rfl ?_
        refine z_iload_n (pc := 22) 1 gg dX5_get_22 rfl rfl ?_
        refine z_bipush (pc := 23) gg dX5_get_23 (by decide +kernel) ?_
        refine z_imul (pc := 25) gg dX5_get_25 ?_
        refine z_iload_n (pc := 26) 2 gg dX5_get_26 rfl rfl ?_
        refine z_iadd (pc := 27) gg dX5_get_27 ?_
        refine z_iald (pc := 28) 1 ((b.toNat * 8) + w.toNat) gg dX5_get_28 rfl (by omega) (by omega) (by decide) ?_
        refine z_goto (pc := 29) 33 gg dX5_get_29 (by decide) ?_
        exact hret (F ((b.toNat * 8) + w.toNat)) () 33 _ _ _ (Nat.le_of_ble_eq_true rfl) (Nat.le_of_ble_eq_true rfl) dX5_get_33 rfl (by omega)
set_option maxHeartbeats 4000000 in
set_option maxRecDepth 100000 in
theorem c_M_getk (M : KM) (h g n : Nat) (F : Nat → Int) (b : Int) (k : Nat) (hn : n ≤ 24) (hb : 0 ≤ b ∧ b < n) (hk : k < 8) : kCI M yX5_get cX5_get 3 .int 1 0 0 [cO 5 h [.int (zI (n : Int)), .ref g], cI M g 192 F] [.ref h, .int (zI b), .int (zI (k : Int))] (fun z (u : Unit) => z = F (b.toNat * 8 + k)) (fun u => [cO 5 h [.int (zI (n : Int)), .ref g], cI M g 192 F]) := by
  refine kCI.of [(0, .ref h), (1, .int (zI b)), (2, .int (zI (k : Int)))] (by decide) (Nat.le_of_ble_eq_true rfl) rfl (fun E gg hret => ?_)
  refine z_aload_n (pc := 0) 0 gg dX5_get_0 rfl rfl ?_
  refine z_iload_n (pc := 1) 1 gg dX5_get_1 rfl rfl ?_
  refine z_callWi (pc := 2) (As := [.int (zI b)]) (st := []) gg (c_M_has M h g n F b (by first | assumption | omega | exact ⟨by omega, by omega⟩) (by first | assumption | omega | exact ⟨by omega, by omega⟩)) yv_5_has ml_X5_23 dX5_get_2 (by decide) (Nat.le_of_ble_eq_true rfl) (Nat.le_of_ble_eq_true rfl) (Nat.le_of_ble_eq_true rfl) rfl rfl rfl (fun z2 u2 hz2 => ?_)
  refine z_if_eq (pc := 5) 32 gg dX5_get_5 (by decide) ⟨by omega, by omega⟩ (fun h5 => ?_) (fun h5 => ?_)
  · exfalso; omega
  · refine z_iload_n (pc := 8) 2 gg dX5_get_8 rfl rfl ?_
    refine z_if_lt (pc := 9) 32 gg dX5_get_9 (by decide) ⟨by omega, by omega⟩ (fun h9 => ?_) (fun h9 => ?_)
    · exfalso; omega
    · refine z_iload_n (pc := 12) 2 gg dX5_get_12 rfl rfl ?_
      refine z_bipush (pc := 13) gg dX5_get_13 (by decide +kernel) ?_
      refine z_icmp_ge (pc := 15) 32 gg dX5_get_15 (by decide) ⟨by omega, by omega⟩ ⟨by omega, by omega⟩ (fun h15 => ?_) (fun h15 => ?_)
      · exfalso; omega
      · refine z_aload_n (pc := 18) 0 gg dX5_get_18 rfl rfl ?_
        refine z_get (pc := 19) 0 gg fl_X5_15 dX5_get_19 rfl rfl ?_
        refine z_iload_n (pc := 22) 1 gg dX5_get_22 rfl rfl ?_
        refine z_bipush (pc := 23) gg dX5_get_23 (by decide +kernel) ?_
        refine z_imul (pc := 25) gg dX5_get_25 ?_
        refine z_iload_n (pc := 26) 2 gg dX5_get_26 rfl rfl ?_
        refine z_iadd (pc := 27) gg dX5_get_27 ?_
        refine z_iald (pc := 28) 1 ((b.toNat * 8) + k) gg dX5_get_28 rfl (by omega) (by omega) (by decide) ?_
        refine z_goto (pc := 29) 33 gg dX5_get_29 (by decide) ?_
        exact hret (F ((b.toNat * 8) + k)) () 33 _ _ _ (Nat.le_of_ble_eq_true rfl) (Nat.le_of_ble_eq_true rfl) dX5_get_33 rfl rfl
set_option maxHeartbeats 4000000 in
set_option maxRecDepth 100000 in
theorem c_M_putk (M : KM) (h g n : Nat) (F : Nat → Int) (b : Int) (k : Nat) (x : Int) (hn : n ≤ 24) (hb : 0 ≤ b ∧ b < n) (hk : k < 8) : kCV M yX5_put cX5_put 4 1 0 0 [cO 5 h [.int (zI (n : Int)), .ref g], cI M g 192 F] [.ref h, .int (zI b), .int (zI (k : Int)), .int (zI x)] (fun u : Unit => True) (fun u => [cO 5 h [.int (zI (n : Int)), .ref g], cI M g 192 (zU F (b.toNat * 8 + k) x)]) := by
  refine kCV.of [(0, .ref h), (1, .int (zI b)), (2, .int (zI (k : Int))), (3, .int (zI x))] (by decide) (Nat.le_of_ble_eq_true rfl) rfl (fun E gg gn hret => ?_)
  refine z_aload_n (pc := 0) 0 gg dX5_put_0 rfl rfl ?_
  refine z_iload_n (pc := 1) 1 gg dX5_put_1 rfl rfl ?_
  refine z_callWi (pc := 2) (As := [.int (zI b)]) (st := []) gg (c_M_has M h g n F b (by first | assumption | omega | exact ⟨by omega, by omega⟩) (by first | assumption | omega | exact ⟨by omega, by omega⟩)) yv_5_has ml_X5_23 dX5_put_2 (by decide) (Nat.le_of_ble_eq_true rfl) (Nat.le_of_ble_eq_true rfl) (Nat.le_of_ble_eq_true rfl) rfl rfl rfl (fun z2 u2 hz2 => ?_)
  refine z_if_eq (pc := 5) 30 gg dX5_put_5 (by decide) ⟨by omega, by omega⟩ (fun h5 => ?_) (fun h5 => ?_)
  · exfalso; omega
  · refine z_iload_n (pc := 8) 2 gg dX5_put_8 rfl rfl ?_
    refine z_if_lt (pc := 9) 30 gg dX5_put_9 (by decide) ⟨by omega, by omega⟩ (fun h9 => ?_) (fun h9 => ?_)
    · exfalso; omega
    · refine z_iload_n (pc := 12) 2 gg dX5_put_12 rfl rfl ?_
      refine z_bipush (pc := 13) gg dX5_put_13 (by decide +kernel) ?_
      refine z_icmp_ge (pc := 15) 30 gg dX5_put_15 (by decide) ⟨by omega, by omega⟩ ⟨by omega, by omega⟩ (fun h15 => ?_) (fun h15 => ?_)
      · exfalso; omega
      · refine z_aload_n (pc := 18) 0 gg dX5_put_18 rfl rfl ?_
        refine z_get (pc := 19) 0 gg fl_X5_15 dX5_put_19 rfl rfl ?_
        refine z_iload_n (pc := 22) 1 gg dX5_put_22 rfl rfl ?_
        refine z_bipush (pc := 23) gg dX5_put_23 (by decide +kernel) ?_
        refine z_imul (pc := 25) gg dX5_put_25 ?_
        refine z_iload_n (pc := 26) 2 gg dX5_put_26 rfl rfl ?_
        refine z_iadd (pc := 27) gg dX5_put_27 ?_
        refine z_iload_n (pc := 28) 3 gg dX5_put_28 rfl rfl ?_
        refine z_iast (pc := 29) 1 ((b.toNat * 8) + k) [cO 5 h [.int (zI (n : Int)), .ref g], cI M g 192 (zU F ((b.toNat * 8) + k) x)] gg dX5_put_29 rfl (by omega) (by omega) (by decide) rfl ?_
        exact hret () 30 _ _ _ (Nat.le_of_ble_eq_true rfl) (Nat.le_of_ble_eq_true rfl) dX5_put_30 trivial
set_option maxHeartbeats 4000000 in
set_option maxRecDepth 100000 in
theorem c_M_isPressed (M : KM) (h g n : Nat) (F : Nat → Int) (b : Int) (hn : n ≤ 24) (hb : 0 ≤ b ∧ b < n) (hF : ∀ j, j < 192 → zR (F j)) : kCI M yX5_isPressed cX5_isPressed 2 .boolean 2 0 0 [cO 5 h [.int (zI (n : Int)), .ref g], cI M g 192 F] [.ref h, .int (zI b)] (fun z (u : Unit) => (z = 1 ∧ F (b.toNat * 8 + 7) ≠ -1) ∨ (z = 0 ∧ F (b.toNat * 8 + 7) = -1)) (fun u => [cO 5 h [.int (zI (n : Int)), .ref g], cI M g 192 F]) := by
  refine kCI.of [(0, .ref h), (1, .int (zI b))] (by decide) (Nat.le_of_ble_eq_true rfl) rfl (fun E gg hret => ?_)
  refine z_aload_n (pc := 0) 0 gg dX5_isPressed_0 rfl rfl ?_
  refine z_iload_n (pc := 1) 1 gg dX5_isPressed_1 rfl rfl ?_
  refine z_bipush (pc := 2) gg dX5_isPressed_2 (by decide +kernel) ?_
  refine z_callWi (pc := 4) (As := [.int (zI b), .int (zI 7)]) (st := []) gg (c_M_getk M h g n F b 7 (by first | assumption | omega | exact ⟨by omega, by omega⟩) (by first | assumption | omega | exact ⟨by omega, by omega⟩) (by first | assumption | omega | exact ⟨by omega, by omega⟩)) yv_5_get ml_X5_27 dX5_isPressed_4 (by decide) (Nat.le_of_ble_eq_true rfl) (Nat.le_of_ble_eq_true rfl) (Nat.le_of_ble_eq_true rfl) rfl rfl rfl (fun z4 u4 hz4 => ?_)
  refine z_iconst (pc := 7) gg dX5_isPressed_7 ?_
  refine z_icmp_eq (pc := 8) 15 gg dX5_isPressed_8 (by decide) (by rw [hz4]; exact hF _ (by omega)) ⟨by omega, by omega⟩ (fun h8 => ?_) (fun h8 => ?_)
  · refine z_iconst (pc := 15) gg dX5_isPressed_15 ?_
    exact hret 0 () 16 _ _ _ (Nat.le_of_ble_eq_true rfl) (Nat.le_of_ble_eq_true rfl) dX5_isPressed_16 (zB01 (by omega)) (by omega)
  · refine z_iconst (pc := 11) gg dX5_isPressed_11 ?_
    refine z_goto (pc := 12) 16 gg dX5_isPressed_12 (by decide) ?_
    exact hret 1 () 16 _ _ _ (Nat.le_of_ble_eq_true rfl) (Nat.le_of_ble_eq_true rfl) dX5_isPressed_16 (zB01 (by omega)) (by omega)
set_option maxHeartbeats 4000000 in
set_option maxRecDepth 100000 in
theorem c_M_pressed (M : KM) (h g n : Nat) (F : Nat → Int) (hn : n ≤ 24) (hF : ∀ j, j < 192 → zR (F j)) : kCI M yX5_pressed cX5_pressed 3 .int 3 0 0 [cO 5 h [.int (zI (n : Int)), .ref g], cI M g 192 F] [.ref h] (fun z (u : Unit) => z = pC F n) (fun u => [cO 5 h [.int (zI (n : Int)), .ref g], cI M g 192 F]) := by
  refine kCI.of [(0, .ref h)] (by decide) (Nat.le_of_ble_eq_true rfl) rfl (fun E gg hret => ?_)
  refine z_iconst (pc := 0) gg dX5_pressed_0 ?_
  refine z_istore_n (pc := 1) [(1, .int (zI 0)), (0, .ref h)] gg dX5_pressed_1 rfl (Nat.le_of_ble_eq_true rfl) rfl ?_
  refine z_iconst (pc := 2) gg dX5_pressed_2 ?_
  refine z_istore_n (pc := 3) [(2, .int (zI 0)), (1, .int (zI 0)), (0, .ref h)] gg dX5_pressed_3 rfl (Nat.le_of_ble_eq_true rfl) rfl ?_
  have loop4 : ∀ (k4 : Nat) (i s : Int), (0 ≤ i ∧ i ≤ n) → (s = pC F i.toNat) → (n : Int).toNat - i.toNat < k4 → kV M E 3 0 0 [cO 5 h [.int (zI (n : Int)), .ref g], cI M g 192 F] [(2, .int (zI i)), (1, .int (zI s)), (0, .ref h)] 4 [] := by
    intro k4
    induction k4 with
    | zero => intro i s hi hs hm4; exact absurd hm4 (Nat.not_lt_zero _)
    | succ k4 ih4 =>
      intro i s hi hs hm4
      refine z_iload_n (pc := 4) 0 gg dX5_pressed_4 rfl rfl ?_
      refine z_aload_n (pc := 5) 2 gg dX5_pressed_5 rfl rfl ?_
      refine z_get (pc := 6) 0 gg fl_X5_9 dX5_pressed_6 rfl rfl ?_
      refine z_icmp_ge (pc := 9) 35 gg dX5_pressed_9 (by decide) ⟨by omega, by omega⟩ ⟨by omega, by omega⟩ (fun h9 => ?_) (fun h9 => ?_)
      · refine z_iload_n (pc := 35) 1 gg dX5_pressed_35 rfl rfl ?_
        exact hret s () 36 _ _ _ (Nat.le_of_ble_eq_true rfl) (Nat.le_of_ble_eq_true rfl) dX5_pressed_36 rfl (by rw [hs]; congr 1; omega)
      · refine z_iload_n (pc := 12) 0 gg dX5_pressed_12 rfl rfl ?_
        refine z_bipush (pc := 13) gg dX5_pressed_13 (by decide +kernel) ?_
        refine z_icmp_ge (pc := 15) 35 gg dX5_pressed_15 (by decide) ⟨by omega, by omega⟩ ⟨by omega, by omega⟩ (fun h15 => ?_) (fun h15 => ?_)
        · exfalso; omega
        · refine z_aload_n (pc := 18) 2 gg dX5_pressed_18 rfl rfl ?_
          refine z_iload_n (pc := 19) 0 gg dX5_pressed_19 rfl rfl ?_
          refine z_callWi (pc := 20) (As := [.int (zI i)]) (st := []) gg (c_M_isPressed M h g n F i (by first | assumption | omega | exact ⟨by omega, by omega⟩) (by first | assumption | omega | exact ⟨by omega, by omega⟩) (by first | assumption | omega | exact ⟨by omega, by omega⟩)) yv_5_isPressed ml_X5_31 dX5_pressed_20 (by decide) (Nat.le_of_ble_eq_true rfl) (Nat.le_of_ble_eq_true rfl) (Nat.le_of_ble_eq_true rfl) rfl rfl rfl (fun z20 u20 hz20 => ?_)
          refine z_if_eq (pc := 23) 29 gg dX5_pressed_23 (by decide) ⟨by omega, by omega⟩ (fun h23 => ?_) (fun h23 => ?_)
          · refine z_iinc (pc := 29) 0 [(2, .int (zI (i + 1))), (1, .int (zI s)), (0, .ref h)] gg dX5_pressed_29 rfl (Nat.le_of_ble_eq_true rfl) rfl ?_
            refine z_goto (pc := 32) 4 gg dX5_pressed_32 (by decide) ?_
            exact ih4 (i + 1) s (by omega) (by unfold pC at *; rw [zS_step (by omega), ← hs]; rw [if_pos (by omega)]; omega) (by omega)
          · refine z_iinc (pc := 26) 1 [(1, .int (zI (s + 1))), (2, .int (zI i)), (0, .ref h)] gg dX5_pressed_26 rfl (Nat.le_of_ble_eq_true rfl) rfl ?_
            refine z_iinc (pc := 29) 1 [(2, .int (zI (i + 1))), (1, .int (zI (s + 1))), (0, .ref h)] gg dX5_pressed_29 rfl (Nat.le_of_ble_eq_true rfl) rfl ?_
            refine z_goto (pc := 32) 4 gg dX5_pressed_32 (by decide) ?_
            exact ih4 (i + 1) (s + 1) (by omega) (by unfold pC at *; rw [zS_step (by omega), ← hs]; rw [if_neg (by omega)]) (by omega)
  exact loop4 _ 0 0 (by omega) rfl (Nat.lt_succ_self _)
set_option maxHeartbeats 4000000 in
set_option maxRecDepth 100000 in
theorem c_M_withLot (M : KM) (h g n : Nat) (F : Nat → Int) (b : Int) (hn : n ≤ 24) (hb : 0 ≤ b ∧ b < 8) (hF : ∀ j, j < 192 → zR (F j)) : kCI M yX5_withLot cX5_withLot 4 .int 2 0 0 [cO 5 h [.int (zI (n : Int)), .ref g], cI M g 192 F] [.ref h, .int (zI b)] (fun z (u : Unit) => z = rB F b n) (fun u => [cO 5 h [.int (zI (n : Int)), .ref g], cI M g 192 F]) := by
  refine kCI.of [(0, .ref h), (1, .int (zI b))] (by decide) (Nat.le_of_ble_eq_true rfl) rfl (fun E gg hret => ?_)
  refine z_iconst (pc := 0) gg dX5_withLot_0 ?_
  refine z_istore_n (pc := 1) [(2, .int (zI 0)), (0, .ref h), (1, .int (zI b))] gg dX5_withLot_1 rfl (Nat.le_of_ble_eq_true rfl) rfl ?_
  refine z_iconst (pc := 2) gg dX5_withLot_2 ?_
  refine z_istore_n (pc := 3) [(3, .int (zI 0)), (2, .int (zI 0)), (0, .ref h), (1, .int (zI b))] gg dX5_withLot_3 rfl (Nat.le_of_ble_eq_true rfl) rfl ?_
  have loop4 : ∀ (k4 : Nat) (i s : Int), (0 ≤ i ∧ i ≤ n) → (s = rB F b i.toNat) → (n : Int).toNat - i.toNat < k4 → kV M E 4 0 0 [cO 5 h [.int (zI (n : Int)), .ref g], cI M g 192 F] [(3, .int (zI i)), (2, .int (zI s)), (0, .ref h), (1, .int (zI b))] 4 [] := by
    intro k4
    induction k4 with
    | zero => intro i s hi hs hm4; exact absurd hm4 (Nat.not_lt_zero _)
    | succ k4 ih4 =>
      intro i s hi hs hm4
      refine z_iload_n (pc := 4) 0 gg dX5_withLot_4 rfl rfl ?_
      refine z_aload_n (pc := 5) 2 gg dX5_withLot_5 rfl rfl ?_
      refine z_get (pc := 6) 0 gg fl_X5_9 dX5_withLot_6 rfl rfl ?_
      refine z_icmp_ge (pc := 9) 44 gg dX5_withLot_9 (by decide) ⟨by omega, by omega⟩ ⟨by omega, by omega⟩ (fun h9 => ?_) (fun h9 => ?_)
      · refine z_iload_n (pc := 44) 1 gg dX5_withLot_44 rfl rfl ?_
        exact hret s () 45 _ _ _ (Nat.le_of_ble_eq_true rfl) (Nat.le_of_ble_eq_true rfl) dX5_withLot_45 rfl (by rw [hs]; congr 1; omega)
      · refine z_iload_n (pc := 12) 0 gg dX5_withLot_12 rfl rfl ?_
        refine z_bipush (pc := 13) gg dX5_withLot_13 (by decide +kernel) ?_
        refine z_icmp_ge (pc := 15) 44 gg dX5_withLot_15 (by decide) ⟨by omega, by omega⟩ ⟨by omega, by omega⟩ (fun h15 => ?_) (fun h15 => ?_)
        · exfalso; omega
        · refine z_aload_n (pc := 18) 2 gg dX5_withLot_18 rfl rfl ?_
          refine z_iload_n (pc := 19) 0 gg dX5_withLot_19 rfl rfl ?_
          refine z_bipush (pc := 20) gg dX5_withLot_20 (by decide +kernel) ?_
          refine z_callWi (pc := 22) (As := [.int (zI i), .int (zI 6)]) (st := []) gg (c_M_getk M h g n F i 6 (by first | assumption | omega | exact ⟨by omega, by omega⟩) (by first | assumption | omega | exact ⟨by omega, by omega⟩) (by first | assumption | omega | exact ⟨by omega, by omega⟩)) yv_5_get ml_X5_27 dX5_withLot_22 (by decide) (Nat.le_of_ble_eq_true rfl) (Nat.le_of_ble_eq_true rfl) (Nat.le_of_ble_eq_true rfl) rfl rfl rfl (fun z22 u22 hz22 => ?_)
          subst hz22
          refine z_iload_n (pc := 25) 3 gg dX5_withLot_25 rfl rfl ?_
          refine z_ishr (pc := 26) gg dX5_withLot_26 ?_
          refine z_iconst (pc := 27) gg dX5_withLot_27 ?_
          refine z_iand (pc := 28) gg dX5_withLot_28 ?_
          refine z_if_eq (pc := 29) 38 gg dX5_withLot_29 (by decide) (zAnd_R _ _) (fun h29 => ?_) (fun h29 => ?_)
          · refine z_iinc (pc := 38) 0 [(3, .int (zI (i + 1))), (2, .int (zI s)), (0, .ref h), (1, .int (zI b))] gg dX5_withLot_38 rfl (Nat.le_of_ble_eq_true rfl) rfl ?_
            refine z_goto (pc := 41) 4 gg dX5_withLot_41 (by decide) ?_
            exact ih4 (i + 1) s (by omega) (by rw [rB_step (by omega), ← hs, if_pos h29]) (by omega)
          · refine z_iload_n (pc := 32) 1 gg dX5_withLot_32 rfl rfl ?_
            refine z_iconst (pc := 33) gg dX5_withLot_33 ?_
            refine z_iload_n (pc := 34) 0 gg dX5_withLot_34 rfl rfl ?_
            refine z_ishl (pc := 35) gg dX5_withLot_35 ?_
            refine z_ior (pc := 36) gg dX5_withLot_36 ?_
            refine z_istore_n (pc := 37) [(2, .int (zI (zOr s (zShl 1 i)))), (3, .int (zI i)), (0, .ref h), (1, .int (zI b))] gg dX5_withLot_37 rfl (Nat.le_of_ble_eq_true rfl) rfl ?_
            refine z_iinc (pc := 38) 1 [(3, .int (zI (i + 1))), (2, .int (zI (zOr s (zShl 1 i)))), (0, .ref h), (1, .int (zI b))] gg dX5_withLot_38 rfl (Nat.le_of_ble_eq_true rfl) rfl ?_
            refine z_goto (pc := 41) 4 gg dX5_withLot_41 (by decide) ?_
            exact ih4 (i + 1) (zOr s (zShl 1 i)) (by omega) (by rw [rB_step (by omega), ← hs, if_neg h29]) (by omega)
  exact loop4 _ 0 0 (by omega) rfl (Nat.lt_succ_self _)
set_option maxHeartbeats 4000000 in
set_option maxRecDepth 100000 in
theorem c_M_copyFrom (M : KM) (h g n : Nat) (F : Nat → Int) (h2 g2 n2 : Nat) (F2 : Nat → Int)  : kCV M yX5_copyFrom cX5_copyFrom 2 1 0 0 [cO 5 h [.int (zI (n : Int)), .ref g], cI M g 192 F, cO 5 h2 [.int (zI (n2 : Int)), .ref g2], cI M g2 192 F2] [.ref h, .ref h2] (fun u : Unit => True) (fun u => [cO 5 h [.int (zI (n2 : Int)), .ref g], cI M g 192 F2, cO 5 h2 [.int (zI (n2 : Int)), .ref g2], cI M g2 192 F2]) := by
  refine kCV.of [(0, .ref h), (1, .ref h2)] (by decide) (Nat.le_of_ble_eq_true rfl) rfl (fun E gg gn hret => ?_)
  refine z_aload_n (pc := 0) 0 gg dX5_copyFrom_0 rfl rfl ?_
  refine z_aload_n (pc := 1) 1 gg dX5_copyFrom_1 rfl rfl ?_
  refine z_get (pc := 2) 2 gg fl_X5_9 dX5_copyFrom_2 rfl rfl ?_
  refine z_put (pc := 5) 0 [cO 5 h [.int (zI (n2 : Int)), .ref g], cI M g 192 F, cO 5 h2 [.int (zI (n2 : Int)), .ref g2], cI M g2 192 F2] gg fp_X5_9 dX5_copyFrom_5 rfl rfl rfl (Nat.le_of_ble_eq_true rfl) rfl ?_
  refine z_aload_n (pc := 8) 1 gg dX5_copyFrom_8 rfl rfl ?_
  refine z_get (pc := 9) 2 gg fl_X5_15 dX5_copyFrom_9 rfl rfl ?_
  refine z_iconst (pc := 12) gg dX5_copyFrom_12 ?_
  refine z_aload_n (pc := 13) 0 gg dX5_copyFrom_13 rfl rfl ?_
  refine z_get (pc := 14) 0 gg fl_X5_15 dX5_copyFrom_14 rfl rfl ?_
  refine z_iconst (pc := 17) gg dX5_copyFrom_17 ?_
  refine z_sipush (pc := 18) gg dX5_copyFrom_18 (by decide +kernel) ?_
  refine z_copy (pc := 21) 3 1 [cO 5 h [.int (zI (n2 : Int)), .ref g], cI M g 192 F2, cO 5 h2 [.int (zI (n2 : Int)), .ref g2], cI M g2 192 F2] gg dX5_copyFrom_21 ml_X5_34 ac_1 ac_2 ac_3 (by decide) (Nat.le_of_ble_eq_true rfl) rfl rfl rfl (by decide) rfl ?_
  exact hret () 24 _ _ _ (Nat.le_of_ble_eq_true rfl) (Nat.le_of_ble_eq_true rfl) dX5_copyFrom_24 trivial
set_option maxHeartbeats 4000000 in
set_option maxRecDepth 100000 in
theorem c_M_init (M : KM) (h : Nat)  : kCV M yX5_init cX5_init 1 1 1 192 [cO 5 h [.int (zI 0), .null]] [.ref h] (fun u : Nat => True) (fun u => [cO 5 h [.int (zI 0), .ref u], cI M u 192 (fun _ => 0)]) := by
  refine kCV.of [(0, .ref h)] (by decide) (Nat.le_of_ble_eq_true rfl) rfl (fun E gg gn hret => ?_)
  refine z_aload_n (pc := 0) 0 gg dX5_init_0 rfl rfl ?_
  refine z_obj (pc := 1) gg dX5_init_1 ml_X5_3 oi_1 oi_2 (by decide) (Nat.le_of_ble_eq_true rfl) ?_
  refine z_aload_n (pc := 4) 0 gg dX5_init_4 rfl rfl ?_
  refine z_iconst (pc := 5) gg dX5_init_5 ?_
  refine z_put (pc := 6) 0 [cO 5 h [.int (zI 0), .null]] gg fp_X5_9 dX5_init_6 rfl rfl rfl (Nat.le_of_ble_eq_true rfl) rfl ?_
  refine z_aload_n (pc := 9) 0 gg dX5_init_9 rfl rfl ?_
  refine z_sipush (pc := 10) gg dX5_init_10 (by decide +kernel) ?_
  refine z_newaI (pc := 13) gg dX5_init_13 ar_I rfl (by decide) (Nat.le_of_ble_eq_true rfl) (Nat.le_of_ble_eq_true rfl) (fun q1 => ?_)
  show kV M E 1 _ _ [cO 5 h [.int (zI 0), .null], cI M q1 192 (fun _ => 0)] _ _ _
  refine z_putF (pc := 15) 0 [cO 5 h [.int (zI 0), .ref q1], cI M q1 192 (fun _ => 0)] gg gn fp_X5_15 dX5_init_15 rfl rfl rfl (Nat.le_of_ble_eq_true rfl) rfl ?_
  exact hret q1 18 _ _ _ (Nat.le_of_ble_eq_true rfl) (Nat.le_of_ble_eq_true rfl) dX5_init_18 trivial
set_option maxHeartbeats 4000000 in
set_option maxRecDepth 100000 in
theorem c_S_hasSides (M : KM) (w h : Int) (hw : zR w) (hh : zR h) : kCI M yX8_hasSides cX8_hasSides 2 .boolean 0 0 0 [] [.int (zI w), .int (zI h)] (fun z (u : Unit) => (z = 1 ∧ 1 ≤ w ∧ w ≤ 24 ∧ 1 ≤ h ∧ h ≤ 24) ∨ (z = 0 ∧ (w < 1 ∨ 24 < w ∨ h < 1 ∨ 24 < h))) (fun u => []) := by
  refine kCI.of [(0, .int (zI w)), (1, .int (zI h))] (by decide) (Nat.le_of_ble_eq_true rfl) rfl (fun E gg hret => ?_)
  have r1_hw := hw.1
  have r2_hw := hw.2
  have r1_hh := hh.1
  have r2_hh := hh.2
  refine z_iload_n (pc := 0) 0 gg dX8_hasSides_0 rfl rfl ?_
  refine z_iconst (pc := 1) gg dX8_hasSides_1 ?_
  refine z_icmp_lt (pc := 2) 26 gg dX8_hasSides_2 (by decide) ⟨by omega, by omega⟩ ⟨by omega, by omega⟩ (fun h2 => ?_) (fun h2 => ?_)
  · refine z_iconst (pc := 26) gg dX8_hasSides_26 ?_
    exact hret 0 () 27 _ _ _ (Nat.le_of_ble_eq_true rfl) (Nat.le_of_ble_eq_true rfl) dX8_hasSides_27 (zB01 (by omega)) (by omega)
  · refine z_iload_n (pc := 5) 0 gg dX8_hasSides_5 rfl rfl ?_
    refine z_bipush (pc := 6) gg dX8_hasSides_6 (by decide +kernel) ?_
    refine z_icmp_gt (pc := 8) 26 gg dX8_hasSides_8 (by decide) ⟨by omega, by omega⟩ ⟨by omega, by omega⟩ (fun h8 => ?_) (fun h8 => ?_)
    · refine z_iconst (pc := 26) gg dX8_hasSides_26 ?_
      exact hret 0 () 27 _ _ _ (Nat.le_of_ble_eq_true rfl) (Nat.le_of_ble_eq_true rfl) dX8_hasSides_27 (zB01 (by omega)) (by omega)
    · refine z_iload_n (pc := 11) 1 gg dX8_hasSides_11 rfl rfl ?_
      refine z_iconst (pc := 12) gg dX8_hasSides_12 ?_
      refine z_icmp_lt (pc := 13) 26 gg dX8_hasSides_13 (by decide) ⟨by omega, by omega⟩ ⟨by omega, by omega⟩ (fun h13 => ?_) (fun h13 => ?_)
      · refine z_iconst (pc := 26) gg dX8_hasSides_26 ?_
        exact hret 0 () 27 _ _ _ (Nat.le_of_ble_eq_true rfl) (Nat.le_of_ble_eq_true rfl) dX8_hasSides_27 (zB01 (by omega)) (by omega)
      · refine z_iload_n (pc := 16) 1 gg dX8_hasSides_16 rfl rfl ?_
        refine z_bipush (pc := 17) gg dX8_hasSides_17 (by decide +kernel) ?_
        refine z_icmp_gt (pc := 19) 26 gg dX8_hasSides_19 (by decide) ⟨by omega, by omega⟩ ⟨by omega, by omega⟩ (fun h19 => ?_) (fun h19 => ?_)
        · refine z_iconst (pc := 26) gg dX8_hasSides_26 ?_
          exact hret 0 () 27 _ _ _ (Nat.le_of_ble_eq_true rfl) (Nat.le_of_ble_eq_true rfl) dX8_hasSides_27 (zB01 (by omega)) (by omega)
        · refine z_iconst (pc := 22) gg dX8_hasSides_22 ?_
          refine z_goto (pc := 23) 27 gg dX8_hasSides_23 (by decide) ?_
          exact hret 1 () 27 _ _ _ (Nat.le_of_ble_eq_true rfl) (Nat.le_of_ble_eq_true rfl) dX8_hasSides_27 (zB01 (by omega)) (by omega)
set_option maxHeartbeats 4000000 in
set_option maxRecDepth 100000 in
theorem c_S_has (M : KM) (h w0 h0 v0 n : Nat) (sw sh sv : Nat → Int) (b : Int) (hn : n ≤ 6) (hb : zR b) : kCI M yX8_has cX8_has 2 .boolean 0 0 0 [cO 8 h [.int (zI (n : Int)), .ref w0, .ref h0, .ref v0], cI M w0 6 sw, cI M h0 6 sh, cI M v0 6 sv] [.ref h, .int (zI b)] (fun z (u : Unit) => (z = 1 ∧ 0 ≤ b ∧ b < n) ∨ (z = 0 ∧ (b < 0 ∨ (n : Int) ≤ b))) (fun u => [cO 8 h [.int (zI (n : Int)), .ref w0, .ref h0, .ref v0], cI M w0 6 sw, cI M h0 6 sh, cI M v0 6 sv]) := by
  refine kCI.of [(0, .ref h), (1, .int (zI b))] (by decide) (Nat.le_of_ble_eq_true rfl) rfl (fun E gg hret => ?_)
  have r1_hb := hb.1
  have r2_hb := hb.2
  refine z_iload_n (pc := 0) 1 gg dX8_has_0 rfl rfl ?_
  refine z_if_lt (pc := 1) 16 gg dX8_has_1 (by decide) ⟨by omega, by omega⟩ (fun h1 => ?_) (fun h1 => ?_)
  · refine z_iconst (pc := 16) gg dX8_has_16 ?_
    exact hret 0 () 17 _ _ _ (Nat.le_of_ble_eq_true rfl) (Nat.le_of_ble_eq_true rfl) dX8_has_17 (zB01 (by omega)) (by omega)
  · refine z_iload_n (pc := 4) 1 gg dX8_has_4 rfl rfl ?_
    refine z_aload_n (pc := 5) 0 gg dX8_has_5 rfl rfl ?_
    refine z_get (pc := 6) 0 gg fl_X8_9 dX8_has_6 rfl rfl ?_
    refine z_icmp_ge (pc := 9) 16 gg dX8_has_9 (by decide) ⟨by omega, by omega⟩ ⟨by omega, by omega⟩ (fun h9 => ?_) (fun h9 => ?_)
    · refine z_iconst (pc := 16) gg dX8_has_16 ?_
      exact hret 0 () 17 _ _ _ (Nat.le_of_ble_eq_true rfl) (Nat.le_of_ble_eq_true rfl) dX8_has_17 (zB01 (by omega)) (by omega)
    · refine z_iconst (pc := 12) gg dX8_has_12 ?_
      refine z_goto (pc := 13) 17 gg dX8_has_13 (by decide) ?_
      exact hret 1 () 17 _ _ _ (Nat.le_of_ble_eq_true rfl) (Nat.le_of_ble_eq_true rfl) dX8_has_17 (zB01 (by omega)) (by omega)
set_option maxHeartbeats 4000000 in
set_option maxRecDepth 100000 in
theorem c_S_add_ok (M : KM) (h w0 h0 v0 n : Nat) (sw sh sv : Nat → Int) (w x v : Int) (hn : n < 6) (hw : 1 ≤ w ∧ w ≤ 24) (hx : 1 ≤ x ∧ x ≤ 24) (hv : 1 ≤ v ∧ v ≤ 999) : kCI M yX8_add cX8_add 4 .int 1 0 0 [cO 8 h [.int (zI (n : Int)), .ref w0, .ref h0, .ref v0], cI M w0 6 sw, cI M h0 6 sh, cI M v0 6 sv] [.ref h, .int (zI w), .int (zI x), .int (zI v)] (fun z (u : Unit) => z = n) (fun u => [cO 8 h [.int (zI ((n : Int) + 1)), .ref w0, .ref h0, .ref v0], cI M w0 6 (zU sw n w), cI M h0 6 (zU sh n x), cI M v0 6 (zU sv n v)]) := by
  refine kCI.of [(0, .ref h), (1, .int (zI w)), (2, .int (zI x)), (3, .int (zI v))] (by decide) (Nat.le_of_ble_eq_true rfl) rfl (fun E gg hret => ?_)
  refine z_aload_n (pc := 0) 0 gg dX8_add_0 rfl rfl ?_
  refine z_get (pc := 1) 0 gg fl_X8_9 dX8_add_1 rfl rfl ?_
  refine z_bipush (pc := 4) gg dX8_add_4 (by decide +kernel) ?_
  refine z_icmp_ge (pc := 6) 29 gg dX8_add_6 (by decide) ⟨by omega, by omega⟩ ⟨by omega, by omega⟩ (fun h6 => ?_) (fun h6 => ?_)
  · exfalso; omega
  · refine z_iload_n (pc := 9) 1 gg dX8_add_9 rfl rfl ?_
    refine z_iload_n (pc := 10) 2 gg dX8_add_10 rfl rfl ?_
    refine z_callS (pc := 11) (As := [.int (zI w), .int (zI x)]) (st := []) gg (c_S_hasSides M w x (by first | assumption | omega | exact ⟨by omega, by omega⟩) (by first | assumption | omega | exact ⟨by omega, by omega⟩)) ys_8_hasSides ml_X8_25 dX8_add_11 (by decide) (Nat.le_of_ble_eq_true rfl) (Nat.le_of_ble_eq_true rfl) (Nat.le_of_ble_eq_true rfl) rfl rfl (fun z11 u11 hz11 => ?_)
    refine z_if_eq (pc := 14) 29 gg dX8_add_14 (by decide) ⟨by omega, by omega⟩ (fun h14 => ?_) (fun h14 => ?_)
    · exfalso; omega
    · refine z_iload_n (pc := 17) 3 gg dX8_add_17 rfl rfl ?_
      refine z_iconst (pc := 18) gg dX8_add_18 ?_
      refine z_icmp_lt (pc := 19) 29 gg dX8_add_19 (by decide) ⟨by omega, by omega⟩ ⟨by omega, by omega⟩ (fun h19 => ?_) (fun h19 => ?_)
      · exfalso; omega
      · refine z_iload_n (pc := 22) 3 gg dX8_add_22 rfl rfl ?_
        refine z_sipush (pc := 23) gg dX8_add_23 (by decide +kernel) ?_
        refine z_icmp_le (pc := 26) 31 gg dX8_add_26 (by decide) ⟨by omega, by omega⟩ ⟨by omega, by omega⟩ (fun h26 => ?_) (fun h26 => ?_)
        · refine z_aload_n (pc := 31) 0 gg dX8_add_31 rfl rfl ?_
          refine z_get (pc := 32) 0 gg fl_X8_15 dX8_add_32 rfl rfl ?_
          refine z_aload_n (pc := 35) 0 gg dX8_add_35 rfl rfl ?_
          refine z_get (pc := 36) 0 gg fl_X8_9 dX8_add_36 rfl rfl ?_
          refine z_iload_n (pc := 39) 1 gg dX8_add_39 rfl rfl ?_
          refine z_iast (pc := 40) 1 n [cO 8 h [.int (zI (n : Int)), .ref w0, .ref h0, .ref v0], cI M w0 6 (zU sw n w), cI M h0 6 sh, cI M v0 6 sv] gg dX8_add_40 rfl (by omega) (by omega) (by decide) rfl ?_
          refine z_aload_n (pc := 41) 0 gg dX8_add_41 rfl rfl ?_
          refine z_get (pc := 42) 0 gg fl_X8_19 dX8_add_42 rfl rfl ?_
          refine z_aload_n (pc := 45) 0 gg dX8_add_45 rfl rfl ?_
          refine z_get (pc := 46) 0 gg fl_X8_9 dX8_add_46 rfl rfl ?_
          refine z_iload_n (pc := 49) 2 gg dX8_add_49 rfl rfl ?_
          refine z_iast (pc := 50) 2 n [cO 8 h [.int (zI (n : Int)), .ref w0, .ref h0, .ref v0], cI M w0 6 (zU sw n w), cI M h0 6 (zU sh n x), cI M v0 6 sv] gg dX8_add_50 rfl (by omega) (by omega) (by decide) rfl ?_
          refine z_aload_n (pc := 51) 0 gg dX8_add_51 rfl rfl ?_
          refine z_get (pc := 52) 0 gg fl_X8_22 dX8_add_52 rfl rfl ?_
          refine z_aload_n (pc := 55) 0 gg dX8_add_55 rfl rfl ?_
          refine z_get (pc := 56) 0 gg fl_X8_9 dX8_add_56 rfl rfl ?_
          refine z_iload_n (pc := 59) 3 gg dX8_add_59 rfl rfl ?_
          refine z_iast (pc := 60) 3 n [cO 8 h [.int (zI (n : Int)), .ref w0, .ref h0, .ref v0], cI M w0 6 (zU sw n w), cI M h0 6 (zU sh n x), cI M v0 6 (zU sv n v)] gg dX8_add_60 rfl (by omega) (by omega) (by decide) rfl ?_
          refine z_aload_n (pc := 61) 0 gg dX8_add_61 rfl rfl ?_
          refine z_dup (pc := 62) gg dX8_add_62 rfl ?_
          refine z_get (pc := 63) 0 gg fl_X8_9 dX8_add_63 rfl rfl ?_
          refine z_iconst (pc := 66) gg dX8_add_66 ?_
          refine z_iadd (pc := 67) gg dX8_add_67 ?_
          refine z_put (pc := 68) 0 [cO 8 h [.int (zI ((n : Int) + 1)), .ref w0, .ref h0, .ref v0], cI M w0 6 (zU sw n w), cI M h0 6 (zU sh n x), cI M v0 6 (zU sv n v)] gg fp_X8_9 dX8_add_68 rfl rfl rfl (Nat.le_of_ble_eq_true rfl) rfl ?_
          refine z_aload_n (pc := 71) 0 gg dX8_add_71 rfl rfl ?_
          refine z_get (pc := 72) 0 gg fl_X8_9 dX8_add_72 rfl rfl ?_
          refine z_iconst (pc := 75) gg dX8_add_75 ?_
          refine z_isub (pc := 76) gg dX8_add_76 ?_
          exact hret (((n : Int) + 1) - 1) () 77 _ _ _ (Nat.le_of_ble_eq_true rfl) (Nat.le_of_ble_eq_true rfl) dX8_add_77 rfl (by omega)
        · exfalso; omega
set_option maxHeartbeats 4000000 in
set_option maxRecDepth 100000 in
theorem c_S_add_no (M : KM) (h w0 h0 v0 n : Nat) (sw sh sv : Nat → Int) (w x v : Int) (hn : n ≤ 6) (hw : zR w) (hx : zR x) (hv : zR v) (hc : n = 6 ∨ w < 1 ∨ 24 < w ∨ x < 1 ∨ 24 < x ∨ v < 1 ∨ 999 < v) : kCI M yX8_add cX8_add 4 .int 1 0 0 [cO 8 h [.int (zI (n : Int)), .ref w0, .ref h0, .ref v0], cI M w0 6 sw, cI M h0 6 sh, cI M v0 6 sv] [.ref h, .int (zI w), .int (zI x), .int (zI v)] (fun z (u : Unit) => z = -1) (fun u => [cO 8 h [.int (zI (n : Int)), .ref w0, .ref h0, .ref v0], cI M w0 6 sw, cI M h0 6 sh, cI M v0 6 sv]) := by
  refine kCI.of [(0, .ref h), (1, .int (zI w)), (2, .int (zI x)), (3, .int (zI v))] (by decide) (Nat.le_of_ble_eq_true rfl) rfl (fun E gg hret => ?_)
  have r1_hw := hw.1
  have r2_hw := hw.2
  have r1_hx := hx.1
  have r2_hx := hx.2
  have r1_hv := hv.1
  have r2_hv := hv.2
  refine z_aload_n (pc := 0) 0 gg dX8_add_0 rfl rfl ?_
  refine z_get (pc := 1) 0 gg fl_X8_9 dX8_add_1 rfl rfl ?_
  refine z_bipush (pc := 4) gg dX8_add_4 (by decide +kernel) ?_
  refine z_icmp_ge (pc := 6) 29 gg dX8_add_6 (by decide) ⟨by omega, by omega⟩ ⟨by omega, by omega⟩ (fun h6 => ?_) (fun h6 => ?_)
  · refine z_iconst (pc := 29) gg dX8_add_29 ?_
    exact hret (-1) () 30 _ _ _ (Nat.le_of_ble_eq_true rfl) (Nat.le_of_ble_eq_true rfl) dX8_add_30 rfl (by omega)
  · refine z_iload_n (pc := 9) 1 gg dX8_add_9 rfl rfl ?_
    refine z_iload_n (pc := 10) 2 gg dX8_add_10 rfl rfl ?_
    refine z_callS (pc := 11) (As := [.int (zI w), .int (zI x)]) (st := []) gg (c_S_hasSides M w x (by first | assumption | omega | exact ⟨by omega, by omega⟩) (by first | assumption | omega | exact ⟨by omega, by omega⟩)) ys_8_hasSides ml_X8_25 dX8_add_11 (by decide) (Nat.le_of_ble_eq_true rfl) (Nat.le_of_ble_eq_true rfl) (Nat.le_of_ble_eq_true rfl) rfl rfl (fun z11 u11 hz11 => ?_)
    refine z_if_eq (pc := 14) 29 gg dX8_add_14 (by decide) ⟨by omega, by omega⟩ (fun h14 => ?_) (fun h14 => ?_)
    · refine z_iconst (pc := 29) gg dX8_add_29 ?_
      exact hret (-1) () 30 _ _ _ (Nat.le_of_ble_eq_true rfl) (Nat.le_of_ble_eq_true rfl) dX8_add_30 rfl (by omega)
    · refine z_iload_n (pc := 17) 3 gg dX8_add_17 rfl rfl ?_
      refine z_iconst (pc := 18) gg dX8_add_18 ?_
      refine z_icmp_lt (pc := 19) 29 gg dX8_add_19 (by decide) ⟨by omega, by omega⟩ ⟨by omega, by omega⟩ (fun h19 => ?_) (fun h19 => ?_)
      · refine z_iconst (pc := 29) gg dX8_add_29 ?_
        exact hret (-1) () 30 _ _ _ (Nat.le_of_ble_eq_true rfl) (Nat.le_of_ble_eq_true rfl) dX8_add_30 rfl (by omega)
      · refine z_iload_n (pc := 22) 3 gg dX8_add_22 rfl rfl ?_
        refine z_sipush (pc := 23) gg dX8_add_23 (by decide +kernel) ?_
        refine z_icmp_le (pc := 26) 31 gg dX8_add_26 (by decide) ⟨by omega, by omega⟩ ⟨by omega, by omega⟩ (fun h26 => ?_) (fun h26 => ?_)
        · exfalso; omega
        · refine z_iconst (pc := 29) gg dX8_add_29 ?_
          exact hret (-1) () 30 _ _ _ (Nat.le_of_ble_eq_true rfl) (Nat.le_of_ble_eq_true rfl) dX8_add_30 rfl (by omega)
set_option maxHeartbeats 4000000 in
set_option maxRecDepth 100000 in
theorem c_S_worthOf (M : KM) (h w0 h0 v0 n : Nat) (sw sh sv : Nat → Int) (b : Int) (hn : n ≤ 6) (hb : -1 ≤ b ∧ b < n) : kCI M yX8_worthOf cX8_worthOf 2 .int 1 0 0 [cO 8 h [.int (zI (n : Int)), .ref w0, .ref h0, .ref v0], cI M w0 6 sw, cI M h0 6 sh, cI M v0 6 sv] [.ref h, .int (zI b)] (fun z (u : Unit) => z = dW sv b) (fun u => [cO 8 h [.int (zI (n : Int)), .ref w0, .ref h0, .ref v0], cI M w0 6 sw, cI M h0 6 sh, cI M v0 6 sv]) := by
  refine kCI.of [(0, .ref h), (1, .int (zI b))] (by decide) (Nat.le_of_ble_eq_true rfl) rfl (fun E gg hret => ?_)
  refine z_aload_n (pc := 0) 0 gg dX8_worthOf_0 rfl rfl ?_
  refine z_iload_n (pc := 1) 1 gg dX8_worthOf_1 rfl rfl ?_
  refine z_callWi (pc := 2) (As := [.int (zI b)]) (st := []) gg (c_S_has M h w0 h0 v0 n sw sh sv b (by first | assumption | omega | exact ⟨by omega, by omega⟩) (by first | assumption | omega | exact ⟨by omega, by omega⟩)) yv_8_has ml_X8_29 dX8_worthOf_2 (by decide) (Nat.le_of_ble_eq_true rfl) (Nat.le_of_ble_eq_true rfl) (Nat.le_of_ble_eq_true rfl) rfl rfl rfl (fun z2 u2 hz2 => ?_)
  refine z_if_eq (pc := 5) 17 gg dX8_worthOf_5 (by decide) ⟨by omega, by omega⟩ (fun h5 => ?_) (fun h5 => ?_)
  · refine z_iconst (pc := 17) gg dX8_worthOf_17 ?_
    exact hret 0 () 18 _ _ _ (Nat.le_of_ble_eq_true rfl) (Nat.le_of_ble_eq_true rfl) dX8_worthOf_18 rfl (by unfold dW; rw [if_pos (by omega)])
  · refine z_aload_n (pc := 8) 0 gg dX8_worthOf_8 rfl rfl ?_
    refine z_get (pc := 9) 0 gg fl_X8_22 dX8_worthOf_9 rfl rfl ?_
    refine z_iload_n (pc := 12) 1 gg dX8_worthOf_12 rfl rfl ?_
    refine z_iald (pc := 13) 3 b.toNat gg dX8_worthOf_13 rfl (by omega) (by omega) (by decide) ?_
    refine z_goto (pc := 14) 18 gg dX8_worthOf_14 (by decide) ?_
    exact hret (sv b.toNat) () 18 _ _ _ (Nat.le_of_ble_eq_true rfl) (Nat.le_of_ble_eq_true rfl) dX8_worthOf_18 rfl (by unfold dW; rw [if_neg (by omega)])
set_option maxHeartbeats 4000000 in
set_option maxRecDepth 100000 in
theorem c_S_dearestIn (M : KM) (h w0 h0 v0 n : Nat) (sw sh sv : Nat → Int) (w x : Int) (hn : n ≤ 6) (hw : 1 ≤ w ∧ w ≤ 24) (hx : 1 ≤ x ∧ x ≤ 24) (hs : ∀ j, j < 6 → 0 ≤ sw j ∧ sw j ≤ 24 ∧ 0 ≤ sh j ∧ sh j ≤ 24 ∧ 0 ≤ sv j ∧ sv j ≤ 999) : kCI M yX8_dearestIn cX8_dearestIn 5 .int 2 0 0 [cO 8 h [.int (zI (n : Int)), .ref w0, .ref h0, .ref v0], cI M w0 6 sw, cI M h0 6 sh, cI M v0 6 sv] [.ref h, .int (zI w), .int (zI x)] (fun z (u : Unit) => z = dI sw sh sv w x n) (fun u => [cO 8 h [.int (zI (n : Int)), .ref w0, .ref h0, .ref v0], cI M w0 6 sw, cI M h0 6 sh, cI M v0 6 sv]) := by
  refine kCI.of [(0, .ref h), (1, .int (zI w)), (2, .int (zI x))] (by decide) (Nat.le_of_ble_eq_true rfl) rfl (fun E gg hret => ?_)
  refine z_iconst (pc := 0) gg dX8_dearestIn_0 ?_
  refine z_istore_n (pc := 1) [(3, .int (zI (-1))), (0, .ref h), (1, .int (zI w)), (2, .int (zI x))] gg dX8_dearestIn_1 rfl (Nat.le_of_ble_eq_true rfl) rfl ?_
  refine z_iconst (pc := 2) gg dX8_dearestIn_2 ?_
  refine z_istore (pc := 3) [(4, .int (zI 0)), (3, .int (zI (-1))), (0, .ref h), (1, .int (zI w)), (2, .int (zI x))] gg dX8_dearestIn_3 (Nat.le_of_ble_eq_true rfl) rfl ?_
  have loop5 : ∀ (k5 : Nat) (i f : Int), (0 ≤ i ∧ i ≤ n) → (f = dI sw sh sv w x i.toNat) → (n : Int).toNat - i.toNat < k5 → kV M E 5 0 0 [cO 8 h [.int (zI (n : Int)), .ref w0, .ref h0, .ref v0], cI M w0 6 sw, cI M h0 6 sh, cI M v0 6 sv] [(4, .int (zI i)), (3, .int (zI f)), (0, .ref h), (1, .int (zI w)), (2, .int (zI x))] 5 [] := by
    intro k5
    induction k5 with
    | zero => intro i f hi hf hm5; exact absurd hm5 (Nat.not_lt_zero _)
    | succ k5 ih5 =>
      intro i f hi hf hm5
      have el := dI_lo sw sh sv w x i.toNat
      refine z_iload (pc := 5) 0 gg dX8_dearestIn_5 rfl ?_
      refine z_aload_n (pc := 7) 2 gg dX8_dearestIn_7 rfl rfl ?_
      refine z_get (pc := 8) 0 gg fl_X8_9 dX8_dearestIn_8 rfl rfl ?_
      refine z_icmp_ge (pc := 11) 67 gg dX8_dearestIn_11 (by decide) ⟨by omega, by omega⟩ ⟨by omega, by omega⟩ (fun h11 => ?_) (fun h11 => ?_)
      · refine z_iload_n (pc := 67) 1 gg dX8_dearestIn_67 rfl rfl ?_
        exact hret f () 68 _ _ _ (Nat.le_of_ble_eq_true rfl) (Nat.le_of_ble_eq_true rfl) dX8_dearestIn_68 rfl (by rw [hf]; congr 1; omega)
      · refine z_iload (pc := 14) 0 gg dX8_dearestIn_14 rfl ?_
        refine z_bipush (pc := 16) gg dX8_dearestIn_16 (by decide +kernel) ?_
        refine z_icmp_ge (pc := 18) 67 gg dX8_dearestIn_18 (by decide) ⟨by omega, by omega⟩ ⟨by omega, by omega⟩ (fun h18 => ?_) (fun h18 => ?_)
        · exfalso; omega
        · have hs1 := hs i.toNat (by omega)
          refine z_aload_n (pc := 21) 2 gg dX8_dearestIn_21 rfl rfl ?_
          refine z_get (pc := 22) 0 gg fl_X8_15 dX8_dearestIn_22 rfl rfl ?_
          refine z_iload (pc := 25) 0 gg dX8_dearestIn_25 rfl ?_
          refine z_iald (pc := 27) 1 i.toNat gg dX8_dearestIn_27 rfl (by omega) (by omega) (by decide) ?_
          refine z_iload_n (pc := 28) 3 gg dX8_dearestIn_28 rfl rfl ?_
          refine z_icmp_gt (pc := 29) 61 gg dX8_dearestIn_29 (by decide) ⟨by omega, by omega⟩ ⟨by omega, by omega⟩ (fun h29 => ?_) (fun h29 => ?_)
          · refine z_iinc (pc := 61) 0 [(4, .int (zI (i + 1))), (3, .int (zI f)), (0, .ref h), (1, .int (zI w)), (2, .int (zI x))] gg dX8_dearestIn_61 rfl (Nat.le_of_ble_eq_true rfl) rfl ?_
            refine z_goto (pc := 64) 5 gg dX8_dearestIn_64 (by decide) ?_
            exact ih5 (i + 1) f (by omega) (by rw [dI_step (by omega), ← hf]; rw [if_neg]; rintro ⟨e1, e2, e3⟩; omega) (by omega)
          · refine z_aload_n (pc := 32) 2 gg dX8_dearestIn_32 rfl rfl ?_
            refine z_get (pc := 33) 0 gg fl_X8_19 dX8_dearestIn_33 rfl rfl ?_
            refine z_iload (pc := 36) 0 gg dX8_dearestIn_36 rfl ?_
            refine z_iald (pc := 38) 2 i.toNat gg dX8_dearestIn_38 rfl (by omega) (by omega) (by decide) ?_
            refine z_iload_n (pc := 39) 4 gg dX8_dearestIn_39 rfl rfl ?_
            refine z_icmp_gt (pc := 40) 61 gg dX8_dearestIn_40 (by decide) ⟨by omega, by omega⟩ ⟨by omega, by omega⟩ (fun h40 => ?_) (fun h40 => ?_)
            · refine z_iinc (pc := 61) 0 [(4, .int (zI (i + 1))), (3, .int (zI f)), (0, .ref h), (1, .int (zI w)), (2, .int (zI x))] gg dX8_dearestIn_61 rfl (Nat.le_of_ble_eq_true rfl) rfl ?_
              refine z_goto (pc := 64) 5 gg dX8_dearestIn_64 (by decide) ?_
              exact ih5 (i + 1) f (by omega) (by rw [dI_step (by omega), ← hf]; rw [if_neg]; rintro ⟨e1, e2, e3⟩; omega) (by omega)
            · refine z_aload_n (pc := 43) 2 gg dX8_dearestIn_43 rfl rfl ?_
              refine z_get (pc := 44) 0 gg fl_X8_22 dX8_dearestIn_44 rfl rfl ?_
              refine z_iload (pc := 47) 0 gg dX8_dearestIn_47 rfl ?_
              refine z_iald (pc := 49) 3 i.toNat gg dX8_dearestIn_49 rfl (by omega) (by omega) (by decide) ?_
              refine z_aload_n (pc := 50) 2 gg dX8_dearestIn_50 rfl rfl ?_
              refine z_iload_n (pc := 51) 1 gg dX8_dearestIn_51 rfl rfl ?_
              refine z_callWi (pc := 52) (As := [.int (zI f)]) (st := [.int (zI (sv i.toNat))]) gg (c_S_worthOf M h w0 h0 v0 n sw sh sv f (by first | assumption | omega | exact ⟨by omega, by omega⟩) (by first | assumption | omega | exact ⟨by omega, by omega⟩)) yv_8_worthOf ml_X8_33 dX8_dearestIn_52 (by decide) (Nat.le_of_ble_eq_true rfl) (Nat.le_of_ble_eq_true rfl) (Nat.le_of_ble_eq_true rfl) rfl rfl rfl (fun z52 u52 hz52 => ?_)
              have ed : 0 ≤ z52 ∧ z52 ≤ 999 := by
                rw [hz52]; unfold dW; split
                · omega
                · have := hs f.toNat (by omega); omega
              refine z_icmp_le (pc := 55) 61 gg dX8_dearestIn_55 (by decide) ⟨by omega, by omega⟩ ⟨by omega, by omega⟩ (fun h55 => ?_) (fun h55 => ?_)
              · refine z_iinc (pc := 61) 0 [(4, .int (zI (i + 1))), (3, .int (zI f)), (0, .ref h), (1, .int (zI w)), (2, .int (zI x))] gg dX8_dearestIn_61 rfl (Nat.le_of_ble_eq_true rfl) rfl ?_
                refine z_goto (pc := 64) 5 gg dX8_dearestIn_64 (by decide) ?_
                exact ih5 (i + 1) f (by omega) (by rw [dI_step (by omega), ← hf]; rw [if_neg]; rintro ⟨e1, e2, e3⟩; omega) (by omega)
              · refine z_iload (pc := 58) 0 gg dX8_dearestIn_58 rfl ?_
                refine z_istore_n (pc := 60) [(3, .int (zI i)), (4, .int (zI i)), (0, .ref h), (1, .int (zI w)), (2, .int (zI x))] gg dX8_dearestIn_60 rfl (Nat.le_of_ble_eq_true rfl) rfl ?_
                refine z_iinc (pc := 61) 1 [(4, .int (zI (i + 1))), (3, .int (zI i)), (0, .ref h), (1, .int (zI w)), (2, .int (zI x))] gg dX8_dearestIn_61 rfl (Nat.le_of_ble_eq_true rfl) rfl ?_
                refine z_goto (pc := 64) 5 gg dX8_dearestIn_64 (by decide) ?_
                exact ih5 (i + 1) i (by omega) (by rw [dI_step (by omega), ← hf]; rw [if_pos ⟨by omega, by omega, by omega⟩]) (by omega)
  exact loop5 _ 0 (-1) (by omega) rfl (Nat.lt_succ_self _)
set_option maxHeartbeats 4000000 in
set_option maxRecDepth 100000 in
theorem c_S_copyFrom (M : KM) (h w0 h0 v0 n : Nat) (sw sh sv : Nat → Int) (h2 w2 x2 v2 n2 : Nat) (sw2 sh2 sv2 : Nat → Int)  : kCV M yX8_copyFrom cX8_copyFrom 2 1 0 0 [cO 8 h [.int (zI (n : Int)), .ref w0, .ref h0, .ref v0], cI M w0 6 sw, cI M h0 6 sh, cI M v0 6 sv, cO 8 h2 [.int (zI (n2 : Int)), .ref w2, .ref x2, .ref v2], cI M w2 6 sw2, cI M x2 6 sh2, cI M v2 6 sv2] [.ref h, .ref h2] (fun u : Unit => True) (fun u => [cO 8 h [.int (zI (n2 : Int)), .ref w0, .ref h0, .ref v0], cI M w0 6 sw2, cI M h0 6 sh2, cI M v0 6 sv2, cO 8 h2 [.int (zI (n2 : Int)), .ref w2, .ref x2, .ref v2], cI M w2 6 sw2, cI M x2 6 sh2, cI M v2 6 sv2]) := by
  refine kCV.of [(0, .ref h), (1, .ref h2)] (by decide) (Nat.le_of_ble_eq_true rfl) rfl (fun E gg gn hret => ?_)
  refine z_aload_n (pc := 0) 0 gg dX8_copyFrom_0 rfl rfl ?_
  refine z_aload_n (pc := 1) 1 gg dX8_copyFrom_1 rfl rfl ?_
  refine z_get (pc := 2) 4 gg fl_X8_9 dX8_copyFrom_2 rfl rfl ?_
  refine z_put (pc := 5) 0 [cO 8 h [.int (zI (n2 : Int)), .ref w0, .ref h0, .ref v0], cI M w0 6 sw, cI M h0 6 sh, cI M v0 6 sv, cO 8 h2 [.int (zI (n2 : Int)), .ref w2, .ref x2, .ref v2], cI M w2 6 sw2, cI M x2 6 sh2, cI M v2 6 sv2] gg fp_X8_9 dX8_copyFrom_5 rfl rfl rfl (Nat.le_of_ble_eq_true rfl) rfl ?_
  refine z_aload_n (pc := 8) 1 gg dX8_copyFrom_8 rfl rfl ?_
  refine z_get (pc := 9) 4 gg fl_X8_15 dX8_copyFrom_9 rfl rfl ?_
  refine z_iconst (pc := 12) gg dX8_copyFrom_12 ?_
  refine z_aload_n (pc := 13) 0 gg dX8_copyFrom_13 rfl rfl ?_
  refine z_get (pc := 14) 0 gg fl_X8_15 dX8_copyFrom_14 rfl rfl ?_
  refine z_iconst (pc := 17) gg dX8_copyFrom_17 ?_
  refine z_bipush (pc := 18) gg dX8_copyFrom_18 (by decide +kernel) ?_
  refine z_copy (pc := 20) 5 1 [cO 8 h [.int (zI (n2 : Int)), .ref w0, .ref h0, .ref v0], cI M w0 6 sw2, cI M h0 6 sh, cI M v0 6 sv, cO 8 h2 [.int (zI (n2 : Int)), .ref w2, .ref x2, .ref v2], cI M w2 6 sw2, cI M x2 6 sh2, cI M v2 6 sv2] gg dX8_copyFrom_20 ml_X8_37 ac_1 ac_2 ac_3 (by decide) (Nat.le_of_ble_eq_true rfl) rfl rfl rfl (by decide) rfl ?_
  refine z_aload_n (pc := 23) 1 gg dX8_copyFrom_23 rfl rfl ?_
  refine z_get (pc := 24) 4 gg fl_X8_19 dX8_copyFrom_24 rfl rfl ?_
  refine z_iconst (pc := 27) gg dX8_copyFrom_27 ?_
  refine z_aload_n (pc := 28) 0 gg dX8_copyFrom_28 rfl rfl ?_
  refine z_get (pc := 29) 0 gg fl_X8_19 dX8_copyFrom_29 rfl rfl ?_
  refine z_iconst (pc := 32) gg dX8_copyFrom_32 ?_
  refine z_bipush (pc := 33) gg dX8_copyFrom_33 (by decide +kernel) ?_
  refine z_copy (pc := 35) 6 2 [cO 8 h [.int (zI (n2 : Int)), .ref w0, .ref h0, .ref v0], cI M w0 6 sw2, cI M h0 6 sh2, cI M v0 6 sv, cO 8 h2 [.int (zI (n2 : Int)), .ref w2, .ref x2, .ref v2], cI M w2 6 sw2, cI M x2 6 sh2, cI M v2 6 sv2] gg dX8_copyFrom_35 ml_X8_37 ac_1 ac_2 ac_3 (by decide) (Nat.le_of_ble_eq_true rfl) rfl rfl rfl (by decide) rfl ?_
  refine z_aload_n (pc := 38) 1 gg dX8_copyFrom_38 rfl rfl ?_
  refine z_get (pc := 39) 4 gg fl_X8_22 dX8_copyFrom_39 rfl rfl ?_
  refine z_iconst (pc := 42) gg dX8_copyFrom_42 ?_
  refine z_aload_n (pc := 43) 0 gg dX8_copyFrom_43 rfl rfl ?_
  refine z_get (pc := 44) 0 gg fl_X8_22 dX8_copyFrom_44 rfl rfl ?_
  refine z_iconst (pc := 47) gg dX8_copyFrom_47 ?_
  refine z_bipush (pc := 48) gg dX8_copyFrom_48 (by decide +kernel) ?_
  refine z_copy (pc := 50) 7 3 [cO 8 h [.int (zI (n2 : Int)), .ref w0, .ref h0, .ref v0], cI M w0 6 sw2, cI M h0 6 sh2, cI M v0 6 sv2, cO 8 h2 [.int (zI (n2 : Int)), .ref w2, .ref x2, .ref v2], cI M w2 6 sw2, cI M x2 6 sh2, cI M v2 6 sv2] gg dX8_copyFrom_50 ml_X8_37 ac_1 ac_2 ac_3 (by decide) (Nat.le_of_ble_eq_true rfl) rfl rfl rfl (by decide) rfl ?_
  exact hret () 53 _ _ _ (Nat.le_of_ble_eq_true rfl) (Nat.le_of_ble_eq_true rfl) dX8_copyFrom_53 trivial
set_option maxHeartbeats 4000000 in
set_option maxRecDepth 100000 in
theorem c_S_init (M : KM) (h : Nat)  : kCV M yX8_init cX8_init 1 1 3 18 [cO 8 h [.int (zI 0), .null, .null, .null]] [.ref h] (fun u : Nat × Nat × Nat => True) (fun u => [cO 8 h [.int (zI 0), .ref u.1, .ref u.2.1, .ref u.2.2], cI M u.1 6 (fun _ => 0), cI M u.2.1 6 (fun _ => 0), cI M u.2.2 6 (fun _ => 0)]) := by
  refine kCV.of [(0, .ref h)] (by decide) (Nat.le_of_ble_eq_true rfl) rfl (fun E gg gn hret => ?_)
  refine z_aload_n (pc := 0) 0 gg dX8_init_0 rfl rfl ?_
  refine z_obj (pc := 1) gg dX8_init_1 ml_X8_3 oi_1 oi_2 (by decide) (Nat.le_of_ble_eq_true rfl) ?_
  refine z_aload_n (pc := 4) 0 gg dX8_init_4 rfl rfl ?_
  refine z_iconst (pc := 5) gg dX8_init_5 ?_
  refine z_put (pc := 6) 0 [cO 8 h [.int (zI 0), .null, .null, .null]] gg fp_X8_9 dX8_init_6 rfl rfl rfl (Nat.le_of_ble_eq_true rfl) rfl ?_
  refine z_aload_n (pc := 9) 0 gg dX8_init_9 rfl rfl ?_
  refine z_bipush (pc := 10) gg dX8_init_10 (by decide +kernel) ?_
  refine z_newaI (pc := 12) gg dX8_init_12 ar_I rfl (by decide) (Nat.le_of_ble_eq_true rfl) (Nat.le_of_ble_eq_true rfl) (fun q1 => ?_)
  show kV M E 1 _ _ [cO 8 h [.int (zI 0), .null, .null, .null], cI M q1 6 (fun _ => 0)] _ _ _
  refine z_putF (pc := 14) 0 [cO 8 h [.int (zI 0), .ref q1, .null, .null], cI M q1 6 (fun _ => 0)] gg gn fp_X8_15 dX8_init_14 rfl rfl rfl (Nat.le_of_ble_eq_true rfl) rfl ?_
  refine z_aload_n (pc := 17) 0 gg dX8_init_17 rfl rfl ?_
  refine z_bipush (pc := 18) gg dX8_init_18 (by decide +kernel) ?_
  refine z_newaI (pc := 20) gg dX8_init_20 ar_I rfl (by decide) (Nat.le_of_ble_eq_true rfl) (Nat.le_of_ble_eq_true rfl) (fun q2 => ?_)
  show kV M E 1 _ _ [cO 8 h [.int (zI 0), .ref q1, .null, .null], cI M q1 6 (fun _ => 0), cI M q2 6 (fun _ => 0)] _ _ _
  refine z_putF (pc := 22) 0 [cO 8 h [.int (zI 0), .ref q1, .ref q2, .null], cI M q1 6 (fun _ => 0), cI M q2 6 (fun _ => 0)] gg gn fp_X8_19 dX8_init_22 rfl rfl rfl (Nat.le_of_ble_eq_true rfl) rfl ?_
  refine z_aload_n (pc := 25) 0 gg dX8_init_25 rfl rfl ?_
  refine z_bipush (pc := 26) gg dX8_init_26 (by decide +kernel) ?_
  refine z_newaI (pc := 28) gg dX8_init_28 ar_I rfl (by decide) (Nat.le_of_ble_eq_true rfl) (Nat.le_of_ble_eq_true rfl) (fun q3 => ?_)
  show kV M E 1 _ _ [cO 8 h [.int (zI 0), .ref q1, .ref q2, .null], cI M q1 6 (fun _ => 0), cI M q2 6 (fun _ => 0), cI M q3 6 (fun _ => 0)] _ _ _
  refine z_putF (pc := 30) 0 [cO 8 h [.int (zI 0), .ref q1, .ref q2, .ref q3], cI M q1 6 (fun _ => 0), cI M q2 6 (fun _ => 0), cI M q3 6 (fun _ => 0)] gg gn fp_X8_22 dX8_init_30 rfl rfl rfl (Nat.le_of_ble_eq_true rfl) rfl ?_
  exact hret (q1, q2, q3) 33 _ _ _ (Nat.le_of_ble_eq_true rfl) (Nat.le_of_ble_eq_true rfl) dX8_init_33 trivial
