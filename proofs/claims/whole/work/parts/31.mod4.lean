set_option maxHeartbeats 4000000 in
set_option maxRecDepth 100000 in
theorem c_mBoard (M : KM) (w h : Int)  : kCI M yX11_board cX11_board 2 .int 0 0 0 [] [.int (zI w), .int (zI h)] (fun z (u : Unit) => z = 25 * w + h) (fun u => []) := by
  refine kCI.of [(0, .int (zI w)), (1, .int (zI h))] (by decide) (Nat.le_of_ble_eq_true rfl) rfl (fun E gg hret => ?_)
  refine z_bipush (pc := 0) gg dX11_board_0 (by decide +kernel) ?_
  refine z_iload_n (pc := 2) 0 gg dX11_board_2 rfl rfl ?_
  refine z_imul (pc := 3) gg dX11_board_3 ?_
  refine z_iload_n (pc := 4) 1 gg dX11_board_4 rfl rfl ?_
  refine z_iadd (pc := 5) gg dX11_board_5 ?_
  exact hret ((25 * w) + h) () 6 _ _ _ (Nat.le_of_ble_eq_true rfl) (Nat.le_of_ble_eq_true rfl) dX11_board_6 rfl rfl
set_option maxHeartbeats 4000000 in
set_option maxRecDepth 100000 in
theorem c_mIsBoard (M : KM) (w h : Int) (hw : zR w) (hh : zR h) : kCI M yX11_isBoard cX11_isBoard 2 .boolean 1 0 0 [] [.int (zI w), .int (zI h)] (fun z (u : Unit) => (z = 1 ∧ 1 ≤ w ∧ w ≤ 24 ∧ 1 ≤ h ∧ h ≤ 24) ∨ (z = 0 ∧ (w < 1 ∨ 24 < w ∨ h < 1 ∨ 24 < h))) (fun u => []) := by
  refine kCI.of [(0, .int (zI w)), (1, .int (zI h))] (by decide) (Nat.le_of_ble_eq_true rfl) rfl (fun E gg hret => ?_)
  have r1_hw := hw.1
  have r2_hw := hw.2
  have r1_hh := hh.1
  have r2_hh := hh.2
  refine z_iload_n (pc := 0) 0 gg dX11_isBoard_0 rfl rfl ?_
  refine z_iconst (pc := 1) gg dX11_isBoard_1 ?_
  refine z_bipush (pc := 2) gg dX11_isBoard_2 (by decide +kernel) ?_
  refine z_callS (pc := 4) (As := [.int (zI w), .int (zI 1), .int (zI 24)]) (st := []) gg (c_mIn M w (1 : Int) (24 : Int) (by first | assumption | omega | exact ⟨by omega, by omega⟩) (by first | assumption | omega | exact ⟨by omega, by omega⟩) (by first | assumption | omega | exact ⟨by omega, by omega⟩)) ys_11_isIn ml_X11_38 dX11_isBoard_4 (by decide) (Nat.le_of_ble_eq_true rfl) (Nat.le_of_ble_eq_true rfl) (Nat.le_of_ble_eq_true rfl) rfl rfl (fun z4 u4 hz4 => ?_)
  refine z_if_eq (pc := 7) 24 gg dX11_isBoard_7 (by decide) ⟨by omega, by omega⟩ (fun h7 => ?_) (fun h7 => ?_)
  · refine z_iconst (pc := 24) gg dX11_isBoard_24 ?_
    exact hret 0 () 25 _ _ _ (Nat.le_of_ble_eq_true rfl) (Nat.le_of_ble_eq_true rfl) dX11_isBoard_25 (zB01 (by omega)) (by omega)
  · refine z_iload_n (pc := 10) 1 gg dX11_isBoard_10 rfl rfl ?_
    refine z_iconst (pc := 11) gg dX11_isBoard_11 ?_
    refine z_bipush (pc := 12) gg dX11_isBoard_12 (by decide +kernel) ?_
    refine z_callS (pc := 14) (As := [.int (zI h), .int (zI 1), .int (zI 24)]) (st := []) gg (c_mIn M h (1 : Int) (24 : Int) (by first | assumption | omega | exact ⟨by omega, by omega⟩) (by first | assumption | omega | exact ⟨by omega, by omega⟩) (by first | assumption | omega | exact ⟨by omega, by omega⟩)) ys_11_isIn ml_X11_38 dX11_isBoard_14 (by decide) (Nat.le_of_ble_eq_true rfl) (Nat.le_of_ble_eq_true rfl) (Nat.le_of_ble_eq_true rfl) rfl rfl (fun z14 u14 hz14 => ?_)
    refine z_if_eq (pc := 17) 24 gg dX11_isBoard_17 (by decide) ⟨by omega, by omega⟩ (fun h17 => ?_) (fun h17 => ?_)
    · refine z_iconst (pc := 24) gg dX11_isBoard_24 ?_
      exact hret 0 () 25 _ _ _ (Nat.le_of_ble_eq_true rfl) (Nat.le_of_ble_eq_true rfl) dX11_isBoard_25 (zB01 (by omega)) (by omega)
    · refine z_iconst (pc := 20) gg dX11_isBoard_20 ?_
      refine z_goto (pc := 21) 25 gg dX11_isBoard_21 (by decide) ?_
      exact hret 1 () 25 _ _ _ (Nat.le_of_ble_eq_true rfl) (Nat.le_of_ble_eq_true rfl) dX11_isBoard_25 (zB01 (by omega)) (by omega)
set_option maxHeartbeats 4000000 in
set_option maxRecDepth 100000 in
theorem c_m_tries_yes (M : KM) (h a0 a1 a2 a3 a4 a5 a6 a7 a8 : Nat) (A hs ht bf cu fr wo wy my : Nat → Int) (k v w : Int) (hk : 0 ≤ k ∧ k < 625) (hv : zR v) (hw : zR (wo k.toNat)) (hc : wo k.toNat < v) : kCV M yX11_tries cX11_tries 4 0 0 0 [cO 11 h [.ref a0, .ref a1, .ref a2, .ref a3, .ref a4, .ref a5, .ref a6, .ref a7, .ref a8], cI M a0 1280 A, cZ M a1 3 hs, cI M a2 9 ht, cI M a3 9 bf, cI M a4 9 cu, cI M a5 32 fr, cI M a6 625 wo, cI M a7 625 wy, cI M a8 625 my] [.ref h, .int (zI k), .int (zI v), .int (zI w)] (fun u : Unit => True) (fun u => [cO 11 h [.ref a0, .ref a1, .ref a2, .ref a3, .ref a4, .ref a5, .ref a6, .ref a7, .ref a8], cI M a0 1280 A, cZ M a1 3 hs, cI M a2 9 ht, cI M a3 9 bf, cI M a4 9 cu, cI M a5 32 fr, cI M a6 625 (zU wo k.toNat v), cI M a7 625 (zU wy k.toNat w), cI M a8 625 my]) := by
  refine kCV.of [(0, .ref h), (1, .int (zI k)), (2, .int (zI v)), (3, .int (zI w))] (by decide) (Nat.le_of_ble_eq_true rfl) rfl (fun E gg gn hret => ?_)
  have r1_hv := hv.1
  have r2_hv := hv.2
  have r1_hw := hw.1
  have r2_hw := hw.2
  refine z_iload_n (pc := 0) 2 gg dX11_tries_0 rfl rfl ?_
  refine z_aload_n (pc := 1) 0 gg dX11_tries_1 rfl rfl ?_
  refine z_get (pc := 2) 0 gg fl_X11_29 dX11_tries_2 rfl rfl ?_
  refine z_iload_n (pc := 5) 1 gg dX11_tries_5 rfl rfl ?_
  refine z_iald (pc := 6) 7 k.toNat gg dX11_tries_6 rfl (by omega) (by omega) (by decide) ?_
  refine z_icmp_gt (pc := 7) 11 gg dX11_tries_7 (by decide) ⟨by omega, by omega⟩ ⟨by omega, by omega⟩ (fun h7 => ?_) (fun h7 => ?_)
  · refine z_aload_n (pc := 11) 0 gg dX11_tries_11 rfl rfl ?_
    refine z_get (pc := 12) 0 gg fl_X11_29 dX11_tries_12 rfl rfl ?_
    refine z_iload_n (pc := 15) 1 gg dX11_tries_15 rfl rfl ?_
    refine z_iload_n (pc := 16) 2 gg dX11_tries_16 rfl rfl ?_
    refine z_iast (pc := 17) 7 k.toNat [cO 11 h [.ref a0, .ref a1, .ref a2, .ref a3, .ref a4, .ref a5, .ref a6, .ref a7, .ref a8], cI M a0 1280 A, cZ M a1 3 hs, cI M a2 9 ht, cI M a3 9 bf, cI M a4 9 cu, cI M a5 32 fr, cI M a6 625 (zU wo k.toNat v), cI M a7 625 wy, cI M a8 625 my] gg dX11_tries_17 rfl (by omega) (by omega) (by decide) rfl ?_
    refine z_aload_n (pc := 18) 0 gg dX11_tries_18 rfl rfl ?_
    refine z_get (pc := 19) 0 gg fl_X11_32 dX11_tries_19 rfl rfl ?_
    refine z_iload_n (pc := 22) 1 gg dX11_tries_22 rfl rfl ?_
    refine z_iload_n (pc := 23) 3 gg dX11_tries_23 rfl rfl ?_
    refine z_iast (pc := 24) 8 k.toNat [cO 11 h [.ref a0, .ref a1, .ref a2, .ref a3, .ref a4, .ref a5, .ref a6, .ref a7, .ref a8], cI M a0 1280 A, cZ M a1 3 hs, cI M a2 9 ht, cI M a3 9 bf, cI M a4 9 cu, cI M a5 32 fr, cI M a6 625 (zU wo k.toNat v), cI M a7 625 (zU wy k.toNat w), cI M a8 625 my] gg dX11_tries_24 rfl (by omega) (by omega) (by decide) rfl ?_
    exact hret () 25 _ _ _ (Nat.le_of_ble_eq_true rfl) (Nat.le_of_ble_eq_true rfl) dX11_tries_25 trivial
  · exfalso; omega
set_option maxHeartbeats 4000000 in
set_option maxRecDepth 100000 in
theorem c_m_tries_no (M : KM) (h a0 a1 a2 a3 a4 a5 a6 a7 a8 : Nat) (A hs ht bf cu fr wo wy my : Nat → Int) (k v w : Int) (hk : 0 ≤ k ∧ k < 625) (hv : zR v) (hw : zR (wo k.toNat)) (hc : v ≤ wo k.toNat) : kCV M yX11_tries cX11_tries 4 0 0 0 [cO 11 h [.ref a0, .ref a1, .ref a2, .ref a3, .ref a4, .ref a5, .ref a6, .ref a7, .ref a8], cI M a0 1280 A, cZ M a1 3 hs, cI M a2 9 ht, cI M a3 9 bf, cI M a4 9 cu, cI M a5 32 fr, cI M a6 625 wo, cI M a7 625 wy, cI M a8 625 my] [.ref h, .int (zI k), .int (zI v), .int (zI w)] (fun u : Unit => True) (fun u => [cO 11 h [.ref a0, .ref a1, .ref a2, .ref a3, .ref a4, .ref a5, .ref a6, .ref a7, .ref a8], cI M a0 1280 A, cZ M a1 3 hs, cI M a2 9 ht, cI M a3 9 bf, cI M a4 9 cu, cI M a5 32 fr, cI M a6 625 wo, cI M a7 625 wy, cI M a8 625 my]) := by
  refine kCV.of [(0, .ref h), (1, .int (zI k)), (2, .int (zI v)), (3, .int (zI w))] (by decide) (Nat.le_of_ble_eq_true rfl) rfl (fun E gg gn hret => ?_)
  have r1_hv := hv.1
  have r2_hv := hv.2
  have r1_hw := hw.1
  have r2_hw := hw.2
  refine z_iload_n (pc := 0) 2 gg dX11_tries_0 rfl rfl ?_
  refine z_aload_n (pc := 1) 0 gg dX11_tries_1 rfl rfl ?_
  refine z_get (pc := 2) 0 gg fl_X11_29 dX11_tries_2 rfl rfl ?_
  refine z_iload_n (pc := 5) 1 gg dX11_tries_5 rfl rfl ?_
  refine z_iald (pc := 6) 7 k.toNat gg dX11_tries_6 rfl (by omega) (by omega) (by decide) ?_
  refine z_icmp_gt (pc := 7) 11 gg dX11_tries_7 (by decide) ⟨by omega, by omega⟩ ⟨by omega, by omega⟩ (fun h7 => ?_) (fun h7 => ?_)
  · exfalso; omega
  · exact hret () 10 _ _ _ (Nat.le_of_ble_eq_true rfl) (Nat.le_of_ble_eq_true rfl) dX11_tries_10 trivial
set_option maxHeartbeats 4000000 in
set_option maxRecDepth 100000 in
theorem c_m_settles (M : KM) (h a0 a1 a2 a3 a4 a5 a6 a7 a8 : Nat) (A hs ht bf cu fr wo wy my : Nat → Int) (wf : Nat → Int) (x y : Int) (h4 : 0 ≤ A 4 ∧ A 4 ≤ 6) (h8 : 0 ≤ A 8 ∧ A 8 ≤ 3) (hSh : ∀ j, j < 6 → (0 ≤ A (300 + (3 * j)) ∧ A (300 + (3 * j)) ≤ 24) ∧ (0 ≤ A ((300 + (3 * j)) + 1) ∧ A ((300 + (3 * j)) + 1) ≤ 24) ∧ (0 ≤ A ((300 + (3 * j)) + 2) ∧ A ((300 + (3 * j)) + 2) ≤ 999)) (hx : 1 ≤ x ∧ x ≤ 24) (hy : 1 ≤ y ∧ y ≤ 24) (hR : ∀ a b, 1 ≤ a → a ≤ x.toNat → 1 ≤ b → b ≤ y.toNat → (a < x.toNat ∨ b < y.toNat) → wo (a * 25 + b) = wf (a * 25 + b)) (hB : ∀ a b, 1 ≤ a → a ≤ x.toNat → 1 ≤ b → b ≤ y.toNat → (a < x.toNat ∨ b < y.toNat) → 0 ≤ wf (a * 25 + b) ∧ wf (a * 25 + b) ≤ 600000) : kCV M yX11_settles cX11_settles 5 1 0 0 [cO 11 h [.ref a0, .ref a1, .ref a2, .ref a3, .ref a4, .ref a5, .ref a6, .ref a7, .ref a8], cI M a0 1280 A, cZ M a1 3 hs, cI M a2 9 ht, cI M a3 9 bf, cI M a4 9 cu, cI M a5 32 fr, cI M a6 625 wo, cI M a7 625 wy, cI M a8 625 my] [.ref h, .int (zI x), .int (zI y)] (fun u : Unit => True) (fun u => [cO 11 h [.ref a0, .ref a1, .ref a2, .ref a3, .ref a4, .ref a5, .ref a6, .ref a7, .ref a8], cI M a0 1280 A, cZ M a1 3 hs, cI M a2 9 ht, cI M a3 9 bf, cI M a4 9 cu, cI M a5 32 fr, cI M a6 625 (zU wo (25 * x + y).toNat (fin (A 4).toNat (lF 300 3 6 A) (lF 301 3 6 A) (lF 302 3 6 A) wf (A 8).toNat x.toNat y.toNat).1), cI M a7 625 (zU wy (25 * x + y).toNat (fin (A 4).toNat (lF 300 3 6 A) (lF 301 3 6 A) (lF 302 3 6 A) wf (A 8).toNat x.toNat y.toNat).2), cI M a8 625 my]) := by
  refine kCV.of [(0, .ref h), (1, .int (zI x)), (2, .int (zI y))] (by decide) (Nat.le_of_ble_eq_true rfl) rfl (fun E gg gn hret => ?_)
  have hs9 : ∀ j, j < (A 4).toNat → 0 ≤ (lF 302 3 6 A) j ∧ (lF 302 3 6 A) j ≤ 999 := fun j hj => by
    have := hSh j (by omega)
    rw [lF_at (by omega), show 302 + 3 * j = (300 + (3 * j)) + 2 by omega]
    exact this.2.2
  refine z_iload_n (pc := 0) 1 gg dX11_settles_0 rfl rfl ?_
  refine z_iload_n (pc := 1) 2 gg dX11_settles_1 rfl rfl ?_
  refine z_callS (pc := 2) (As := [.int (zI x), .int (zI y)]) (st := []) gg (c_mBoard M x y ) ys_11_board ml_X11_92 dX11_settles_2 (by decide) (Nat.le_of_ble_eq_true rfl) (Nat.le_of_ble_eq_true rfl) (Nat.le_of_ble_eq_true rfl) rfl rfl (fun z2 u2 hz2 => ?_)
  subst hz2
  refine z_istore_n (pc := 5) [(3, .int (zI (25 * x + y))), (0, .ref h), (1, .int (zI x)), (2, .int (zI y))] gg dX11_settles_5 rfl (Nat.le_of_ble_eq_true rfl) rfl ?_
  refine z_aload_n (pc := 6) 1 gg dX11_settles_6 rfl rfl ?_
  refine z_get (pc := 7) 0 gg fl_X11_29 dX11_settles_7 rfl rfl ?_
  refine z_iload_n (pc := 10) 0 gg dX11_settles_10 rfl rfl ?_
  refine z_iconst (pc := 11) gg dX11_settles_11 ?_
  refine z_iast (pc := 12) 7 ((25 * x + y).toNat) [cO 11 h [.ref a0, .ref a1, .ref a2, .ref a3, .ref a4, .ref a5, .ref a6, .ref a7, .ref a8], cI M a0 1280 A, cZ M a1 3 hs, cI M a2 9 ht, cI M a3 9 bf, cI M a4 9 cu, cI M a5 32 fr, cI M a6 625 (zU wo ((25 * x + y).toNat) 0), cI M a7 625 wy, cI M a8 625 my] gg dX11_settles_12 rfl (by omega) (by omega) (by decide) rfl ?_
  refine z_aload_n (pc := 13) 1 gg dX11_settles_13 rfl rfl ?_
  refine z_get (pc := 14) 0 gg fl_X11_32 dX11_settles_14 rfl rfl ?_
  refine z_iload_n (pc := 17) 0 gg dX11_settles_17 rfl rfl ?_
  refine z_bipush (pc := 18) gg dX11_settles_18 (by decide +kernel) ?_
  refine z_iast (pc := 20) 8 ((25 * x + y).toNat) [cO 11 h [.ref a0, .ref a1, .ref a2, .ref a3, .ref a4, .ref a5, .ref a6, .ref a7, .ref a8], cI M a0 1280 A, cZ M a1 3 hs, cI M a2 9 ht, cI M a3 9 bf, cI M a4 9 cu, cI M a5 32 fr, cI M a6 625 (zU wo ((25 * x + y).toNat) 0), cI M a7 625 (zU wy ((25 * x + y).toNat) (-100)), cI M a8 625 my] gg dX11_settles_20 rfl (by omega) (by omega) (by decide) rfl ?_
  refine z_iconst (pc := 21) gg dX11_settles_21 ?_
  refine z_istore (pc := 22) [(4, .int (zI 0)), (3, .int (zI (25 * x + y))), (0, .ref h), (1, .int (zI x)), (2, .int (zI y))] gg dX11_settles_22 (Nat.le_of_ble_eq_true rfl) rfl ?_
  have loop24 : ∀ (k24 : Nat) (i b c : Int), (0 ≤ i ∧ i ≤ A 4) → (b = (w0B i.toNat (lF 300 3 6 A) (lF 301 3 6 A) (lF 302 3 6 A) x.toNat y.toNat)) → (c = (w0Y i.toNat (lF 300 3 6 A) (lF 301 3 6 A) (lF 302 3 6 A) x.toNat y.toNat)) → (A 4).toNat - i.toNat < k24 → kV M E 5 0 0 [cO 11 h [.ref a0, .ref a1, .ref a2, .ref a3, .ref a4, .ref a5, .ref a6, .ref a7, .ref a8], cI M a0 1280 A, cZ M a1 3 hs, cI M a2 9 ht, cI M a3 9 bf, cI M a4 9 cu, cI M a5 32 fr, cI M a6 625 (zU wo (25 * x + y).toNat b), cI M a7 625 (zU wy (25 * x + y).toNat c), cI M a8 625 my] [(4, .int (zI i)), (3, .int (zI (25 * x + y))), (0, .ref h), (1, .int (zI x)), (2, .int (zI y))] 24 [] := by
    intro k24
    induction k24 with
    | zero => intro i b c hi hb hc hm24; exact absurd hm24 (Nat.not_lt_zero _)
    | succ k24 ih24 =>
      intro i b c hi hb hc hm24
      have hbb := w0B_b (n := i.toNat) (sw := (lF 300 3 6 A)) (sh := (lF 301 3 6 A)) (sv := (lF 302 3 6 A)) (w := x.toNat) (h := y.toNat) (fun j hj => hs9 j (by omega))
      rw [← hb] at hbb
      refine z_iload (pc := 24) 0 gg dX11_settles_24 rfl ?_
      refine z_aload_n (pc := 26) 2 gg dX11_settles_26 rfl rfl ?_
      refine z_get (pc := 27) 0 gg fl_X11_7 dX11_settles_27 rfl rfl ?_
      refine z_iconst (pc := 30) gg dX11_settles_30 ?_
      refine z_iald (pc := 31) 1 4 gg dX11_settles_31 rfl (by omega) (by omega) (by decide) ?_
      refine z_icmp_ge (pc := 32) 101 gg dX11_settles_32 (by decide) ⟨by omega, by omega⟩ ⟨by omega, by omega⟩ (fun h32 => ?_) (fun h32 => ?_)
      · refine z_iconst (pc := 101) gg dX11_settles_101 ?_
        refine z_istore (pc := 102) [(4, .int (zI 1)), (3, .int (zI (25 * x + y))), (0, .ref h), (1, .int (zI x)), (2, .int (zI y))] gg dX11_settles_102 (Nat.le_of_ble_eq_true rfl) rfl ?_
        have loop104 : ∀ (k104 : Nat) (k b c : Int), (1 ≤ k ∧ k ≤ 24) → (k = 1 ∨ k + A 8 ≤ x) → (b = (upS (A 4).toNat (lF 300 3 6 A) (lF 301 3 6 A) (lF 302 3 6 A) wf (A 8).toNat x.toNat y.toNat (k.toNat - 1)).1) → (c = (upS (A 4).toNat (lF 300 3 6 A) (lF 301 3 6 A) (lF 302 3 6 A) wf (A 8).toNat x.toNat y.toNat (k.toNat - 1)).2) → 24 - k.toNat < k104 → kV M E 5 0 0 [cO 11 h [.ref a0, .ref a1, .ref a2, .ref a3, .ref a4, .ref a5, .ref a6, .ref a7, .ref a8], cI M a0 1280 A, cZ M a1 3 hs, cI M a2 9 ht, cI M a3 9 bf, cI M a4 9 cu, cI M a5 32 fr, cI M a6 625 (zU wo (25 * x + y).toNat b), cI M a7 625 (zU wy (25 * x + y).toNat c), cI M a8 625 my] [(4, .int (zI k)), (3, .int (zI (25 * x + y))), (0, .ref h), (1, .int (zI x)), (2, .int (zI y))] 104 [] := by
          intro k104
          induction k104 with
          | zero => intro k b c hk hkx hb hc hm104; exact absurd hm104 (Nat.not_lt_zero _)
          | succ k104 ih104 =>
            intro k b c hk hkx hb hc hm104
            have hbb := up_b (n := (A 4).toNat) (sw := (lF 300 3 6 A)) (sh := (lF 301 3 6 A)) (sv := (lF 302 3 6 A)) (wf := wf) (saw := (A 8).toNat) (w := x.toNat) (h := y.toNat) (k := k.toNat - 1) (B := 600000) (by omega) hs9 hB (by omega) (by omega)
            rw [← hb] at hbb
            refine z_iload (pc := 104) 0 gg dX11_settles_104 rfl ?_
            refine z_aload_n (pc := 106) 2 gg dX11_settles_106 rfl rfl ?_
            refine z_get (pc := 107) 0 gg fl_X11_7 dX11_settles_107 rfl rfl ?_
            refine z_bipush (pc := 110) gg dX11_settles_110 (by decide +kernel) ?_
            refine z_iald (pc := 112) 1 8 gg dX11_settles_112 rfl (by omega) (by omega) (by decide) ?_
            refine z_iadd (pc := 113) gg dX11_settles_113 ?_
            refine z_iload_n (pc := 114) 3 gg dX11_settles_114 rfl rfl ?_
            refine z_icmp_ge (pc := 115) 164 gg dX11_settles_115 (by decide) ⟨by omega, by omega⟩ ⟨by omega, by omega⟩ (fun h115 => ?_) (fun h115 => ?_)
            · refine z_iconst (pc := 164) gg dX11_settles_164 ?_
              refine z_istore (pc := 165) [(4, .int (zI 1)), (3, .int (zI (25 * x + y))), (0, .ref h), (1, .int (zI x)), (2, .int (zI y))] gg dX11_settles_165 (Nat.le_of_ble_eq_true rfl) rfl ?_
              have loop167 : ∀ (k167 : Nat) (k b c : Int), (1 ≤ k ∧ k ≤ 24) → (k = 1 ∨ k + A 8 ≤ y) → (b = (lvS (A 4).toNat (lF 300 3 6 A) (lF 301 3 6 A) (lF 302 3 6 A) wf (A 8).toNat x.toNat y.toNat (k.toNat - 1)).1) → (c = (lvS (A 4).toNat (lF 300 3 6 A) (lF 301 3 6 A) (lF 302 3 6 A) wf (A 8).toNat x.toNat y.toNat (k.toNat - 1)).2) → 24 - k.toNat < k167 → kV M E 5 0 0 [cO 11 h [.ref a0, .ref a1, .ref a2, .ref a3, .ref a4, .ref a5, .ref a6, .ref a7, .ref a8], cI M a0 1280 A, cZ M a1 3 hs, cI M a2 9 ht, cI M a3 9 bf, cI M a4 9 cu, cI M a5 32 fr, cI M a6 625 (zU wo (25 * x + y).toNat b), cI M a7 625 (zU wy (25 * x + y).toNat c), cI M a8 625 my] [(4, .int (zI k)), (3, .int (zI (25 * x + y))), (0, .ref h), (1, .int (zI x)), (2, .int (zI y))] 167 [] := by
                intro k167
                induction k167 with
                | zero => intro k b c hk hkx hb hc hm167; exact absurd hm167 (Nat.not_lt_zero _)
                | succ k167 ih167 =>
                  intro k b c hk hkx hb hc hm167
                  have hbb := lv_b (n := (A 4).toNat) (sw := (lF 300 3 6 A)) (sh := (lF 301 3 6 A)) (sv := (lF 302 3 6 A)) (wf := wf) (saw := (A 8).toNat) (w := x.toNat) (h := y.toNat) (k := k.toNat - 1) (B := 600000) (by omega) hs9 hB (by omega) (by omega) (by omega)
                  rw [← hb] at hbb
                  refine z_iload (pc := 167) 0 gg dX11_settles_167 rfl ?_
                  refine z_aload_n (pc := 169) 2 gg dX11_settles_169 rfl rfl ?_
                  refine z_get (pc := 170) 0 gg fl_X11_7 dX11_settles_170 rfl rfl ?_
                  refine z_bipush (pc := 173) gg dX11_settles_173 (by decide +kernel) ?_
                  refine z_iald (pc := 175) 1 8 gg dX11_settles_175 rfl (by omega) (by omega) (by decide) ?_
                  refine z_iadd (pc := 176) gg dX11_settles_176 ?_
                  refine z_iload_n (pc := 177) 4 gg dX11_settles_177 rfl rfl ?_
                  refine z_icmp_ge (pc := 178) 230 gg dX11_settles_178 (by decide) ⟨by omega, by omega⟩ ⟨by omega, by omega⟩ (fun h178 => ?_) (fun h178 => ?_)
                  · rw [show k.toNat - 1 = y.toNat - (A 8).toNat - 1 by omega] at hb hc
                    subst hb
                    subst hc
                    exact hret () 230 _ _ _ (Nat.le_of_ble_eq_true rfl) (Nat.le_of_ble_eq_true rfl) dX11_settles_230 trivial
                  · refine z_aload_n (pc := 181) 2 gg dX11_settles_181 rfl rfl ?_
                    refine z_iload_n (pc := 182) 1 gg dX11_settles_182 rfl rfl ?_
                    refine z_aload_n (pc := 183) 2 gg dX11_settles_183 rfl rfl ?_
                    refine z_get (pc := 184) 0 gg fl_X11_29 dX11_settles_184 rfl rfl ?_
                    refine z_iload_n (pc := 187) 3 gg dX11_settles_187 rfl rfl ?_
                    refine z_iload (pc := 188) 0 gg dX11_settles_188 rfl ?_
                    refine z_callS (pc := 190) (As := [.int (zI x), .int (zI k)]) (st := [.ref a6, .int (zI (25 * x + y)), .ref h]) gg (c_mBoard M x k ) ys_11_board ml_X11_92 dX11_settles_190 (by decide) (Nat.le_of_ble_eq_true rfl) (Nat.le_of_ble_eq_true rfl) (Nat.le_of_ble_eq_true rfl) rfl rfl (fun z190 u190 hz190 => ?_)
                    subst hz190
                    refine z_iald (pc := 193) 7 ((25 * x + k).toNat) gg dX11_settles_193 rfl (by omega) (by omega) (by decide) ?_
                    rw [show ((zU wo (25 * x + y).toNat b) ((25 * x + k).toNat)) = (wo ((25 * x + k).toNat)) from by rw [zU_n _ _ (by omega)]]
                    refine z_aload_n (pc := 194) 2 gg dX11_settles_194 rfl rfl ?_
                    refine z_get (pc := 195) 0 gg fl_X11_29 dX11_settles_195 rfl rfl ?_
                    refine z_iload_n (pc := 198) 3 gg dX11_settles_198 rfl rfl ?_
                    refine z_iload_n (pc := 199) 4 gg dX11_settles_199 rfl rfl ?_
                    refine z_iload (pc := 200) 0 gg dX11_settles_200 rfl ?_
                    refine z_isub (pc := 202) gg dX11_settles_202 ?_
                    refine z_aload_n (pc := 203) 2 gg dX11_settles_203 rfl rfl ?_
                    refine z_get (pc := 204) 0 gg fl_X11_7 dX11_settles_204 rfl rfl ?_
                    refine z_bipush (pc := 207) gg dX11_settles_207 (by decide +kernel) ?_
                    refine z_iald (pc := 209) 1 8 gg dX11_settles_209 rfl (by omega) (by omega) (by decide) ?_
                    refine z_isub (pc := 210) gg dX11_settles_210 ?_
                    refine z_callS (pc := 211) (As := [.int (zI x), .int (zI ((y - k) - (A 8)))]) (st := [.ref a6, .int (zI (wo ((25 * x + k).toNat))), .int (zI (25 * x + y)), .ref h]) gg (c_mBoard M x ((y - k) - (A 8)) ) ys_11_board ml_X11_92 dX11_settles_211 (by decide) (Nat.le_of_ble_eq_true rfl) (Nat.le_of_ble_eq_true rfl) (Nat.le_of_ble_eq_true rfl) rfl rfl (fun z211 u211 hz211 => ?_)
                    subst hz211
                    refine z_iald (pc := 214) 7 ((25 * x + ((y - k) - (A 8))).toNat) gg dX11_settles_214 rfl (by omega) (by omega) (by decide) ?_
                    rw [show ((zU wo (25 * x + y).toNat b) ((25 * x + ((y - k) - (A 8))).toNat)) = (wo ((25 * x + ((y - k) - (A 8))).toNat)) from by rw [zU_n _ _ (by omega)]]
                    refine z_iadd (pc := 215) gg dX11_settles_215 ?_
                    refine z_bipush (pc := 216) gg dX11_settles_216 (by decide +kernel) ?_
                    refine z_iload (pc := 218) 0 gg dX11_settles_218 rfl ?_
                    refine z_iadd (pc := 220) gg dX11_settles_220 ?_
                    have r1 := hR x.toNat k.toNat (by omega) (by omega) (by omega) (by omega) (by omega)
                    have r2 := hR x.toNat (y.toNat - (A 8).toNat - k.toNat) (by omega) (by omega) (by omega) (by omega) (by omega)
                    have b1 := hB x.toNat k.toNat (by omega) (by omega) (by omega) (by omega) (by omega)
                    have b2 := hB x.toNat (y.toNat - (A 8).toNat - k.toNat) (by omega) (by omega) (by omega) (by omega) (by omega)
                    have eg : ((wo (25 * x + k).toNat) + (wo (25 * x + ((y - k) - (A 8))).toNat)) = gL wf (A 8).toNat x.toNat y.toNat k.toNat := by
                      unfold gL
                      rw [← r1, ← r2, show (25 * x + k).toNat = x.toNat * 25 + k.toNat by omega, show (25 * x + ((y - k) - (A 8))).toNat = x.toNat * 25 + (y.toNat - (A 8).toNat - k.toNat) by omega]
                    have egb : 0 ≤ ((wo (25 * x + k).toNat) + (wo (25 * x + ((y - k) - (A 8))).toNat)) ∧ ((wo (25 * x + k).toNat) + (wo (25 * x + ((y - k) - (A 8))).toNat)) ≤ 1200000 := by
                      rw [eg]; unfold gL; omega
                    by_cases ht3 : b < ((wo (25 * x + k).toNat) + (wo (25 * x + ((y - k) - (A 8))).toNat))
                    · refine z_callWv (pc := 221) (As := [.int (zI (25 * x + y)), .int (zI ((wo ((25 * x + k).toNat)) + (wo ((25 * x + ((y - k) - (A 8))).toNat)))), .int (zI (100 + k))]) (st := []) gg (c_m_tries_yes M h a0 a1 a2 a3 a4 a5 a6 a7 a8 A hs ht bf cu fr (zU wo (25 * x + y).toNat b) (zU wy (25 * x + y).toNat c) my (25 * x + y) ((wo ((25 * x + k).toNat)) + (wo ((25 * x + ((y - k) - (A 8))).toNat))) (100 + k) (by omega) ⟨by omega, by omega⟩ (by rw [zU_s]; exact ⟨by omega, by omega⟩) (by rw [zU_s]; omega)) yv_11_tries ml_X11_95 dX11_settles_221 (by decide) (Nat.le_of_ble_eq_true rfl) (Nat.le_of_ble_eq_true rfl) (Nat.le_of_ble_eq_true rfl) rfl rfl rfl (fun u221 hz221 => ?_)
                      rw [zU_zU, zU_zU]
                      refine z_iinc (pc := 224) 0 [(4, .int (zI (k + 1))), (3, .int (zI (25 * x + y))), (0, .ref h), (1, .int (zI x)), (2, .int (zI y))] gg dX11_settles_224 rfl (Nat.le_of_ble_eq_true rfl) rfl ?_
                      refine z_goto (pc := 227) 167 gg dX11_settles_227 (by decide) ?_
                      exact ih167 (k + 1) ((wo ((25 * x + k).toNat)) + (wo ((25 * x + ((y - k) - (A 8))).toNat))) (100 + k) (by omega) (by omega) (by rw [lv_yes (by omega) hb (by rw [← eg]; omega)]; exact eg) (by rw [lv_yes (by omega) hb (by rw [← eg]; omega)]) (by omega)
                    · refine z_callWv (pc := 221) (As := [.int (zI (25 * x + y)), .int (zI ((wo ((25 * x + k).toNat)) + (wo ((25 * x + ((y - k) - (A 8))).toNat)))), .int (zI (100 + k))]) (st := []) gg (c_m_tries_no M h a0 a1 a2 a3 a4 a5 a6 a7 a8 A hs ht bf cu fr (zU wo (25 * x + y).toNat b) (zU wy (25 * x + y).toNat c) my (25 * x + y) ((wo ((25 * x + k).toNat)) + (wo ((25 * x + ((y - k) - (A 8))).toNat))) (100 + k) (by omega) ⟨by omega, by omega⟩ (by rw [zU_s]; exact ⟨by omega, by omega⟩) (by rw [zU_s]; omega)) yv_11_tries ml_X11_95 dX11_settles_221 (by decide) (Nat.le_of_ble_eq_true rfl) (Nat.le_of_ble_eq_true rfl) (Nat.le_of_ble_eq_true rfl) rfl rfl rfl (fun u221 hz221 => ?_)
                      refine z_iinc (pc := 224) 0 [(4, .int (zI (k + 1))), (3, .int (zI (25 * x + y))), (0, .ref h), (1, .int (zI x)), (2, .int (zI y))] gg dX11_settles_224 rfl (Nat.le_of_ble_eq_true rfl) rfl ?_
                      refine z_goto (pc := 227) 167 gg dX11_settles_227 (by decide) ?_
                      exact ih167 (k + 1) b c (by omega) (by omega) (by rw [lv_no (by omega) hb (by rw [← eg]; omega)]; exact hb) (by rw [lv_no (by omega) hb (by rw [← eg]; omega)]; exact hc) (by omega)
              exact loop167 _ 1 b c (by omega) (by omega) (by rw [hb, show k.toNat - 1 = x.toNat - (A 8).toNat - 1 by omega]; rfl) (by rw [hc, show k.toNat - 1 = x.toNat - (A 8).toNat - 1 by omega]; rfl) (Nat.lt_succ_self _)
            · refine z_aload_n (pc := 118) 2 gg dX11_settles_118 rfl rfl ?_
              refine z_iload_n (pc := 119) 1 gg dX11_settles_119 rfl rfl ?_
              refine z_aload_n (pc := 120) 2 gg dX11_settles_120 rfl rfl ?_
              refine z_get (pc := 121) 0 gg fl_X11_29 dX11_settles_121 rfl rfl ?_
              refine z_iload (pc := 124) 0 gg dX11_settles_124 rfl ?_
              refine z_iload_n (pc := 126) 4 gg dX11_settles_126 rfl rfl ?_
              refine z_callS (pc := 127) (As := [.int (zI k), .int (zI y)]) (st := [.ref a6, .int (zI (25 * x + y)), .ref h]) gg (c_mBoard M k y ) ys_11_board ml_X11_92 dX11_settles_127 (by decide) (Nat.le_of_ble_eq_true rfl) (Nat.le_of_ble_eq_true rfl) (Nat.le_of_ble_eq_true rfl) rfl rfl (fun z127 u127 hz127 => ?_)
              subst hz127
              refine z_iald (pc := 130) 7 ((25 * k + y).toNat) gg dX11_settles_130 rfl (by omega) (by omega) (by decide) ?_
              rw [show ((zU wo (25 * x + y).toNat b) ((25 * k + y).toNat)) = (wo ((25 * k + y).toNat)) from by rw [zU_n _ _ (by omega)]]
              refine z_aload_n (pc := 131) 2 gg dX11_settles_131 rfl rfl ?_
              refine z_get (pc := 132) 0 gg fl_X11_29 dX11_settles_132 rfl rfl ?_
              refine z_iload_n (pc := 135) 3 gg dX11_settles_135 rfl rfl ?_
              refine z_iload (pc := 136) 0 gg dX11_settles_136 rfl ?_
              refine z_isub (pc := 138) gg dX11_settles_138 ?_
              refine z_aload_n (pc := 139) 2 gg dX11_settles_139 rfl rfl ?_
              refine z_get (pc := 140) 0 gg fl_X11_7 dX11_settles_140 rfl rfl ?_
              refine z_bipush (pc := 143) gg dX11_settles_143 (by decide +kernel) ?_
              refine z_iald (pc := 145) 1 8 gg dX11_settles_145 rfl (by omega) (by omega) (by decide) ?_
              refine z_isub (pc := 146) gg dX11_settles_146 ?_
              refine z_iload_n (pc := 147) 4 gg dX11_settles_147 rfl rfl ?_
              refine z_callS (pc := 148) (As := [.int (zI ((x - k) - (A 8))), .int (zI y)]) (st := [.ref a6, .int (zI (wo ((25 * k + y).toNat))), .int (zI (25 * x + y)), .ref h]) gg (c_mBoard M ((x - k) - (A 8)) y ) ys_11_board ml_X11_92 dX11_settles_148 (by decide) (Nat.le_of_ble_eq_true rfl) (Nat.le_of_ble_eq_true rfl) (Nat.le_of_ble_eq_true rfl) rfl rfl (fun z148 u148 hz148 => ?_)
              subst hz148
              refine z_iald (pc := 151) 7 ((25 * ((x - k) - (A 8)) + y).toNat) gg dX11_settles_151 rfl (by omega) (by omega) (by decide) ?_
              rw [show ((zU wo (25 * x + y).toNat b) ((25 * ((x - k) - (A 8)) + y).toNat)) = (wo ((25 * ((x - k) - (A 8)) + y).toNat)) from by rw [zU_n _ _ (by omega)]]
              refine z_iadd (pc := 152) gg dX11_settles_152 ?_
              refine z_iload (pc := 153) 0 gg dX11_settles_153 rfl ?_
              have r1 := hR k.toNat y.toNat (by omega) (by omega) (by omega) (by omega) (by omega)
              have r2 := hR (x.toNat - (A 8).toNat - k.toNat) y.toNat (by omega) (by omega) (by omega) (by omega) (by omega)
              have b1 := hB k.toNat y.toNat (by omega) (by omega) (by omega) (by omega) (by omega)
              have b2 := hB (x.toNat - (A 8).toNat - k.toNat) y.toNat (by omega) (by omega) (by omega) (by omega) (by omega)
              have eg : ((wo (25 * k + y).toNat) + (wo (25 * ((x - k) - (A 8)) + y).toNat)) = gU wf (A 8).toNat x.toNat y.toNat k.toNat := by
                unfold gU
                rw [← r1, ← r2, show (25 * k + y).toNat = k.toNat * 25 + y.toNat by omega, show (25 * ((x - k) - (A 8)) + y).toNat = (x.toNat - (A 8).toNat - k.toNat) * 25 + y.toNat by omega]
              have egb : 0 ≤ ((wo (25 * k + y).toNat) + (wo (25 * ((x - k) - (A 8)) + y).toNat)) ∧ ((wo (25 * k + y).toNat) + (wo (25 * ((x - k) - (A 8)) + y).toNat)) ≤ 1200000 := by
                rw [eg]; unfold gU; omega
              by_cases ht2 : b < ((wo (25 * k + y).toNat) + (wo (25 * ((x - k) - (A 8)) + y).toNat))
              · refine z_callWv (pc := 155) (As := [.int (zI (25 * x + y)), .int (zI ((wo ((25 * k + y).toNat)) + (wo ((25 * ((x - k) - (A 8)) + y).toNat)))), .int (zI k)]) (st := []) gg (c_m_tries_yes M h a0 a1 a2 a3 a4 a5 a6 a7 a8 A hs ht bf cu fr (zU wo (25 * x + y).toNat b) (zU wy (25 * x + y).toNat c) my (25 * x + y) ((wo ((25 * k + y).toNat)) + (wo ((25 * ((x - k) - (A 8)) + y).toNat))) k (by omega) ⟨by omega, by omega⟩ (by rw [zU_s]; exact ⟨by omega, by omega⟩) (by rw [zU_s]; omega)) yv_11_tries ml_X11_95 dX11_settles_155 (by decide) (Nat.le_of_ble_eq_true rfl) (Nat.le_of_ble_eq_true rfl) (Nat.le_of_ble_eq_true rfl) rfl rfl rfl (fun u155 hz155 => ?_)
                rw [zU_zU, zU_zU]
                refine z_iinc (pc := 158) 0 [(4, .int (zI (k + 1))), (3, .int (zI (25 * x + y))), (0, .ref h), (1, .int (zI x)), (2, .int (zI y))] gg dX11_settles_158 rfl (Nat.le_of_ble_eq_true rfl) rfl ?_
                refine z_goto (pc := 161) 104 gg dX11_settles_161 (by decide) ?_
                exact ih104 (k + 1) ((wo ((25 * k + y).toNat)) + (wo ((25 * ((x - k) - (A 8)) + y).toNat))) k (by omega) (by omega) (by rw [up_yes (by omega) hb (by rw [← eg]; omega)]; exact eg) (by rw [up_yes (by omega) hb (by rw [← eg]; omega)]) (by omega)
              · refine z_callWv (pc := 155) (As := [.int (zI (25 * x + y)), .int (zI ((wo ((25 * k + y).toNat)) + (wo ((25 * ((x - k) - (A 8)) + y).toNat)))), .int (zI k)]) (st := []) gg (c_m_tries_no M h a0 a1 a2 a3 a4 a5 a6 a7 a8 A hs ht bf cu fr (zU wo (25 * x + y).toNat b) (zU wy (25 * x + y).toNat c) my (25 * x + y) ((wo ((25 * k + y).toNat)) + (wo ((25 * ((x - k) - (A 8)) + y).toNat))) k (by omega) ⟨by omega, by omega⟩ (by rw [zU_s]; exact ⟨by omega, by omega⟩) (by rw [zU_s]; omega)) yv_11_tries ml_X11_95 dX11_settles_155 (by decide) (Nat.le_of_ble_eq_true rfl) (Nat.le_of_ble_eq_true rfl) (Nat.le_of_ble_eq_true rfl) rfl rfl rfl (fun u155 hz155 => ?_)
                refine z_iinc (pc := 158) 0 [(4, .int (zI (k + 1))), (3, .int (zI (25 * x + y))), (0, .ref h), (1, .int (zI x)), (2, .int (zI y))] gg dX11_settles_158 rfl (Nat.le_of_ble_eq_true rfl) rfl ?_
                refine z_goto (pc := 161) 104 gg dX11_settles_161 (by decide) ?_
                exact ih104 (k + 1) b c (by omega) (by omega) (by rw [up_no (by omega) hb (by rw [← eg]; omega)]; exact hb) (by rw [up_no (by omega) hb (by rw [← eg]; omega)]; exact hc) (by omega)
        exact loop104 _ 1 b c (by omega) (by omega) (by rw [hb, show i.toNat = (A 4).toNat by omega]; rfl) (by rw [hc, show i.toNat = (A 4).toNat by omega]; rfl) (Nat.lt_succ_self _)
      · have hsi := hSh i.toNat (by omega)
        have e0 : (lF 300 3 6 A) i.toNat = A (300 + (3 * i.toNat)) := lF_at (by omega)
        have e1 : (lF 301 3 6 A) i.toNat = A ((300 + (3 * i.toNat)) + 1) := by rw [lF_at (by omega)]; congr 1; omega
        have e2 : (lF 302 3 6 A) i.toNat = A ((300 + (3 * i.toNat)) + 2) := by rw [lF_at (by omega)]; congr 1; omega
        refine z_aload_n (pc := 35) 2 gg dX11_settles_35 rfl rfl ?_
        refine z_get (pc := 36) 0 gg fl_X11_7 dX11_settles_36 rfl rfl ?_
        refine z_sipush (pc := 39) gg dX11_settles_39 (by decide +kernel) ?_
        refine z_iconst (pc := 42) gg dX11_settles_42 ?_
        refine z_iload (pc := 43) 0 gg dX11_settles_43 rfl ?_
        refine z_imul (pc := 45) gg dX11_settles_45 ?_
        refine z_iadd (pc := 46) gg dX11_settles_46 ?_
        refine z_iald (pc := 47) 1 (300 + (3 * i.toNat)) gg dX11_settles_47 rfl (by omega) (by omega) (by decide) ?_
        refine z_iload_n (pc := 48) 3 gg dX11_settles_48 rfl rfl ?_
        refine z_icmp_gt (pc := 49) 95 gg dX11_settles_49 (by decide) ⟨by omega, by omega⟩ ⟨by omega, by omega⟩ (fun h49 => ?_) (fun h49 => ?_)
        · refine z_iinc (pc := 95) 0 [(4, .int (zI (i + 1))), (3, .int (zI (25 * x + y))), (0, .ref h), (1, .int (zI x)), (2, .int (zI y))] gg dX11_settles_95 rfl (Nat.le_of_ble_eq_true rfl) rfl ?_
          refine z_goto (pc := 98) 24 gg dX11_settles_98 (by decide) ?_
          exact ih24 (i + 1) b c (by omega) (by rw [show (i + 1).toNat = i.toNat + 1 by omega, (w0_no (by rw [← hb]; omega)).1]; exact hb) (by rw [show (i + 1).toNat = i.toNat + 1 by omega, (w0_no (by rw [← hb]; omega)).2]; exact hc) (by omega)
        · refine z_aload_n (pc := 52) 2 gg dX11_settles_52 rfl rfl ?_
          refine z_get (pc := 53) 0 gg fl_X11_7 dX11_settles_53 rfl rfl ?_
          refine z_sipush (pc := 56) gg dX11_settles_56 (by decide +kernel) ?_
          refine z_iconst (pc := 59) gg dX11_settles_59 ?_
          refine z_iload (pc := 60) 0 gg dX11_settles_60 rfl ?_
          refine z_imul (pc := 62) gg dX11_settles_62 ?_
          refine z_iadd (pc := 63) gg dX11_settles_63 ?_
          refine z_iconst (pc := 64) gg dX11_settles_64 ?_
          refine z_iadd (pc := 65) gg dX11_settles_65 ?_
          refine z_iald (pc := 66) 1 ((300 + (3 * i.toNat)) + 1) gg dX11_settles_66 rfl (by omega) (by omega) (by decide) ?_
          refine z_iload_n (pc := 67) 4 gg dX11_settles_67 rfl rfl ?_
          refine z_icmp_gt (pc := 68) 95 gg dX11_settles_68 (by decide) ⟨by omega, by omega⟩ ⟨by omega, by omega⟩ (fun h68 => ?_) (fun h68 => ?_)
          · refine z_iinc (pc := 95) 0 [(4, .int (zI (i + 1))), (3, .int (zI (25 * x + y))), (0, .ref h), (1, .int (zI x)), (2, .int (zI y))] gg dX11_settles_95 rfl (Nat.le_of_ble_eq_true rfl) rfl ?_
            refine z_goto (pc := 98) 24 gg dX11_settles_98 (by decide) ?_
            exact ih24 (i + 1) b c (by omega) (by rw [show (i + 1).toNat = i.toNat + 1 by omega, (w0_no (by rw [← hb]; omega)).1]; exact hb) (by rw [show (i + 1).toNat = i.toNat + 1 by omega, (w0_no (by rw [← hb]; omega)).2]; exact hc) (by omega)
          · refine z_aload_n (pc := 71) 2 gg dX11_settles_71 rfl rfl ?_
            refine z_iload_n (pc := 72) 1 gg dX11_settles_72 rfl rfl ?_
            refine z_aload_n (pc := 73) 2 gg dX11_settles_73 rfl rfl ?_
            refine z_get (pc := 74) 0 gg fl_X11_7 dX11_settles_74 rfl rfl ?_
            refine z_sipush (pc := 77) gg dX11_settles_77 (by decide +kernel) ?_
            refine z_iconst (pc := 80) gg dX11_settles_80 ?_
            refine z_iload (pc := 81) 0 gg dX11_settles_81 rfl ?_
            refine z_imul (pc := 83) gg dX11_settles_83 ?_
            refine z_iadd (pc := 84) gg dX11_settles_84 ?_
            refine z_iconst (pc := 85) gg dX11_settles_85 ?_
            refine z_iadd (pc := 86) gg dX11_settles_86 ?_
            refine z_iald (pc := 87) 1 ((300 + (3 * i.toNat)) + 2) gg dX11_settles_87 rfl (by omega) (by omega) (by decide) ?_
            refine z_iconst (pc := 88) gg dX11_settles_88 ?_
            refine z_iload (pc := 89) 0 gg dX11_settles_89 rfl ?_
            refine z_isub (pc := 91) gg dX11_settles_91 ?_
            by_cases ht1 : b < A ((300 + (3 * i.toNat)) + 2)
            · refine z_callWv (pc := 92) (As := [.int (zI (25 * x + y)), .int (zI (A ((300 + (3 * i.toNat)) + 2))), .int (zI ((-1) - i))]) (st := []) gg (c_m_tries_yes M h a0 a1 a2 a3 a4 a5 a6 a7 a8 A hs ht bf cu fr (zU wo (25 * x + y).toNat b) (zU wy (25 * x + y).toNat c) my (25 * x + y) (A ((300 + (3 * i.toNat)) + 2)) ((-1) - i) (by omega) ⟨by omega, by omega⟩ (by rw [zU_s]; exact ⟨by omega, by omega⟩) (by rw [zU_s]; omega)) yv_11_tries ml_X11_95 dX11_settles_92 (by decide) (Nat.le_of_ble_eq_true rfl) (Nat.le_of_ble_eq_true rfl) (Nat.le_of_ble_eq_true rfl) rfl rfl rfl (fun u92 hz92 => ?_)
              rw [zU_zU, zU_zU]
              refine z_iinc (pc := 95) 0 [(4, .int (zI (i + 1))), (3, .int (zI (25 * x + y))), (0, .ref h), (1, .int (zI x)), (2, .int (zI y))] gg dX11_settles_95 rfl (Nat.le_of_ble_eq_true rfl) rfl ?_
              refine z_goto (pc := 98) 24 gg dX11_settles_98 (by decide) ?_
              exact ih24 (i + 1) (A ((300 + (3 * i.toNat)) + 2)) ((-1) - i) (by omega) (by rw [show (i + 1).toNat = i.toNat + 1 by omega]; rw [(w0_yes (n := i.toNat) (sw := lF 300 3 6 A) (sh := lF 301 3 6 A) (sv := lF 302 3 6 A) (w := x.toNat) (h := y.toNat) ⟨by omega, by omega, by rw [← hb]; omega⟩).1]; exact e2.symm) (by rw [show (i + 1).toNat = i.toNat + 1 by omega, (w0_yes ⟨by omega, by omega, by rw [← hb]; omega⟩).2]; omega) (by omega)
            · refine z_callWv (pc := 92) (As := [.int (zI (25 * x + y)), .int (zI (A ((300 + (3 * i.toNat)) + 2))), .int (zI ((-1) - i))]) (st := []) gg (c_m_tries_no M h a0 a1 a2 a3 a4 a5 a6 a7 a8 A hs ht bf cu fr (zU wo (25 * x + y).toNat b) (zU wy (25 * x + y).toNat c) my (25 * x + y) (A ((300 + (3 * i.toNat)) + 2)) ((-1) - i) (by omega) ⟨by omega, by omega⟩ (by rw [zU_s]; exact ⟨by omega, by omega⟩) (by rw [zU_s]; omega)) yv_11_tries ml_X11_95 dX11_settles_92 (by decide) (Nat.le_of_ble_eq_true rfl) (Nat.le_of_ble_eq_true rfl) (Nat.le_of_ble_eq_true rfl) rfl rfl rfl (fun u92 hz92 => ?_)
              refine z_iinc (pc := 95) 0 [(4, .int (zI (i + 1))), (3, .int (zI (25 * x + y))), (0, .ref h), (1, .int (zI x)), (2, .int (zI y))] gg dX11_settles_95 rfl (Nat.le_of_ble_eq_true rfl) rfl ?_
              refine z_goto (pc := 98) 24 gg dX11_settles_98 (by decide) ?_
              exact ih24 (i + 1) b c (by omega) (by rw [show (i + 1).toNat = i.toNat + 1 by omega, (w0_no (by rw [← hb]; omega)).1]; exact hb) (by rw [show (i + 1).toNat = i.toNat + 1 by omega, (w0_no (by rw [← hb]; omega)).2]; exact hc) (by omega)
  exact loop24 _ 0 0 (-100) (by omega) rfl rfl (Nat.lt_succ_self _)
set_option maxHeartbeats 4000000 in
set_option maxRecDepth 100000 in
theorem c_m_reckons (M : KM) (h a0 a1 a2 a3 a4 a5 a6 a7 a8 : Nat) (A hs ht bf cu fr wo wy my : Nat → Int) (wf : Nat → Int) (mm : Nat → Nat → Int) (x y : Int) (h4 : 0 ≤ A 4 ∧ A 4 ≤ 6) (h8 : 0 ≤ A 8 ∧ A 8 ≤ 3) (hSh : ∀ j, j < 6 → (0 ≤ A (300 + (3 * j)) ∧ A (300 + (3 * j)) ≤ 24) ∧ (0 ≤ A ((300 + (3 * j)) + 1) ∧ A ((300 + (3 * j)) + 1) ≤ 24) ∧ (0 ≤ A ((300 + (3 * j)) + 2) ∧ A ((300 + (3 * j)) + 2) ≤ 999)) (hx : 1 ≤ x ∧ x ≤ 24) (hy : 1 ≤ y ∧ y ≤ 24) (hto : tOK (A 4).toNat (lF 300 3 6 A) (lF 301 3 6 A) (lF 302 3 6 A) (A 8).toNat wf mm 25 1) : kCV M yX11_reckons cX11_reckons 5 2 0 0 [cO 11 h [.ref a0, .ref a1, .ref a2, .ref a3, .ref a4, .ref a5, .ref a6, .ref a7, .ref a8], cI M a0 1280 A, cZ M a1 3 hs, cI M a2 9 ht, cI M a3 9 bf, cI M a4 9 cu, cI M a5 32 fr, cI M a6 625 wo, cI M a7 625 wy, cI M a8 625 my] [.ref h, .int (zI x), .int (zI y)] (fun u : (Nat → Int) × (Nat → Int) => ∀ a b, 1 ≤ a → a ≤ x.toNat → 1 ≤ b → b ≤ y.toNat → u.1 (a * 25 + b) = wf (a * 25 + b) ∧ u.2 (a * 25 + b) = (fin (A 4).toNat (lF 300 3 6 A) (lF 301 3 6 A) (lF 302 3 6 A) wf (A 8).toNat a b).2) (fun u => [cO 11 h [.ref a0, .ref a1, .ref a2, .ref a3, .ref a4, .ref a5, .ref a6, .ref a7, .ref a8], cI M a0 1280 A, cZ M a1 3 hs, cI M a2 9 ht, cI M a3 9 bf, cI M a4 9 cu, cI M a5 32 fr, cI M a6 625 u.1, cI M a7 625 u.2, cI M a8 625 my]) := by
  refine kCV.of [(0, .ref h), (1, .int (zI x)), (2, .int (zI y))] (by decide) (Nat.le_of_ble_eq_true rfl) rfl (fun E gg gn hret => ?_)
  have h600 := tOK_600 (w := 24) (h := 24) (fun a b p q r s t => hto a b p q r s (by omega)) (by omega) (by omega)
  refine z_iconst (pc := 0) gg dX11_reckons_0 ?_
  refine z_istore_n (pc := 1) [(3, .int (zI 1)), (0, .ref h), (1, .int (zI x)), (2, .int (zI y))] gg dX11_reckons_1 rfl (Nat.le_of_ble_eq_true rfl) rfl ?_
  have loop2 : ∀ (k2 : Nat) (s : Int) (f1 f2 : Nat → Int), (1 ≤ s ∧ s ≤ x + 1) → (∀ a b, 1 ≤ a → a ≤ x.toNat → 1 ≤ b → b ≤ y.toNat → (a < s.toNat ∨ (a = s.toNat ∧ b < 1)) → f1 (a * 25 + b) = wf (a * 25 + b) ∧ f2 (a * 25 + b) = (fin (A 4).toNat (lF 300 3 6 A) (lF 301 3 6 A) (lF 302 3 6 A) wf (A 8).toNat a b).2) → 25 - s.toNat < k2 → kV M E 5 0 0 [cO 11 h [.ref a0, .ref a1, .ref a2, .ref a3, .ref a4, .ref a5, .ref a6, .ref a7, .ref a8], cI M a0 1280 A, cZ M a1 3 hs, cI M a2 9 ht, cI M a3 9 bf, cI M a4 9 cu, cI M a5 32 fr, cI M a6 625 f1, cI M a7 625 f2, cI M a8 625 my] [(3, .int (zI s)), (0, .ref h), (1, .int (zI x)), (2, .int (zI y))] 2 [] := by
    intro k2
    induction k2 with
    | zero => intro s f1 f2 hs0 hd hm2; exact absurd hm2 (Nat.not_lt_zero _)
    | succ k2 ih2 =>
      intro s f1 f2 hs0 hd hm2
      refine z_iload_n (pc := 2) 0 gg dX11_reckons_2 rfl rfl ?_
      refine z_iload_n (pc := 3) 2 gg dX11_reckons_3 rfl rfl ?_
      refine z_icmp_gt (pc := 4) 35 gg dX11_reckons_4 (by decide) ⟨by omega, by omega⟩ ⟨by omega, by omega⟩ (fun h4 => ?_) (fun h4 => ?_)
      · exact hret (f1, f2) 35 _ _ _ (Nat.le_of_ble_eq_true rfl) (Nat.le_of_ble_eq_true rfl) dX11_reckons_35 (fun a b p q r s9 => hd a b p q r s9 (by omega))
      · refine z_iconst (pc := 7) gg dX11_reckons_7 ?_
        refine z_istore (pc := 8) [(4, .int (zI 1)), (3, .int (zI s)), (0, .ref h), (1, .int (zI x)), (2, .int (zI y))] gg dX11_reckons_8 (Nat.le_of_ble_eq_true rfl) rfl ?_
        have loop10 : ∀ (k10 : Nat) (t : Int) (f1 f2 : Nat → Int), (1 ≤ t ∧ t ≤ y + 1) → (∀ a b, 1 ≤ a → a ≤ x.toNat → 1 ≤ b → b ≤ y.toNat → (a < s.toNat ∨ (a = s.toNat ∧ b < t.toNat)) → f1 (a * 25 + b) = wf (a * 25 + b) ∧ f2 (a * 25 + b) = (fin (A 4).toNat (lF 300 3 6 A) (lF 301 3 6 A) (lF 302 3 6 A) wf (A 8).toNat a b).2) → 25 - t.toNat < k10 → kV M E 5 0 0 [cO 11 h [.ref a0, .ref a1, .ref a2, .ref a3, .ref a4, .ref a5, .ref a6, .ref a7, .ref a8], cI M a0 1280 A, cZ M a1 3 hs, cI M a2 9 ht, cI M a3 9 bf, cI M a4 9 cu, cI M a5 32 fr, cI M a6 625 f1, cI M a7 625 f2, cI M a8 625 my] [(4, .int (zI t)), (3, .int (zI s)), (0, .ref h), (1, .int (zI x)), (2, .int (zI y))] 10 [] := by
          intro k10
          induction k10 with
          | zero => intro t f1 f2 ht0 hd hm10; exact absurd hm10 (Nat.not_lt_zero _)
          | succ k10 ih10 =>
            intro t f1 f2 ht0 hd hm10
            refine z_iload (pc := 10) 0 gg dX11_reckons_10 rfl ?_
            refine z_iload_n (pc := 12) 4 gg dX11_reckons_12 rfl rfl ?_
            refine z_icmp_gt (pc := 13) 29 gg dX11_reckons_13 (by decide) ⟨by omega, by omega⟩ ⟨by omega, by omega⟩ (fun h13 => ?_) (fun h13 => ?_)
            · refine z_iinc (pc := 29) 1 [(3, .int (zI (s + 1))), (4, .int (zI t)), (0, .ref h), (1, .int (zI x)), (2, .int (zI y))] gg dX11_reckons_29 rfl (Nat.le_of_ble_eq_true rfl) rfl ?_
              refine z_goto (pc := 32) 2 gg dX11_reckons_32 (by decide) ?_
              refine z_lv [(3, .int (zI (s + 1))), (0, .ref h), (1, .int (zI x)), (2, .int (zI y))] [0, 2, 3, 4] rfl ?_
              exact ih2 (s + 1) f1 f2 (by omega) (fun a b p q r s t => hd a b p q r s (by omega)) (by omega)
            · refine z_aload_n (pc := 16) 2 gg dX11_reckons_16 rfl rfl ?_
              refine z_iload_n (pc := 17) 1 gg dX11_reckons_17 rfl rfl ?_
              refine z_iload (pc := 18) 0 gg dX11_reckons_18 rfl ?_
              refine z_callWv (pc := 20) (As := [.int (zI s), .int (zI t)]) (st := []) gg (c_m_settles M h a0 a1 a2 a3 a4 a5 a6 a7 a8 A hs ht bf cu fr f1 f2 my wf s t (by first | assumption | omega | exact ⟨by omega, by omega⟩) (by first | assumption | omega | exact ⟨by omega, by omega⟩) hSh (by first | assumption | omega | exact ⟨by omega, by omega⟩) (by first | assumption | omega | exact ⟨by omega, by omega⟩) (fun a b p q r s t => (hd a b p (by omega) r (by omega) (by omega)).1) (fun a b p q r s t => (hto a b p (by omega) r (by omega) (by omega)).2.2 |> fun z => ⟨z.1, by have h2 : a * b ≤ 24 * 24 := Nat.mul_le_mul (by omega) (by omega); omega⟩)) yv_11_settles ml_X11_99 dX11_reckons_20 (by decide) (Nat.le_of_ble_eq_true rfl) (Nat.le_of_ble_eq_true rfl) (Nat.le_of_ble_eq_true rfl) rfl rfl rfl (fun u20 hz20 => ?_)
              refine z_iinc (pc := 23) 0 [(4, .int (zI (t + 1))), (3, .int (zI s)), (0, .ref h), (1, .int (zI x)), (2, .int (zI y))] gg dX11_reckons_23 rfl (Nat.le_of_ble_eq_true rfl) rfl ?_
              refine z_goto (pc := 26) 10 gg dX11_reckons_26 (by decide) ?_
              exact ih10 (t + 1) (zU f1 (25 * s + t).toNat (fin (A 4).toNat (lF 300 3 6 A) (lF 301 3 6 A) (lF 302 3 6 A) wf (A 8).toNat s.toNat t.toNat).1) (zU f2 (25 * s + t).toNat (fin (A 4).toNat (lF 300 3 6 A) (lF 301 3 6 A) (lF 302 3 6 A) wf (A 8).toNat s.toNat t.toNat).2) (by omega) (fun a b p q r s9 t9 => by
          rw [show (25 * s + t).toNat = s.toNat * 25 + t.toNat by omega]
          by_cases e : a = s.toNat ∧ b = t.toNat
          · obtain ⟨e1, e2⟩ := e
            subst e1; subst e2
            rw [zU_s, zU_s]
            exact ⟨(hto s.toNat t.toNat p (by omega) r (by omega) (by omega)).1.symm, rfl⟩
          · rw [zU_n _ _ (by omega), zU_n _ _ (by omega)]
            exact hd a b p q r s9 (by omega)) (by omega)
        exact loop10 _ 1 f1 f2 (by omega) hd (Nat.lt_succ_self _)
  exact loop2 _ 1 wo wy (by omega) (fun a b p q r s t => absurd t (by have : (1 : Int).toNat = 1 := rfl; omega)) (Nat.lt_succ_self _)
set_option maxHeartbeats 4000000 in
set_option maxRecDepth 100000 in
theorem c_m_best (M : KM) (h a0 a1 a2 a3 a4 a5 a6 a7 a8 : Nat) (A hs ht bf cu fr wo wy my : Nat → Int) (wf : Nat → Int) (mm : Nat → Nat → Int) (x y : Int) (h4 : 0 ≤ A 4 ∧ A 4 ≤ 6) (h8 : 0 ≤ A 8 ∧ A 8 ≤ 3) (hSh : ∀ j, j < 6 → (0 ≤ A (300 + (3 * j)) ∧ A (300 + (3 * j)) ≤ 24) ∧ (0 ≤ A ((300 + (3 * j)) + 1) ∧ A ((300 + (3 * j)) + 1) ≤ 24) ∧ (0 ≤ A ((300 + (3 * j)) + 2) ∧ A ((300 + (3 * j)) + 2) ≤ 999)) (hto : tOK (A 4).toNat (lF 300 3 6 A) (lF 301 3 6 A) (lF 302 3 6 A) (A 8).toNat wf mm 25 1) (hxr : zR x) (hyr : zR y) : kCI M yX11_best cX11_best 3 .int 3 0 0 [cO 11 h [.ref a0, .ref a1, .ref a2, .ref a3, .ref a4, .ref a5, .ref a6, .ref a7, .ref a8], cI M a0 1280 A, cZ M a1 3 hs, cI M a2 9 ht, cI M a3 9 bf, cI M a4 9 cu, cI M a5 32 fr, cI M a6 625 wo, cI M a7 625 wy, cI M a8 625 my] [.ref h, .int (zI x), .int (zI y)] (fun z (u : (Nat → Int) × (Nat → Int)) => (1 ≤ x ∧ x ≤ 24 ∧ 1 ≤ y ∧ y ≤ 24 ∧ z = wf (x.toNat * 25 + y.toNat)) ∨ ((x < 1 ∨ 24 < x ∨ y < 1 ∨ 24 < y) ∧ z = -1)) (fun u => [cO 11 h [.ref a0, .ref a1, .ref a2, .ref a3, .ref a4, .ref a5, .ref a6, .ref a7, .ref a8], cI M a0 1280 A, cZ M a1 3 hs, cI M a2 9 ht, cI M a3 9 bf, cI M a4 9 cu, cI M a5 32 fr, cI M a6 625 u.1, cI M a7 625 u.2, cI M a8 625 my]) := by
  refine kCI.of [(0, .ref h), (1, .int (zI x)), (2, .int (zI y))] (by decide) (Nat.le_of_ble_eq_true rfl) rfl (fun E gg hret => ?_)
  have r1_hxr := hxr.1
  have r2_hxr := hxr.2
  have r1_hyr := hyr.1
  have r2_hyr := hyr.2
  refine z_iload_n (pc := 0) 1 gg dX11_best_0 rfl rfl ?_
  refine z_iload_n (pc := 1) 2 gg dX11_best_1 rfl rfl ?_
  refine z_callS (pc := 2) (As := [.int (zI x), .int (zI y)]) (st := []) gg (c_mIsBoard M x y (by first | assumption | omega | exact ⟨by omega, by omega⟩) (by first | assumption | omega | exact ⟨by omega, by omega⟩)) ys_11_isBoard ml_X11_103 dX11_best_2 (by decide) (Nat.le_of_ble_eq_true rfl) (Nat.le_of_ble_eq_true rfl) (Nat.le_of_ble_eq_true rfl) rfl rfl (fun z2 u2 hz2 => ?_)
  refine z_if_ne (pc := 5) 10 gg dX11_best_5 (by decide) ⟨by omega, by omega⟩ (fun h5 => ?_) (fun h5 => ?_)
  · refine z_aload_n (pc := 10) 0 gg dX11_best_10 rfl rfl ?_
    refine z_iload_n (pc := 11) 1 gg dX11_best_11 rfl rfl ?_
    refine z_iload_n (pc := 12) 2 gg dX11_best_12 rfl rfl ?_
    refine z_callWv (pc := 13) (As := [.int (zI x), .int (zI y)]) (st := []) gg (c_m_reckons M h a0 a1 a2 a3 a4 a5 a6 a7 a8 A hs ht bf cu fr wo wy my wf mm x y (by first | assumption | omega | exact ⟨by omega, by omega⟩) (by first | assumption | omega | exact ⟨by omega, by omega⟩) hSh (by first | assumption | omega | exact ⟨by omega, by omega⟩) (by first | assumption | omega | exact ⟨by omega, by omega⟩) hto) yv_11_reckons ml_X11_106 dX11_best_13 (by decide) (Nat.le_of_ble_eq_true rfl) (Nat.le_of_ble_eq_true rfl) (Nat.le_of_ble_eq_true rfl) rfl rfl rfl (fun u13 hz13 => ?_)
    refine z_aload_n (pc := 16) 0 gg dX11_best_16 rfl rfl ?_
    refine z_get (pc := 17) 0 gg fl_X11_29 dX11_best_17 rfl rfl ?_
    refine z_iload_n (pc := 20) 1 gg dX11_best_20 rfl rfl ?_
    refine z_iload_n (pc := 21) 2 gg dX11_best_21 rfl rfl ?_
    refine z_callS (pc := 22) (As := [.int (zI x), .int (zI y)]) (st := [.ref a6]) gg (c_mBoard M x y ) ys_11_board ml_X11_92 dX11_best_22 (by decide) (Nat.le_of_ble_eq_true rfl) (Nat.le_of_ble_eq_true rfl) (Nat.le_of_ble_eq_true rfl) rfl rfl (fun z22 u22 hz22 => ?_)
    subst hz22
    refine z_iald (pc := 25) 7 ((25 * x + y).toNat) gg dX11_best_25 rfl (by omega) (by omega) (by decide) ?_
    exact hret (u13.1 ((25 * x + y).toNat)) u13 26 _ _ _ (Nat.le_of_ble_eq_true rfl) (Nat.le_of_ble_eq_true rfl) dX11_best_26 rfl (Or.inl ⟨by omega, by omega, by omega, by omega, by rw [show (25 * x + y).toNat = x.toNat * 25 + y.toNat by omega]; exact (hz13 x.toNat y.toNat (by omega) (by omega) (by omega) (by omega)).1⟩)
  · refine z_iconst (pc := 8) gg dX11_best_8 ?_
    exact hret (-1) (wo, wy) 9 _ _ _ (Nat.le_of_ble_eq_true rfl) (Nat.le_of_ble_eq_true rfl) dX11_best_9 rfl (by omega)
set_option maxHeartbeats 4000000 in
set_option maxRecDepth 100000 in
theorem c_m_comes (M : KM) (h a0 a1 a2 a3 a4 a5 a6 a7 a8 : Nat) (A hs ht bf cu fr wo wy my : Nat → Int) (x y s : Int) (h8 : 0 ≤ A 8 ∧ A 8 ≤ 3) (hx : 1 ≤ x ∧ x ≤ 24) (hy : 1 ≤ y ∧ y ≤ 24) (hs0 : -1 ≤ s ∧ s < 6) (hyv : (wy (25 * x + y).toNat) = -100 ∨ (-6 ≤ (wy (25 * x + y).toNat) ∧ (wy (25 * x + y).toNat) ≤ -1) ∨ (1 ≤ (wy (25 * x + y).toNat) ∧ (wy (25 * x + y).toNat) + A 8 < x) ∨ (101 ≤ (wy (25 * x + y).toNat) ∧ (wy (25 * x + y).toNat) - 100 + A 8 < y)) : kCI M yX11_comes cX11_comes 7 .int 1 0 0 [cO 11 h [.ref a0, .ref a1, .ref a2, .ref a3, .ref a4, .ref a5, .ref a6, .ref a7, .ref a8], cI M a0 1280 A, cZ M a1 3 hs, cI M a2 9 ht, cI M a3 9 bf, cI M a4 9 cu, cI M a5 32 fr, cI M a6 625 wo, cI M a7 625 wy, cI M a8 625 my] [.ref h, .int (zI x), .int (zI y), .int (zI s)] (fun z (u : Unit) => z = cm my (if s = -1 then 6 else s.toNat) (A 8).toNat x.toNat y.toNat (wy (25 * x + y).toNat)) (fun u => [cO 11 h [.ref a0, .ref a1, .ref a2, .ref a3, .ref a4, .ref a5, .ref a6, .ref a7, .ref a8], cI M a0 1280 A, cZ M a1 3 hs, cI M a2 9 ht, cI M a3 9 bf, cI M a4 9 cu, cI M a5 32 fr, cI M a6 625 wo, cI M a7 625 wy, cI M a8 625 my]) := by
  refine kCI.of [(0, .ref h), (1, .int (zI x)), (2, .int (zI y)), (3, .int (zI s))] (by decide) (Nat.le_of_ble_eq_true rfl) rfl (fun E gg hret => ?_)
  refine z_aload_n (pc := 0) 0 gg dX11_comes_0 rfl rfl ?_
  refine z_get (pc := 1) 0 gg fl_X11_32 dX11_comes_1 rfl rfl ?_
  refine z_iload_n (pc := 4) 1 gg dX11_comes_4 rfl rfl ?_
  refine z_iload_n (pc := 5) 2 gg dX11_comes_5 rfl rfl ?_
  refine z_callS (pc := 6) (As := [.int (zI x), .int (zI y)]) (st := [.ref a7]) gg (c_mBoard M x y ) ys_11_board ml_X11_92 dX11_comes_6 (by decide) (Nat.le_of_ble_eq_true rfl) (Nat.le_of_ble_eq_true rfl) (Nat.le_of_ble_eq_true rfl) rfl rfl (fun z6 u6 hz6 => ?_)
  subst hz6
  refine z_iald (pc := 9) 8 ((25 * x + y).toNat) gg dX11_comes_9 rfl (by omega) (by omega) (by decide) ?_
  refine z_top (fun yv h_yv => ?_)
  rw [← h_yv] at hyv
  rw [← h_yv] at hret
  refine z_istore (pc := 10) [(4, .int (zI yv)), (0, .ref h), (1, .int (zI x)), (2, .int (zI y)), (3, .int (zI s))] gg dX11_comes_10 (Nat.le_of_ble_eq_true rfl) rfl ?_
  refine z_iload (pc := 12) 0 gg dX11_comes_12 rfl ?_
  refine z_bipush (pc := 14) gg dX11_comes_14 (by decide +kernel) ?_
  refine z_icmp_ne (pc := 16) 21 gg dX11_comes_16 (by decide) ⟨by omega, by omega⟩ ⟨by omega, by omega⟩ (fun h16 => ?_) (fun h16 => ?_)
  · refine z_iload (pc := 21) 0 gg dX11_comes_21 rfl ?_
    refine z_if_ge (pc := 23) 40 gg dX11_comes_23 (by decide) ⟨by omega, by omega⟩ (fun h23 => ?_) (fun h23 => ?_)
    · refine z_iload_n (pc := 40) 4 gg dX11_comes_40 rfl rfl ?_
      refine z_if_ge (pc := 41) 48 gg dX11_comes_41 (by decide) ⟨by omega, by omega⟩ (fun h41 => ?_) (fun h41 => ?_)
      · refine z_iconst (pc := 48) gg dX11_comes_48 ?_
        refine z_istore (pc := 49) [(5, .int (zI 0)), (4, .int (zI yv)), (0, .ref h), (1, .int (zI x)), (2, .int (zI y)), (3, .int (zI s))] gg dX11_comes_49 (Nat.le_of_ble_eq_true rfl) rfl ?_
        refine z_aload_n (pc := 51) 2 gg dX11_comes_51 rfl rfl ?_
        refine z_get (pc := 52) 0 gg fl_X11_7 dX11_comes_52 rfl rfl ?_
        refine z_bipush (pc := 55) gg dX11_comes_55 (by decide +kernel) ?_
        refine z_iald (pc := 57) 1 8 gg dX11_comes_57 rfl (by omega) (by omega) (by decide) ?_
        refine z_istore (pc := 58) [(6, .int (zI (A 8))), (5, .int (zI 0)), (4, .int (zI yv)), (0, .ref h), (1, .int (zI x)), (2, .int (zI y)), (3, .int (zI s))] gg dX11_comes_58 (Nat.le_of_ble_eq_true rfl) rfl ?_
        refine z_iload (pc := 60) 2 gg dX11_comes_60 rfl ?_
        refine z_bipush (pc := 62) gg dX11_comes_62 (by decide +kernel) ?_
        refine z_icmp_ge (pc := 64) 101 gg dX11_comes_64 (by decide) ⟨by omega, by omega⟩ ⟨by omega, by omega⟩ (fun h64 => ?_) (fun h64 => ?_)
        · refine z_iload (pc := 101) 1 gg dX11_comes_101 rfl ?_
          refine z_aload_n (pc := 103) 3 gg dX11_comes_103 rfl rfl ?_
          refine z_get (pc := 104) 0 gg fl_X11_35 dX11_comes_104 rfl rfl ?_
          refine z_iload_n (pc := 107) 4 gg dX11_comes_107 rfl rfl ?_
          refine z_iload (pc := 108) 2 gg dX11_comes_108 rfl ?_
          refine z_bipush (pc := 110) gg dX11_comes_110 (by decide +kernel) ?_
          refine z_isub (pc := 112) gg dX11_comes_112 ?_
          refine z_callS (pc := 113) (As := [.int (zI x), .int (zI (yv - 100))]) (st := [.ref a8, .int (zI 0)]) gg (c_mBoard M x (yv - 100) ) ys_11_board ml_X11_92 dX11_comes_113 (by decide) (Nat.le_of_ble_eq_true rfl) (Nat.le_of_ble_eq_true rfl) (Nat.le_of_ble_eq_true rfl) rfl rfl (fun z113 u113 hz113 => ?_)
          subst hz113
          refine z_iald (pc := 116) 9 ((25 * x + (yv - 100)).toNat) gg dX11_comes_116 rfl (by omega) (by omega) (by decide) ?_
          refine z_iadd (pc := 117) gg dX11_comes_117 ?_
          refine z_aload_n (pc := 118) 3 gg dX11_comes_118 rfl rfl ?_
          refine z_get (pc := 119) 0 gg fl_X11_35 dX11_comes_119 rfl rfl ?_
          refine z_iload_n (pc := 122) 4 gg dX11_comes_122 rfl rfl ?_
          refine z_iload_n (pc := 123) 5 gg dX11_comes_123 rfl rfl ?_
          refine z_iload (pc := 124) 2 gg dX11_comes_124 rfl ?_
          refine z_isub (pc := 126) gg dX11_comes_126 ?_
          refine z_bipush (pc := 127) gg dX11_comes_127 (by decide +kernel) ?_
          refine z_iadd (pc := 129) gg dX11_comes_129 ?_
          refine z_iload (pc := 130) 0 gg dX11_comes_130 rfl ?_
          refine z_isub (pc := 132) gg dX11_comes_132 ?_
          refine z_callS (pc := 133) (As := [.int (zI x), .int (zI (((y - yv) + 100) - (A 8)))]) (st := [.ref a8, .int (zI (0 + (my ((25 * x + (yv - 100)).toNat))))]) gg (c_mBoard M x (((y - yv) + 100) - (A 8)) ) ys_11_board ml_X11_92 dX11_comes_133 (by decide) (Nat.le_of_ble_eq_true rfl) (Nat.le_of_ble_eq_true rfl) (Nat.le_of_ble_eq_true rfl) rfl rfl (fun z133 u133 hz133 => ?_)
          subst hz133
          refine z_iald (pc := 136) 9 ((25 * x + (((y - yv) + 100) - (A 8))).toNat) gg dX11_comes_136 rfl (by omega) (by omega) (by decide) ?_
          refine z_iadd (pc := 137) gg dX11_comes_137 ?_
          exact hret ((0 + (my ((25 * x + (yv - 100)).toNat))) + (my ((25 * x + (((y - yv) + 100) - (A 8))).toNat))) () 138 _ _ _ (Nat.le_of_ble_eq_true rfl) (Nat.le_of_ble_eq_true rfl) dX11_comes_138 rfl (by
      unfold cm
      rw [if_neg (show ¬ yv < 0 by omega), if_neg (show ¬ yv < 100 by omega), if_neg (show ¬ (if s = -1 then 6 else s.toNat) = 6 by rw [if_neg (by omega)]; omega), show (25 * x + (yv - 100)).toNat = x.toNat * 25 + (yv.toNat - 100) by omega, show (25 * x + (((y - yv) + 100) - (A 8))).toNat = x.toNat * 25 + (y.toNat - (A 8).toNat - (yv.toNat - 100)) by omega]
      omega)
        · refine z_iload (pc := 67) 1 gg dX11_comes_67 rfl ?_
          refine z_aload_n (pc := 69) 3 gg dX11_comes_69 rfl rfl ?_
          refine z_get (pc := 70) 0 gg fl_X11_35 dX11_comes_70 rfl rfl ?_
          refine z_iload (pc := 73) 2 gg dX11_comes_73 rfl ?_
          refine z_iload_n (pc := 75) 5 gg dX11_comes_75 rfl rfl ?_
          refine z_callS (pc := 76) (As := [.int (zI yv), .int (zI y)]) (st := [.ref a8, .int (zI 0)]) gg (c_mBoard M yv y ) ys_11_board ml_X11_92 dX11_comes_76 (by decide) (Nat.le_of_ble_eq_true rfl) (Nat.le_of_ble_eq_true rfl) (Nat.le_of_ble_eq_true rfl) rfl rfl (fun z76 u76 hz76 => ?_)
          subst hz76
          refine z_iald (pc := 79) 9 ((25 * yv + y).toNat) gg dX11_comes_79 rfl (by omega) (by omega) (by decide) ?_
          refine z_iadd (pc := 80) gg dX11_comes_80 ?_
          refine z_aload_n (pc := 81) 3 gg dX11_comes_81 rfl rfl ?_
          refine z_get (pc := 82) 0 gg fl_X11_35 dX11_comes_82 rfl rfl ?_
          refine z_iload_n (pc := 85) 4 gg dX11_comes_85 rfl rfl ?_
          refine z_iload (pc := 86) 2 gg dX11_comes_86 rfl ?_
          refine z_isub (pc := 88) gg dX11_comes_88 ?_
          refine z_iload (pc := 89) 0 gg dX11_comes_89 rfl ?_
          refine z_isub (pc := 91) gg dX11_comes_91 ?_
          refine z_iload_n (pc := 92) 5 gg dX11_comes_92 rfl rfl ?_
          refine z_callS (pc := 93) (As := [.int (zI ((x - yv) - (A 8))), .int (zI y)]) (st := [.ref a8, .int (zI (0 + (my ((25 * yv + y).toNat))))]) gg (c_mBoard M ((x - yv) - (A 8)) y ) ys_11_board ml_X11_92 dX11_comes_93 (by decide) (Nat.le_of_ble_eq_true rfl) (Nat.le_of_ble_eq_true rfl) (Nat.le_of_ble_eq_true rfl) rfl rfl (fun z93 u93 hz93 => ?_)
          subst hz93
          refine z_iald (pc := 96) 9 ((25 * ((x - yv) - (A 8)) + y).toNat) gg dX11_comes_96 rfl (by omega) (by omega) (by decide) ?_
          refine z_iadd (pc := 97) gg dX11_comes_97 ?_
          refine z_goto (pc := 98) 138 gg dX11_comes_98 (by decide) ?_
          exact hret ((0 + (my ((25 * yv + y).toNat))) + (my ((25 * ((x - yv) - (A 8)) + y).toNat))) () 138 _ _ _ (Nat.le_of_ble_eq_true rfl) (Nat.le_of_ble_eq_true rfl) dX11_comes_138 rfl (by
      unfold cm
      rw [if_neg (show ¬ yv < 0 by omega), if_pos (show yv < 100 by omega), if_neg (show ¬ (if s = -1 then 6 else s.toNat) = 6 by rw [if_neg (by omega)]; omega), show (25 * yv + y).toNat = yv.toNat * 25 + y.toNat by omega, show (25 * ((x - yv) - (A 8)) + y).toNat = (x.toNat - (A 8).toNat - yv.toNat) * 25 + y.toNat by omega]
      omega)
      · refine z_iconst (pc := 44) gg dX11_comes_44 ?_
        refine z_goto (pc := 45) 49 gg dX11_comes_45 (by decide) ?_
        refine z_istore (pc := 49) [(5, .int (zI 1)), (4, .int (zI yv)), (0, .ref h), (1, .int (zI x)), (2, .int (zI y)), (3, .int (zI s))] gg dX11_comes_49 (Nat.le_of_ble_eq_true rfl) rfl ?_
        refine z_aload_n (pc := 51) 2 gg dX11_comes_51 rfl rfl ?_
        refine z_get (pc := 52) 0 gg fl_X11_7 dX11_comes_52 rfl rfl ?_
        refine z_bipush (pc := 55) gg dX11_comes_55 (by decide +kernel) ?_
        refine z_iald (pc := 57) 1 8 gg dX11_comes_57 rfl (by omega) (by omega) (by decide) ?_
        refine z_istore (pc := 58) [(6, .int (zI (A 8))), (5, .int (zI 1)), (4, .int (zI yv)), (0, .ref h), (1, .int (zI x)), (2, .int (zI y)), (3, .int (zI s))] gg dX11_comes_58 (Nat.le_of_ble_eq_true rfl) rfl ?_
        refine z_iload (pc := 60) 2 gg dX11_comes_60 rfl ?_
        refine z_bipush (pc := 62) gg dX11_comes_62 (by decide +kernel) ?_
        refine z_icmp_ge (pc := 64) 101 gg dX11_comes_64 (by decide) ⟨by omega, by omega⟩ ⟨by omega, by omega⟩ (fun h64 => ?_) (fun h64 => ?_)
        · refine z_iload (pc := 101) 1 gg dX11_comes_101 rfl ?_
          refine z_aload_n (pc := 103) 3 gg dX11_comes_103 rfl rfl ?_
          refine z_get (pc := 104) 0 gg fl_X11_35 dX11_comes_104 rfl rfl ?_
          refine z_iload_n (pc := 107) 4 gg dX11_comes_107 rfl rfl ?_
          refine z_iload (pc := 108) 2 gg dX11_comes_108 rfl ?_
          refine z_bipush (pc := 110) gg dX11_comes_110 (by decide +kernel) ?_
          refine z_isub (pc := 112) gg dX11_comes_112 ?_
          refine z_callS (pc := 113) (As := [.int (zI x), .int (zI (yv - 100))]) (st := [.ref a8, .int (zI 1)]) gg (c_mBoard M x (yv - 100) ) ys_11_board ml_X11_92 dX11_comes_113 (by decide) (Nat.le_of_ble_eq_true rfl) (Nat.le_of_ble_eq_true rfl) (Nat.le_of_ble_eq_true rfl) rfl rfl (fun z113 u113 hz113 => ?_)
          subst hz113
          refine z_iald (pc := 116) 9 ((25 * x + (yv - 100)).toNat) gg dX11_comes_116 rfl (by omega) (by omega) (by decide) ?_
          refine z_iadd (pc := 117) gg dX11_comes_117 ?_
          refine z_aload_n (pc := 118) 3 gg dX11_comes_118 rfl rfl ?_
          refine z_get (pc := 119) 0 gg fl_X11_35 dX11_comes_119 rfl rfl ?_
          refine z_iload_n (pc := 122) 4 gg dX11_comes_122 rfl rfl ?_
          refine z_iload_n (pc := 123) 5 gg dX11_comes_123 rfl rfl ?_
          refine z_iload (pc := 124) 2 gg dX11_comes_124 rfl ?_
          refine z_isub (pc := 126) gg dX11_comes_126 ?_
          refine z_bipush (pc := 127) gg dX11_comes_127 (by decide +kernel) ?_
          refine z_iadd (pc := 129) gg dX11_comes_129 ?_
          refine z_iload (pc := 130) 0 gg dX11_comes_130 rfl ?_
          refine z_isub (pc := 132) gg dX11_comes_132 ?_
          refine z_callS (pc := 133) (As := [.int (zI x), .int (zI (((y - yv) + 100) - (A 8)))]) (st := [.ref a8, .int (zI (1 + (my ((25 * x + (yv - 100)).toNat))))]) gg (c_mBoard M x (((y - yv) + 100) - (A 8)) ) ys_11_board ml_X11_92 dX11_comes_133 (by decide) (Nat.le_of_ble_eq_true rfl) (Nat.le_of_ble_eq_true rfl) (Nat.le_of_ble_eq_true rfl) rfl rfl (fun z133 u133 hz133 => ?_)
          subst hz133
          refine z_iald (pc := 136) 9 ((25 * x + (((y - yv) + 100) - (A 8))).toNat) gg dX11_comes_136 rfl (by omega) (by omega) (by decide) ?_
          refine z_iadd (pc := 137) gg dX11_comes_137 ?_
          exact hret ((1 + (my ((25 * x + (yv - 100)).toNat))) + (my ((25 * x + (((y - yv) + 100) - (A 8))).toNat))) () 138 _ _ _ (Nat.le_of_ble_eq_true rfl) (Nat.le_of_ble_eq_true rfl) dX11_comes_138 rfl (by
      unfold cm
      rw [if_neg (show ¬ yv < 0 by omega), if_neg (show ¬ yv < 100 by omega), if_pos (show (if s = -1 then 6 else s.toNat) = 6 by rw [if_pos (by omega)]), show (25 * x + (yv - 100)).toNat = x.toNat * 25 + (yv.toNat - 100) by omega, show (25 * x + (((y - yv) + 100) - (A 8))).toNat = x.toNat * 25 + (y.toNat - (A 8).toNat - (yv.toNat - 100)) by omega]
      omega)
        · refine z_iload (pc := 67) 1 gg dX11_comes_67 rfl ?_
          refine z_aload_n (pc := 69) 3 gg dX11_comes_69 rfl rfl ?_
          refine z_get (pc := 70) 0 gg fl_X11_35 dX11_comes_70 rfl rfl ?_
          refine z_iload (pc := 73) 2 gg dX11_comes_73 rfl ?_
          refine z_iload_n (pc := 75) 5 gg dX11_comes_75 rfl rfl ?_
          refine z_callS (pc := 76) (As := [.int (zI yv), .int (zI y)]) (st := [.ref a8, .int (zI 1)]) gg (c_mBoard M yv y ) ys_11_board ml_X11_92 dX11_comes_76 (by decide) (Nat.le_of_ble_eq_true rfl) (Nat.le_of_ble_eq_true rfl) (Nat.le_of_ble_eq_true rfl) rfl rfl (fun z76 u76 hz76 => ?_)
          subst hz76
          refine z_iald (pc := 79) 9 ((25 * yv + y).toNat) gg dX11_comes_79 rfl (by omega) (by omega) (by decide) ?_
          refine z_iadd (pc := 80) gg dX11_comes_80 ?_
          refine z_aload_n (pc := 81) 3 gg dX11_comes_81 rfl rfl ?_
          refine z_get (pc := 82) 0 gg fl_X11_35 dX11_comes_82 rfl rfl ?_
          refine z_iload_n (pc := 85) 4 gg dX11_comes_85 rfl rfl ?_
          refine z_iload (pc := 86) 2 gg dX11_comes_86 rfl ?_
          refine z_isub (pc := 88) gg dX11_comes_88 ?_
          refine z_iload (pc := 89) 0 gg dX11_comes_89 rfl ?_
          refine z_isub (pc := 91) gg dX11_comes_91 ?_
          refine z_iload_n (pc := 92) 5 gg dX11_comes_92 rfl rfl ?_
          refine z_callS (pc := 93) (As := [.int (zI ((x - yv) - (A 8))), .int (zI y)]) (st := [.ref a8, .int (zI (1 + (my ((25 * yv + y).toNat))))]) gg (c_mBoard M ((x - yv) - (A 8)) y ) ys_11_board ml_X11_92 dX11_comes_93 (by decide) (Nat.le_of_ble_eq_true rfl) (Nat.le_of_ble_eq_true rfl) (Nat.le_of_ble_eq_true rfl) rfl rfl (fun z93 u93 hz93 => ?_)
          subst hz93
          refine z_iald (pc := 96) 9 ((25 * ((x - yv) - (A 8)) + y).toNat) gg dX11_comes_96 rfl (by omega) (by omega) (by decide) ?_
          refine z_iadd (pc := 97) gg dX11_comes_97 ?_
          refine z_goto (pc := 98) 138 gg dX11_comes_98 (by decide) ?_
          exact hret ((1 + (my ((25 * yv + y).toNat))) + (my ((25 * ((x - yv) - (A 8)) + y).toNat))) () 138 _ _ _ (Nat.le_of_ble_eq_true rfl) (Nat.le_of_ble_eq_true rfl) dX11_comes_138 rfl (by
      unfold cm
      rw [if_neg (show ¬ yv < 0 by omega), if_pos (show yv < 100 by omega), if_pos (show (if s = -1 then 6 else s.toNat) = 6 by rw [if_pos (by omega)]), show (25 * yv + y).toNat = yv.toNat * 25 + y.toNat by omega, show (25 * ((x - yv) - (A 8)) + y).toNat = (x.toNat - (A 8).toNat - yv.toNat) * 25 + y.toNat by omega]
      omega)
    · refine z_iload_n (pc := 26) 4 gg dX11_comes_26 rfl rfl ?_
      refine z_iconst (pc := 27) gg dX11_comes_27 ?_
      refine z_iload (pc := 28) 0 gg dX11_comes_28 rfl ?_
      refine z_isub (pc := 30) gg dX11_comes_30 ?_
      refine z_icmp_ne (pc := 31) 38 gg dX11_comes_31 (by decide) ⟨by omega, by omega⟩ ⟨by omega, by omega⟩ (fun h31 => ?_) (fun h31 => ?_)
      · refine z_iconst (pc := 38) gg dX11_comes_38 ?_
        exact hret 0 () 39 _ _ _ (Nat.le_of_ble_eq_true rfl) (Nat.le_of_ble_eq_true rfl) dX11_comes_39 rfl (by
      unfold cm
      rw [if_pos (show yv < 0 by omega)]
      by_cases q : s = -1
      · rw [if_pos q, if_neg (by omega)] <;> omega
      · rw [if_neg q]
        split <;> omega)
      · refine z_iconst (pc := 34) gg dX11_comes_34 ?_
        refine z_goto (pc := 35) 39 gg dX11_comes_35 (by decide) ?_
        exact hret 1 () 39 _ _ _ (Nat.le_of_ble_eq_true rfl) (Nat.le_of_ble_eq_true rfl) dX11_comes_39 rfl (by
      unfold cm
      rw [if_pos (show yv < 0 by omega)]
      by_cases q : s = -1
      · rw [if_pos q, if_neg (by omega)] <;> omega
      · rw [if_neg q]
        split <;> omega)
  · refine z_iconst (pc := 19) gg dX11_comes_19 ?_
    exact hret 0 () 20 _ _ _ (Nat.le_of_ble_eq_true rfl) (Nat.le_of_ble_eq_true rfl) dX11_comes_20 rfl (by
      unfold cm
      rw [if_pos (show yv < 0 by omega)]
      by_cases q : s = -1
      · rw [if_pos q, if_neg (by omega)] <;> omega
      · rw [if_neg q]
        split <;> omega)
set_option maxHeartbeats 4000000 in
set_option maxRecDepth 100000 in
theorem c_m_cuts (M : KM) (h a0 a1 a2 a3 a4 a5 a6 a7 a8 : Nat) (A hs ht bf cu fr wo wy my : Nat → Int) (wf : Nat → Int) (mm : Nat → Nat → Int) (x y s : Int) (h4 : 0 ≤ A 4 ∧ A 4 ≤ 6) (h8 : 0 ≤ A 8 ∧ A 8 ≤ 3) (hSh : ∀ j, j < 6 → (0 ≤ A (300 + (3 * j)) ∧ A (300 + (3 * j)) ≤ 24) ∧ (0 ≤ A ((300 + (3 * j)) + 1) ∧ A ((300 + (3 * j)) + 1) ≤ 24) ∧ (0 ≤ A ((300 + (3 * j)) + 2) ∧ A ((300 + (3 * j)) + 2) ≤ 999)) (hto : tOK (A 4).toNat (lF 300 3 6 A) (lF 301 3 6 A) (lF 302 3 6 A) (A 8).toNat wf mm 25 1) (hxr : zR x) (hyr : zR y) (hsr : zR s) : kCI M yX11_cuts cX11_cuts 6 .int 3 0 0 [cO 11 h [.ref a0, .ref a1, .ref a2, .ref a3, .ref a4, .ref a5, .ref a6, .ref a7, .ref a8], cI M a0 1280 A, cZ M a1 3 hs, cI M a2 9 ht, cI M a3 9 bf, cI M a4 9 cu, cI M a5 32 fr, cI M a6 625 wo, cI M a7 625 wy, cI M a8 625 my] [.ref h, .int (zI x), .int (zI y), .int (zI s)] (fun z (u : (Nat → Int) × (Nat → Int) × (Nat → Int)) => (1 ≤ x ∧ x ≤ 24 ∧ 1 ≤ y ∧ y ≤ 24 ∧ -1 ≤ s ∧ s < A 4 ∧ z = mm (if s = -1 then 6 else s.toNat) (x.toNat * 25 + y.toNat)) ∨ ((x < 1 ∨ 24 < x ∨ y < 1 ∨ 24 < y ∨ s < -1 ∨ A 4 ≤ s) ∧ z = -1)) (fun u => [cO 11 h [.ref a0, .ref a1, .ref a2, .ref a3, .ref a4, .ref a5, .ref a6, .ref a7, .ref a8], cI M a0 1280 A, cZ M a1 3 hs, cI M a2 9 ht, cI M a3 9 bf, cI M a4 9 cu, cI M a5 32 fr, cI M a6 625 u.1, cI M a7 625 u.2.1, cI M a8 625 u.2.2]) := by
  refine kCI.of [(0, .ref h), (1, .int (zI x)), (2, .int (zI y)), (3, .int (zI s))] (by decide) (Nat.le_of_ble_eq_true rfl) rfl (fun E gg hret => ?_)
  have r1_hxr := hxr.1
  have r2_hxr := hxr.2
  have r1_hyr := hyr.1
  have r2_hyr := hyr.2
  have r1_hsr := hsr.1
  have r2_hsr := hsr.2
  refine z_iload_n (pc := 0) 1 gg dX11_cuts_0 rfl rfl ?_
  refine z_iload_n (pc := 1) 2 gg dX11_cuts_1 rfl rfl ?_
  refine z_callS (pc := 2) (As := [.int (zI x), .int (zI y)]) (st := []) gg (c_mIsBoard M x y (by first | assumption | omega | exact ⟨by omega, by omega⟩) (by first | assumption | omega | exact ⟨by omega, by omega⟩)) ys_11_isBoard ml_X11_103 dX11_cuts_2 (by decide) (Nat.le_of_ble_eq_true rfl) (Nat.le_of_ble_eq_true rfl) (Nat.le_of_ble_eq_true rfl) rfl rfl (fun z2 u2 hz2 => ?_)
  refine z_if_eq (pc := 5) 24 gg dX11_cuts_5 (by decide) ⟨by omega, by omega⟩ (fun h5 => ?_) (fun h5 => ?_)
  · refine z_iconst (pc := 24) gg dX11_cuts_24 ?_
    exact hret (-1) (wo, wy, my) 25 _ _ _ (Nat.le_of_ble_eq_true rfl) (Nat.le_of_ble_eq_true rfl) dX11_cuts_25 rfl (by omega)
  · refine z_iload_n (pc := 8) 3 gg dX11_cuts_8 rfl rfl ?_
    refine z_iconst (pc := 9) gg dX11_cuts_9 ?_
    refine z_aload_n (pc := 10) 0 gg dX11_cuts_10 rfl rfl ?_
    refine z_get (pc := 11) 0 gg fl_X11_7 dX11_cuts_11 rfl rfl ?_
    refine z_iconst (pc := 14) gg dX11_cuts_14 ?_
    refine z_iald (pc := 15) 1 4 gg dX11_cuts_15 rfl (by omega) (by omega) (by decide) ?_
    refine z_iconst (pc := 16) gg dX11_cuts_16 ?_
    refine z_isub (pc := 17) gg dX11_cuts_17 ?_
    refine z_callS (pc := 18) (As := [.int (zI s), .int (zI (-1)), .int (zI ((A 4) - 1))]) (st := []) gg (c_mIn M s (-1 : Int) ((A 4) - 1) (by first | assumption | omega | exact ⟨by omega, by omega⟩) (by first | assumption | omega | exact ⟨by omega, by omega⟩) (by first | assumption | omega | exact ⟨by omega, by omega⟩)) ys_11_isIn ml_X11_38 dX11_cuts_18 (by decide) (Nat.le_of_ble_eq_true rfl) (Nat.le_of_ble_eq_true rfl) (Nat.le_of_ble_eq_true rfl) rfl rfl (fun z18 u18 hz18 => ?_)
    refine z_if_ne (pc := 21) 26 gg dX11_cuts_21 (by decide) ⟨by omega, by omega⟩ (fun h21 => ?_) (fun h21 => ?_)
    · refine z_aload_n (pc := 26) 0 gg dX11_cuts_26 rfl rfl ?_
      refine z_iload_n (pc := 27) 1 gg dX11_cuts_27 rfl rfl ?_
      refine z_iload_n (pc := 28) 2 gg dX11_cuts_28 rfl rfl ?_
      refine z_callWv (pc := 29) (As := [.int (zI x), .int (zI y)]) (st := []) gg (c_m_reckons M h a0 a1 a2 a3 a4 a5 a6 a7 a8 A hs ht bf cu fr wo wy my wf mm x y (by first | assumption | omega | exact ⟨by omega, by omega⟩) (by first | assumption | omega | exact ⟨by omega, by omega⟩) hSh (by first | assumption | omega | exact ⟨by omega, by omega⟩) (by first | assumption | omega | exact ⟨by omega, by omega⟩) hto) yv_11_reckons ml_X11_106 dX11_cuts_29 (by decide) (Nat.le_of_ble_eq_true rfl) (Nat.le_of_ble_eq_true rfl) (Nat.le_of_ble_eq_true rfl) rfl rfl rfl (fun u29 hz29 => ?_)
      refine z_iconst (pc := 32) gg dX11_cuts_32 ?_
      refine z_istore (pc := 33) [(4, .int (zI 1)), (0, .ref h), (1, .int (zI x)), (2, .int (zI y)), (3, .int (zI s))] gg dX11_cuts_33 (Nat.le_of_ble_eq_true rfl) rfl ?_
      have loop35 : ∀ (k35 : Nat) (p : Int) (g : Nat → Int), (1 ≤ p ∧ p ≤ x + 1) → (∀ a b, 1 ≤ a → a ≤ x.toNat → 1 ≤ b → b ≤ y.toNat → (a < p.toNat ∨ (a = p.toNat ∧ b < 1)) → g (a * 25 + b) = mm (if s = -1 then 6 else s.toNat) (a * 25 + b)) → 25 - p.toNat < k35 → kV M E 6 0 0 [cO 11 h [.ref a0, .ref a1, .ref a2, .ref a3, .ref a4, .ref a5, .ref a6, .ref a7, .ref a8], cI M a0 1280 A, cZ M a1 3 hs, cI M a2 9 ht, cI M a3 9 bf, cI M a4 9 cu, cI M a5 32 fr, cI M a6 625 u29.1, cI M a7 625 u29.2, cI M a8 625 g] [(4, .int (zI p)), (0, .ref h), (1, .int (zI x)), (2, .int (zI y)), (3, .int (zI s))] 35 [] := by
        intro k35
        induction k35 with
        | zero => intro p g hp0 hd hm35; exact absurd hm35 (Nat.not_lt_zero _)
        | succ k35 ih35 =>
          intro p g hp0 hd hm35
          refine z_iload (pc := 35) 0 gg dX11_cuts_35 rfl ?_
          refine z_iload_n (pc := 37) 2 gg dX11_cuts_37 rfl rfl ?_
          refine z_icmp_gt (pc := 38) 83 gg dX11_cuts_38 (by decide) ⟨by omega, by omega⟩ ⟨by omega, by omega⟩ (fun h38 => ?_) (fun h38 => ?_)
          · refine z_aload_n (pc := 83) 1 gg dX11_cuts_83 rfl rfl ?_
            refine z_get (pc := 84) 0 gg fl_X11_35 dX11_cuts_84 rfl rfl ?_
            refine z_iload_n (pc := 87) 2 gg dX11_cuts_87 rfl rfl ?_
            refine z_iload_n (pc := 88) 3 gg dX11_cuts_88 rfl rfl ?_
            refine z_callS (pc := 89) (As := [.int (zI x), .int (zI y)]) (st := [.ref a8]) gg (c_mBoard M x y ) ys_11_board ml_X11_92 dX11_cuts_89 (by decide) (Nat.le_of_ble_eq_true rfl) (Nat.le_of_ble_eq_true rfl) (Nat.le_of_ble_eq_true rfl) rfl rfl (fun z89 u89 hz89 => ?_)
            subst hz89
            refine z_iald (pc := 92) 9 ((25 * x + y).toNat) gg dX11_cuts_92 rfl (by omega) (by omega) (by decide) ?_
            exact hret (g ((25 * x + y).toNat)) (u29.1, u29.2, g) 93 _ _ _ (Nat.le_of_ble_eq_true rfl) (Nat.le_of_ble_eq_true rfl) dX11_cuts_93 rfl (Or.inl ⟨by omega, by omega, by omega, by omega, by omega, by omega, by rw [show (25 * x + y).toNat = x.toNat * 25 + y.toNat by omega]; exact hd x.toNat y.toNat (by omega) (by omega) (by omega) (by omega) (by omega)⟩)
          · refine z_iconst (pc := 41) gg dX11_cuts_41 ?_
            refine z_istore (pc := 42) [(5, .int (zI 1)), (4, .int (zI p)), (0, .ref h), (1, .int (zI x)), (2, .int (zI y)), (3, .int (zI s))] gg dX11_cuts_42 (Nat.le_of_ble_eq_true rfl) rfl ?_
            have loop44 : ∀ (k44 : Nat) (t : Int) (g : Nat → Int), (1 ≤ t ∧ t ≤ y + 1) → (∀ a b, 1 ≤ a → a ≤ x.toNat → 1 ≤ b → b ≤ y.toNat → (a < p.toNat ∨ (a = p.toNat ∧ b < t.toNat)) → g (a * 25 + b) = mm (if s = -1 then 6 else s.toNat) (a * 25 + b)) → 25 - t.toNat < k44 → kV M E 6 0 0 [cO 11 h [.ref a0, .ref a1, .ref a2, .ref a3, .ref a4, .ref a5, .ref a6, .ref a7, .ref a8], cI M a0 1280 A, cZ M a1 3 hs, cI M a2 9 ht, cI M a3 9 bf, cI M a4 9 cu, cI M a5 32 fr, cI M a6 625 u29.1, cI M a7 625 u29.2, cI M a8 625 g] [(5, .int (zI t)), (4, .int (zI p)), (0, .ref h), (1, .int (zI x)), (2, .int (zI y)), (3, .int (zI s))] 44 [] := by
              intro k44
              induction k44 with
              | zero => intro t g ht0 hd hm44; exact absurd hm44 (Nat.not_lt_zero _)
              | succ k44 ih44 =>
                intro t g ht0 hd hm44
                refine z_iload (pc := 44) 0 gg dX11_cuts_44 rfl ?_
                refine z_iload_n (pc := 46) 4 gg dX11_cuts_46 rfl rfl ?_
                refine z_icmp_gt (pc := 47) 77 gg dX11_cuts_47 (by decide) ⟨by omega, by omega⟩ ⟨by omega, by omega⟩ (fun h47 => ?_) (fun h47 => ?_)
                · refine z_iinc (pc := 77) 1 [(4, .int (zI (p + 1))), (5, .int (zI t)), (0, .ref h), (1, .int (zI x)), (2, .int (zI y)), (3, .int (zI s))] gg dX11_cuts_77 rfl (Nat.le_of_ble_eq_true rfl) rfl ?_
                  refine z_goto (pc := 80) 35 gg dX11_cuts_80 (by decide) ?_
                  refine z_lv [(4, .int (zI (p + 1))), (0, .ref h), (1, .int (zI x)), (2, .int (zI y)), (3, .int (zI s))] [0, 2, 3, 4, 5] rfl ?_
                  exact ih35 (p + 1) g (by omega) (fun a b p q r s t => hd a b p q r s (by omega)) (by omega)
                · refine z_aload_n (pc := 50) 2 gg dX11_cuts_50 rfl rfl ?_
                  refine z_get (pc := 51) 0 gg fl_X11_35 dX11_cuts_51 rfl rfl ?_
                  refine z_iload (pc := 54) 1 gg dX11_cuts_54 rfl ?_
                  refine z_iload (pc := 56) 0 gg dX11_cuts_56 rfl ?_
                  refine z_callS (pc := 58) (As := [.int (zI p), .int (zI t)]) (st := [.ref a8]) gg (c_mBoard M p t ) ys_11_board ml_X11_92 dX11_cuts_58 (by decide) (Nat.le_of_ble_eq_true rfl) (Nat.le_of_ble_eq_true rfl) (Nat.le_of_ble_eq_true rfl) rfl rfl (fun z58 u58 hz58 => ?_)
                  subst hz58
                  refine z_aload_n (pc := 61) 2 gg dX11_cuts_61 rfl rfl ?_
                  refine z_iload (pc := 62) 1 gg dX11_cuts_62 rfl ?_
                  refine z_iload (pc := 64) 0 gg dX11_cuts_64 rfl ?_
                  refine z_iload_n (pc := 66) 5 gg dX11_cuts_66 rfl rfl ?_
                  have hag := (hz29 p.toNat t.toNat (by omega) (by omega) (by omega) (by omega)).2
                  have hfy : u29.2 (25 * p + t).toNat = (fin (A 4).toNat (lF 300 3 6 A) (lF 301 3 6 A) (lF 302 3 6 A) wf (A 8).toNat p.toNat t.toNat).2 := by
                    rw [show (25 * p + t).toNat = p.toNat * 25 + t.toNat by omega]; exact hag
                  have hrg := fin_rg2 (n := (A 4).toNat) (sw := (lF 300 3 6 A)) (sh := (lF 301 3 6 A)) (sv := (lF 302 3 6 A)) (wf := wf) (s := (A 8).toNat) (w := p.toNat) (h := t.toNat) (by omega)
                  have hyv : u29.2 (25 * p + t).toNat = -100 ∨ (-6 ≤ u29.2 (25 * p + t).toNat ∧ u29.2 (25 * p + t).toNat ≤ -1) ∨ (1 ≤ u29.2 (25 * p + t).toNat ∧ u29.2 (25 * p + t).toNat + A 8 < p) ∨ (101 ≤ u29.2 (25 * p + t).toNat ∧ u29.2 (25 * p + t).toNat - 100 + A 8 < t) := by
                    rw [hfy]; omega
                  refine z_callWi (pc := 67) (As := [.int (zI p), .int (zI t), .int (zI s)]) (st := [.int (zI (25 * p + t)), .ref a8]) gg (c_m_comes M h a0 a1 a2 a3 a4 a5 a6 a7 a8 A hs ht bf cu fr u29.1 u29.2 g p t s (by first | assumption | omega | exact ⟨by omega, by omega⟩) (by first | assumption | omega | exact ⟨by omega, by omega⟩) (by first | assumption | omega | exact ⟨by omega, by omega⟩) (by first | assumption | omega | exact ⟨by omega, by omega⟩) hyv) yv_11_comes ml_X11_109 dX11_cuts_67 (by decide) (Nat.le_of_ble_eq_true rfl) (Nat.le_of_ble_eq_true rfl) (Nat.le_of_ble_eq_true rfl) rfl rfl rfl (fun z67 u67 hz67 => ?_)
                  rw [hfy] at hz67
                  refine z_iast (pc := 70) 9 ((25 * p + t).toNat) [cO 11 h [.ref a0, .ref a1, .ref a2, .ref a3, .ref a4, .ref a5, .ref a6, .ref a7, .ref a8], cI M a0 1280 A, cZ M a1 3 hs, cI M a2 9 ht, cI M a3 9 bf, cI M a4 9 cu, cI M a5 32 fr, cI M a6 625 u29.1, cI M a7 625 u29.2, cI M a8 625 (zU g ((25 * p + t).toNat) z67)] gg dX11_cuts_70 rfl (by omega) (by omega) (by decide) rfl ?_
                  refine z_iinc (pc := 71) 0 [(5, .int (zI (t + 1))), (4, .int (zI p)), (0, .ref h), (1, .int (zI x)), (2, .int (zI y)), (3, .int (zI s))] gg dX11_cuts_71 rfl (Nat.le_of_ble_eq_true rfl) rfl ?_
                  refine z_goto (pc := 74) 44 gg dX11_cuts_74 (by decide) ?_
                  exact ih44 (t + 1) (zU g ((25 * p + t).toNat) z67) (by omega) (fun a b p9 q r s9 t9 => by
          rw [show (25 * p + t).toNat = p.toNat * 25 + t.toNat by omega]
          by_cases e : a = p.toNat ∧ b = t.toNat
          · obtain ⟨e1, e2⟩ := e
            subst e1; subst e2
            rw [zU_s, hz67, (hto p.toNat t.toNat p9 (by omega) r (by omega) (by omega)).2.1 (if s = -1 then 6 else s.toNat) (by split <;> omega)]
            exact cm_cong (by omega) fin_rg (fun j j1 j2 => hd j t.toNat j1 (by omega) r s9 (by omega)) (fun j j1 j2 => hd p.toNat j p9 q j1 (by omega) (by omega))
          · rw [zU_n _ _ (by omega)]
            exact hd a b p9 q r s9 (by omega)) (by omega)
            exact loop44 _ 1 g (by omega) hd (Nat.lt_succ_self _)
      exact loop35 _ 1 my (by omega) (fun a b p q r s t => absurd t (by have : (1 : Int).toNat = 1 := rfl; omega)) (Nat.lt_succ_self _)
    · refine z_iconst (pc := 24) gg dX11_cuts_24 ?_
      exact hret (-1) (wo, wy, my) 25 _ _ _ (Nat.le_of_ble_eq_true rfl) (Nat.le_of_ble_eq_true rfl) dX11_cuts_25 rfl (by omega)
