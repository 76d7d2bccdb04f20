set_option maxHeartbeats 4000000 in
set_option maxRecDepth 100000 in
theorem c_m_new (M : KM) (h : Nat)  : kCV M yX11_init cX11_init 3 1 9 3217 [cO 11 h [.null, .null, .null, .null, .null, .null, .null, .null, .null]] [.ref h] (fun u : Nat × Nat × Nat × Nat × Nat × Nat × Nat × Nat × Nat => True) (fun u => [cO 11 h [.ref u.1, .ref u.2.1, .ref u.2.2.1, .ref u.2.2.2.1, .ref u.2.2.2.2.1, .ref u.2.2.2.2.2.1, .ref u.2.2.2.2.2.2.1, .ref u.2.2.2.2.2.2.2.1, .ref u.2.2.2.2.2.2.2.2], cI M u.1 1280 (iniA 32), cZ M u.2.1 3 (fun _ => 0), cI M u.2.2.1 9 (fun _ => 0), cI M u.2.2.2.1 9 (fun _ => 0), cI M u.2.2.2.2.1 9 (fun _ => 0), cI M u.2.2.2.2.2.1 32 (fun _ => 0), cI M u.2.2.2.2.2.2.1 625 (fun _ => 0), cI M u.2.2.2.2.2.2.2.1 625 (fun _ => 0), cI M u.2.2.2.2.2.2.2.2 625 (fun _ => 0)]) := by
  refine kCV.of [(0, .ref h)] (by decide) (Nat.le_of_ble_eq_true rfl) rfl (fun E gg gn hret => ?_)
  refine z_aload_n (pc := 0) 0 gg dX11_init_0 rfl rfl ?_
  refine z_obj (pc := 1) gg dX11_init_1 ml_X11_1 oi_1 oi_2 (by decide) (Nat.le_of_ble_eq_true rfl) ?_
  refine z_aload_n (pc := 4) 0 gg dX11_init_4 rfl rfl ?_
  refine z_sipush (pc := 5) gg dX11_init_5 (by decide +kernel) ?_
  refine z_newaI (pc := 8) gg dX11_init_8 ar_I rfl (by decide) (Nat.le_of_ble_eq_true rfl) (Nat.le_of_ble_eq_true rfl) (fun q1 => ?_)
  show kV M E 3 _ _ [cO 11 h [.null, .null, .null, .null, .null, .null, .null, .null, .null], cI M q1 1280 (fun _ => 0)] _ _ _
  refine z_putF (pc := 10) 0 [cO 11 h [.ref q1, .null, .null, .null, .null, .null, .null, .null, .null], cI M q1 1280 (fun _ => 0)] gg gn fp_X11_7 dX11_init_10 rfl rfl rfl (Nat.le_of_ble_eq_true rfl) rfl ?_
  refine z_aload_n (pc := 13) 0 gg dX11_init_13 rfl rfl ?_
  refine z_iconst (pc := 14) gg dX11_init_14 ?_
  refine z_newaZ (pc := 15) gg dX11_init_15 ar_Z rfl (by decide) (Nat.le_of_ble_eq_true rfl) (Nat.le_of_ble_eq_true rfl) (fun q2 => ?_)
  show kV M E 3 _ _ [cO 11 h [.ref q1, .null, .null, .null, .null, .null, .null, .null, .null], cI M q1 1280 (fun _ => 0), cZ M q2 3 (fun _ => 0)] _ _ _
  refine z_putF (pc := 17) 0 [cO 11 h [.ref q1, .ref q2, .null, .null, .null, .null, .null, .null, .null], cI M q1 1280 (fun _ => 0), cZ M q2 3 (fun _ => 0)] gg gn fp_X11_13 dX11_init_17 rfl rfl rfl (Nat.le_of_ble_eq_true rfl) rfl ?_
  refine z_aload_n (pc := 20) 0 gg dX11_init_20 rfl rfl ?_
  refine z_bipush (pc := 21) gg dX11_init_21 (by decide +kernel) ?_
  refine z_newaI (pc := 23) gg dX11_init_23 ar_I rfl (by decide) (Nat.le_of_ble_eq_true rfl) (Nat.le_of_ble_eq_true rfl) (fun q3 => ?_)
  show kV M E 3 _ _ [cO 11 h [.ref q1, .ref q2, .null, .null, .null, .null, .null, .null, .null], cI M q1 1280 (fun _ => 0), cZ M q2 3 (fun _ => 0), cI M q3 9 (fun _ => 0)] _ _ _
  refine z_putF (pc := 25) 0 [cO 11 h [.ref q1, .ref q2, .ref q3, .null, .null, .null, .null, .null, .null], cI M q1 1280 (fun _ => 0), cZ M q2 3 (fun _ => 0), cI M q3 9 (fun _ => 0)] gg gn fp_X11_17 dX11_init_25 rfl rfl rfl (Nat.le_of_ble_eq_true rfl) rfl ?_
  refine z_aload_n (pc := 28) 0 gg dX11_init_28 rfl rfl ?_
  refine z_bipush (pc := 29) gg dX11_init_29 (by decide +kernel) ?_
  refine z_newaI (pc := 31) gg dX11_init_31 ar_I rfl (by decide) (Nat.le_of_ble_eq_true rfl) (Nat.le_of_ble_eq_true rfl) (fun q4 => ?_)
  show kV M E 3 _ _ [cO 11 h [.ref q1, .ref q2, .ref q3, .null, .null, .null, .null, .null, .null], cI M q1 1280 (fun _ => 0), cZ M q2 3 (fun _ => 0), cI M q3 9 (fun _ => 0), cI M q4 9 (fun _ => 0)] _ _ _
  refine z_putF (pc := 33) 0 [cO 11 h [.ref q1, .ref q2, .ref q3, .ref q4, .null, .null, .null, .null, .null], cI M q1 1280 (fun _ => 0), cZ M q2 3 (fun _ => 0), cI M q3 9 (fun _ => 0), cI M q4 9 (fun _ => 0)] gg gn fp_X11_20 dX11_init_33 rfl rfl rfl (Nat.le_of_ble_eq_true rfl) rfl ?_
  refine z_aload_n (pc := 36) 0 gg dX11_init_36 rfl rfl ?_
  refine z_bipush (pc := 37) gg dX11_init_37 (by decide +kernel) ?_
  refine z_newaI (pc := 39) gg dX11_init_39 ar_I rfl (by decide) (Nat.le_of_ble_eq_true rfl) (Nat.le_of_ble_eq_true rfl) (fun q5 => ?_)
  show kV M E 3 _ _ [cO 11 h [.ref q1, .ref q2, .ref q3, .ref q4, .null, .null, .null, .null, .null], cI M q1 1280 (fun _ => 0), cZ M q2 3 (fun _ => 0), cI M q3 9 (fun _ => 0), cI M q4 9 (fun _ => 0), cI M q5 9 (fun _ => 0)] _ _ _
  refine z_putF (pc := 41) 0 [cO 11 h [.ref q1, .ref q2, .ref q3, .ref q4, .ref q5, .null, .null, .null, .null], cI M q1 1280 (fun _ => 0), cZ M q2 3 (fun _ => 0), cI M q3 9 (fun _ => 0), cI M q4 9 (fun _ => 0), cI M q5 9 (fun _ => 0)] gg gn fp_X11_23 dX11_init_41 rfl rfl rfl (Nat.le_of_ble_eq_true rfl) rfl ?_
  refine z_aload_n (pc := 44) 0 gg dX11_init_44 rfl rfl ?_
  refine z_bipush (pc := 45) gg dX11_init_45 (by decide +kernel) ?_
  refine z_newaI (pc := 47) gg dX11_init_47 ar_I rfl (by decide) (Nat.le_of_ble_eq_true rfl) (Nat.le_of_ble_eq_true rfl) (fun q6 => ?_)
  show kV M E 3 _ _ [cO 11 h [.ref q1, .ref q2, .ref q3, .ref q4, .ref q5, .null, .null, .null, .null], cI M q1 1280 (fun _ => 0), cZ M q2 3 (fun _ => 0), cI M q3 9 (fun _ => 0), cI M q4 9 (fun _ => 0), cI M q5 9 (fun _ => 0), cI M q6 32 (fun _ => 0)] _ _ _
  refine z_putF (pc := 49) 0 [cO 11 h [.ref q1, .ref q2, .ref q3, .ref q4, .ref q5, .ref q6, .null, .null, .null], cI M q1 1280 (fun _ => 0), cZ M q2 3 (fun _ => 0), cI M q3 9 (fun _ => 0), cI M q4 9 (fun _ => 0), cI M q5 9 (fun _ => 0), cI M q6 32 (fun _ => 0)] gg gn fp_X11_26 dX11_init_49 rfl rfl rfl (Nat.le_of_ble_eq_true rfl) rfl ?_
  refine z_aload_n (pc := 52) 0 gg dX11_init_52 rfl rfl ?_
  refine z_sipush (pc := 53) gg dX11_init_53 (by decide +kernel) ?_
  refine z_newaI (pc := 56) gg dX11_init_56 ar_I rfl (by decide) (Nat.le_of_ble_eq_true rfl) (Nat.le_of_ble_eq_true rfl) (fun q7 => ?_)
  show kV M E 3 _ _ [cO 11 h [.ref q1, .ref q2, .ref q3, .ref q4, .ref q5, .ref q6, .null, .null, .null], cI M q1 1280 (fun _ => 0), cZ M q2 3 (fun _ => 0), cI M q3 9 (fun _ => 0), cI M q4 9 (fun _ => 0), cI M q5 9 (fun _ => 0), cI M q6 32 (fun _ => 0), cI M q7 625 (fun _ => 0)] _ _ _
  refine z_putF (pc := 58) 0 [cO 11 h [.ref q1, .ref q2, .ref q3, .ref q4, .ref q5, .ref q6, .ref q7, .null, .null], cI M q1 1280 (fun _ => 0), cZ M q2 3 (fun _ => 0), cI M q3 9 (fun _ => 0), cI M q4 9 (fun _ => 0), cI M q5 9 (fun _ => 0), cI M q6 32 (fun _ => 0), cI M q7 625 (fun _ => 0)] gg gn fp_X11_29 dX11_init_58 rfl rfl rfl (Nat.le_of_ble_eq_true rfl) rfl ?_
  refine z_aload_n (pc := 61) 0 gg dX11_init_61 rfl rfl ?_
  refine z_sipush (pc := 62) gg dX11_init_62 (by decide +kernel) ?_
  refine z_newaI (pc := 65) gg dX11_init_65 ar_I rfl (by decide) (Nat.le_of_ble_eq_true rfl) (Nat.le_of_ble_eq_true rfl) (fun q8 => ?_)
  show kV M E 3 _ _ [cO 11 h [.ref q1, .ref q2, .ref q3, .ref q4, .ref q5, .ref q6, .ref q7, .null, .null], cI M q1 1280 (fun _ => 0), cZ M q2 3 (fun _ => 0), cI M q3 9 (fun _ => 0), cI M q4 9 (fun _ => 0), cI M q5 9 (fun _ => 0), cI M q6 32 (fun _ => 0), cI M q7 625 (fun _ => 0), cI M q8 625 (fun _ => 0)] _ _ _
  refine z_putF (pc := 67) 0 [cO 11 h [.ref q1, .ref q2, .ref q3, .ref q4, .ref q5, .ref q6, .ref q7, .ref q8, .null], cI M q1 1280 (fun _ => 0), cZ M q2 3 (fun _ => 0), cI M q3 9 (fun _ => 0), cI M q4 9 (fun _ => 0), cI M q5 9 (fun _ => 0), cI M q6 32 (fun _ => 0), cI M q7 625 (fun _ => 0), cI M q8 625 (fun _ => 0)] gg gn fp_X11_32 dX11_init_67 rfl rfl rfl (Nat.le_of_ble_eq_true rfl) rfl ?_
  refine z_aload_n (pc := 70) 0 gg dX11_init_70 rfl rfl ?_
  refine z_sipush (pc := 71) gg dX11_init_71 (by decide +kernel) ?_
  refine z_newaI (pc := 74) gg dX11_init_74 ar_I rfl (by decide) (Nat.le_of_ble_eq_true rfl) (Nat.le_of_ble_eq_true rfl) (fun q9 => ?_)
  show kV M E 3 _ _ [cO 11 h [.ref q1, .ref q2, .ref q3, .ref q4, .ref q5, .ref q6, .ref q7, .ref q8, .null], cI M q1 1280 (fun _ => 0), cZ M q2 3 (fun _ => 0), cI M q3 9 (fun _ => 0), cI M q4 9 (fun _ => 0), cI M q5 9 (fun _ => 0), cI M q6 32 (fun _ => 0), cI M q7 625 (fun _ => 0), cI M q8 625 (fun _ => 0), cI M q9 625 (fun _ => 0)] _ _ _
  refine z_putF (pc := 76) 0 [cO 11 h [.ref q1, .ref q2, .ref q3, .ref q4, .ref q5, .ref q6, .ref q7, .ref q8, .ref q9], cI M q1 1280 (fun _ => 0), cZ M q2 3 (fun _ => 0), cI M q3 9 (fun _ => 0), cI M q4 9 (fun _ => 0), cI M q5 9 (fun _ => 0), cI M q6 32 (fun _ => 0), cI M q7 625 (fun _ => 0), cI M q8 625 (fun _ => 0), cI M q9 625 (fun _ => 0)] gg gn fp_X11_35 dX11_init_76 rfl rfl rfl (Nat.le_of_ble_eq_true rfl) rfl ?_
  refine z_aload_n (pc := 79) 0 gg dX11_init_79 rfl rfl ?_
  refine z_get (pc := 80) 0 gg fl_X11_7 dX11_init_80 rfl rfl ?_
  refine z_iconst (pc := 83) gg dX11_init_83 ?_
  refine z_bipush (pc := 84) gg dX11_init_84 (by decide +kernel) ?_
  refine z_iast (pc := 86) 1 5 [cO 11 h [.ref q1, .ref q2, .ref q3, .ref q4, .ref q5, .ref q6, .ref q7, .ref q8, .ref q9], cI M q1 1280 (zU (fun _ => 0) 5 10), cZ M q2 3 (fun _ => 0), cI M q3 9 (fun _ => 0), cI M q4 9 (fun _ => 0), cI M q5 9 (fun _ => 0), cI M q6 32 (fun _ => 0), cI M q7 625 (fun _ => 0), cI M q8 625 (fun _ => 0), cI M q9 625 (fun _ => 0)] gg dX11_init_86 rfl (by omega) (by omega) (by decide) rfl ?_
  refine z_aload_n (pc := 87) 0 gg dX11_init_87 rfl rfl ?_
  refine z_get (pc := 88) 0 gg fl_X11_7 dX11_init_88 rfl rfl ?_
  refine z_bipush (pc := 91) gg dX11_init_91 (by decide +kernel) ?_
  refine z_bipush (pc := 93) gg dX11_init_93 (by decide +kernel) ?_
  refine z_iast (pc := 95) 1 6 [cO 11 h [.ref q1, .ref q2, .ref q3, .ref q4, .ref q5, .ref q6, .ref q7, .ref q8, .ref q9], cI M q1 1280 (zU (zU (fun _ => 0) 5 10) 6 50), cZ M q2 3 (fun _ => 0), cI M q3 9 (fun _ => 0), cI M q4 9 (fun _ => 0), cI M q5 9 (fun _ => 0), cI M q6 32 (fun _ => 0), cI M q7 625 (fun _ => 0), cI M q8 625 (fun _ => 0), cI M q9 625 (fun _ => 0)] gg dX11_init_95 rfl (by omega) (by omega) (by decide) rfl ?_
  refine z_aload_n (pc := 96) 0 gg dX11_init_96 rfl rfl ?_
  refine z_get (pc := 97) 0 gg fl_X11_7 dX11_init_97 rfl rfl ?_
  refine z_bipush (pc := 100) gg dX11_init_100 (by decide +kernel) ?_
  refine z_sipush (pc := 102) gg dX11_init_102 (by decide +kernel) ?_
  refine z_iast (pc := 105) 1 7 [cO 11 h [.ref q1, .ref q2, .ref q3, .ref q4, .ref q5, .ref q6, .ref q7, .ref q8, .ref q9], cI M q1 1280 (zU (zU (zU (fun _ => 0) 5 10) 6 50) 7 200), cZ M q2 3 (fun _ => 0), cI M q3 9 (fun _ => 0), cI M q4 9 (fun _ => 0), cI M q5 9 (fun _ => 0), cI M q6 32 (fun _ => 0), cI M q7 625 (fun _ => 0), cI M q8 625 (fun _ => 0), cI M q9 625 (fun _ => 0)] gg dX11_init_105 rfl (by omega) (by omega) (by decide) rfl ?_
  refine z_aload_n (pc := 106) 0 gg dX11_init_106 rfl rfl ?_
  refine z_get (pc := 107) 0 gg fl_X11_7 dX11_init_107 rfl rfl ?_
  refine z_bipush (pc := 110) gg dX11_init_110 (by decide +kernel) ?_
  refine z_iconst (pc := 112) gg dX11_init_112 ?_
  refine z_iast (pc := 113) 1 8 [cO 11 h [.ref q1, .ref q2, .ref q3, .ref q4, .ref q5, .ref q6, .ref q7, .ref q8, .ref q9], cI M q1 1280 (zU (zU (zU (zU (fun _ => 0) 5 10) 6 50) 7 200) 8 1), cZ M q2 3 (fun _ => 0), cI M q3 9 (fun _ => 0), cI M q4 9 (fun _ => 0), cI M q5 9 (fun _ => 0), cI M q6 32 (fun _ => 0), cI M q7 625 (fun _ => 0), cI M q8 625 (fun _ => 0), cI M q9 625 (fun _ => 0)] gg dX11_init_113 rfl (by omega) (by omega) (by decide) rfl ?_
  refine z_iconst (pc := 114) gg dX11_init_114 ?_
  refine z_istore_n (pc := 115) [(1, .int (zI 0)), (0, .ref h)] gg dX11_init_115 rfl (Nat.le_of_ble_eq_true rfl) rfl ?_
  have loop116 : ∀ (k116 : Nat) (s : Int) (x : Nat → Int), (0 ≤ s ∧ s ≤ 8) → (x = iniA (4 * s.toNat)) → 8 - s.toNat < k116 → kV M E 3 9 3217 [cO 11 h [.ref q1, .ref q2, .ref q3, .ref q4, .ref q5, .ref q6, .ref q7, .ref q8, .ref q9], cI M q1 1280 x, cZ M q2 3 (fun _ => 0), cI M q3 9 (fun _ => 0), cI M q4 9 (fun _ => 0), cI M q5 9 (fun _ => 0), cI M q6 32 (fun _ => 0), cI M q7 625 (fun _ => 0), cI M q8 625 (fun _ => 0), cI M q9 625 (fun _ => 0)] [(1, .int (zI s)), (0, .ref h)] 116 [] := by
    intro k116
    induction k116 with
    | zero => intro s x hs0 hx hm116; exact absurd hm116 (Nat.not_lt_zero _)
    | succ k116 ih116 =>
      intro s x hs0 hx hm116
      refine z_iload_n (pc := 116) 0 gg dX11_init_116 rfl rfl ?_
      refine z_bipush (pc := 117) gg dX11_init_117 (by decide +kernel) ?_
      refine z_icmp_ge (pc := 119) 157 gg dX11_init_119 (by decide) ⟨by omega, by omega⟩ ⟨by omega, by omega⟩ (fun h119 => ?_) (fun h119 => ?_)
      · rw [show 4 * s.toNat = 32 by omega] at hx
        subst hx
        exact hret (q1, q2, q3, q4, q5, q6, q7, q8, q9) 157 _ _ _ (Nat.le_of_ble_eq_true rfl) (Nat.le_of_ble_eq_true rfl) dX11_init_157 trivial
      · refine z_iconst (pc := 122) gg dX11_init_122 ?_
        refine z_istore_n (pc := 123) [(2, .int (zI 0)), (1, .int (zI s)), (0, .ref h)] gg dX11_init_123 rfl (Nat.le_of_ble_eq_true rfl) rfl ?_
        have loop124 : ∀ (k124 : Nat) (e : Int) (y : Nat → Int), (0 ≤ e ∧ e ≤ 4) → (y = iniA (4 * s.toNat + e.toNat)) → 4 - e.toNat < k124 → kV M E 3 9 3217 [cO 11 h [.ref q1, .ref q2, .ref q3, .ref q4, .ref q5, .ref q6, .ref q7, .ref q8, .ref q9], cI M q1 1280 y, cZ M q2 3 (fun _ => 0), cI M q3 9 (fun _ => 0), cI M q4 9 (fun _ => 0), cI M q5 9 (fun _ => 0), cI M q6 32 (fun _ => 0), cI M q7 625 (fun _ => 0), cI M q8 625 (fun _ => 0), cI M q9 625 (fun _ => 0)] [(2, .int (zI e)), (1, .int (zI s)), (0, .ref h)] 124 [] := by
          intro k124
          induction k124 with
          | zero => intro e y he hy hm124; exact absurd hm124 (Nat.not_lt_zero _)
          | succ k124 ih124 =>
            intro e y he hy hm124
            refine z_iload_n (pc := 124) 0 gg dX11_init_124 rfl rfl ?_
            refine z_iconst (pc := 125) gg dX11_init_125 ?_
            refine z_icmp_ge (pc := 126) 151 gg dX11_init_126 (by decide) ⟨by omega, by omega⟩ ⟨by omega, by omega⟩ (fun h126 => ?_) (fun h126 => ?_)
            · refine z_iinc (pc := 151) 1 [(1, .int (zI (s + 1))), (2, .int (zI e)), (0, .ref h)] gg dX11_init_151 rfl (Nat.le_of_ble_eq_true rfl) rfl ?_
              refine z_goto (pc := 154) 116 gg dX11_init_154 (by decide) ?_
              refine z_lv [(1, .int (zI (s + 1))), (0, .ref h)] [0, 2] rfl ?_
              exact ih116 (s + 1) y (by omega) (by rw [hy]; congr 1; omega) (by omega)
            · refine z_aload_n (pc := 129) 2 gg dX11_init_129 rfl rfl ?_
              refine z_get (pc := 130) 0 gg fl_X11_7 dX11_init_130 rfl rfl ?_
              refine z_sipush (pc := 133) gg dX11_init_133 (by decide +kernel) ?_
              refine z_bipush (pc := 136) gg dX11_init_136 (by decide +kernel) ?_
              refine z_iload_n (pc := 138) 1 gg dX11_init_138 rfl rfl ?_
              refine z_imul (pc := 139) gg dX11_init_139 ?_
              refine z_iadd (pc := 140) gg dX11_init_140 ?_
              refine z_iload_n (pc := 141) 0 gg dX11_init_141 rfl rfl ?_
              refine z_iadd (pc := 142) gg dX11_init_142 ?_
              refine z_iload_n (pc := 143) 1 gg dX11_init_143 rfl rfl ?_
              refine z_iast (pc := 144) 1 ((250 + (6 * s.toNat)) + e.toNat) [cO 11 h [.ref q1, .ref q2, .ref q3, .ref q4, .ref q5, .ref q6, .ref q7, .ref q8, .ref q9], cI M q1 1280 (zU y ((250 + (6 * s.toNat)) + e.toNat) s), cZ M q2 3 (fun _ => 0), cI M q3 9 (fun _ => 0), cI M q4 9 (fun _ => 0), cI M q5 9 (fun _ => 0), cI M q6 32 (fun _ => 0), cI M q7 625 (fun _ => 0), cI M q8 625 (fun _ => 0), cI M q9 625 (fun _ => 0)] gg dX11_init_144 rfl (by omega) (by omega) (by decide) rfl ?_
              refine z_iinc (pc := 145) 0 [(2, .int (zI (e + 1))), (1, .int (zI s)), (0, .ref h)] gg dX11_init_145 rfl (Nat.le_of_ble_eq_true rfl) rfl ?_
              refine z_goto (pc := 148) 124 gg dX11_init_148 (by decide) ?_
              exact ih124 (e + 1) (zU y ((250 + (6 * s.toNat)) + e.toNat) s) (by omega) (by rw [hy, iniA_s (by omega) (by omega) (by omega)]; congr 1; omega) (by omega)
        exact loop124 _ 0 x (by omega) hx (Nat.lt_succ_self _)
  exact loop116 _ 0 (zU (zU (zU (zU (fun _ => 0) 5 10) 6 50) 7 200) 8 1) (by omega) iniA_0 (Nat.lt_succ_self _)
set_option maxHeartbeats 4000000 in
set_option maxRecDepth 100000 in
theorem c_m_next (M : KM) (h a0 a1 a2 a3 a4 a5 a6 a7 a8 : Nat) (A hs ht bf cu fr wo wy my : Nat → Int) (v e : Int) (hv : 0 ≤ v ∧ v < 32) (he : 0 ≤ e ∧ e < 4) (hL : ∀ j, j < 32 → 0 ≤ lD A j ∧ lD A j < 8) (hWt : ∀ j, j < 8 → lF 255 6 8 A j = 0 ∨ lF 255 6 8 A j = 1) : kCI M yX11_next cX11_next 6 .int 0 0 0 [cO 11 h [.ref a0, .ref a1, .ref a2, .ref a3, .ref a4, .ref a5, .ref a6, .ref a7, .ref a8], cI M a0 1280 A, cZ M a1 3 hs, cI M a2 9 ht, cI M a3 9 bf, cI M a4 9 cu, cI M a5 32 fr, cI M a6 625 wo, cI M a7 625 wy, cI M a8 625 my] [.ref h, .int (zI v), .int (zI e)] (fun z (u : Unit) => z = (((nxD (lD A) (lF 255 6 8 A)) v.toNat e.toNat : Nat) : Int) ∧ 0 ≤ z ∧ z < 32) (fun u => [cO 11 h [.ref a0, .ref a1, .ref a2, .ref a3, .ref a4, .ref a5, .ref a6, .ref a7, .ref a8], cI M a0 1280 A, cZ M a1 3 hs, cI M a2 9 ht, cI M a3 9 bf, cI M a4 9 cu, cI M a5 32 fr, cI M a6 625 wo, cI M a7 625 wy, cI M a8 625 my]) := by
  refine kCI.of [(0, .ref h), (1, .int (zI v)), (2, .int (zI e))] (by decide) (Nat.le_of_ble_eq_true rfl) rfl (fun E gg hret => ?_)
  refine z_aload_n (pc := 0) 0 gg dX11_next_0 rfl rfl ?_
  refine z_get (pc := 1) 0 gg fl_X11_7 dX11_next_1 rfl rfl ?_
  refine z_sipush (pc := 4) gg dX11_next_4 (by decide +kernel) ?_
  refine z_bipush (pc := 7) gg dX11_next_7 (by decide +kernel) ?_
  refine z_iload_n (pc := 9) 1 gg dX11_next_9 rfl rfl ?_
  refine z_iconst (pc := 10) gg dX11_next_10 ?_
  refine z_idivn (pc := 11) gg dX11_next_11 (by omega) (by omega) (by omega) (by omega) ?_
  refine z_imul (pc := 12) gg dX11_next_12 ?_
  refine z_iadd (pc := 13) gg dX11_next_13 ?_
  refine z_iload_n (pc := 14) 2 gg dX11_next_14 rfl rfl ?_
  refine z_iadd (pc := 15) gg dX11_next_15 ?_
  refine z_iald (pc := 16) 1 ((250 + (6 * (v.toNat / 4))) + e.toNat) gg dX11_next_16 rfl (by omega) (by omega) (by decide) ?_
  refine z_top (fun to h_to => ?_)
  have htb := hL (v.toNat / 4 * 4 + e.toNat) (by omega)
  rw [lD_ve (by omega) (by omega), ← h_to] at htb
  refine z_istore_n (pc := 17) [(3, .int (zI to)), (0, .ref h), (1, .int (zI v)), (2, .int (zI e))] gg dX11_next_17 rfl (Nat.le_of_ble_eq_true rfl) rfl ?_
  refine z_aload_n (pc := 18) 1 gg dX11_next_18 rfl rfl ?_
  refine z_get (pc := 19) 0 gg fl_X11_7 dX11_next_19 rfl rfl ?_
  refine z_sipush (pc := 22) gg dX11_next_22 (by decide +kernel) ?_
  refine z_bipush (pc := 25) gg dX11_next_25 (by decide +kernel) ?_
  refine z_iload_n (pc := 27) 0 gg dX11_next_27 rfl rfl ?_
  refine z_imul (pc := 28) gg dX11_next_28 ?_
  refine z_iadd (pc := 29) gg dX11_next_29 ?_
  refine z_iconst (pc := 30) gg dX11_next_30 ?_
  refine z_iadd (pc := 31) gg dX11_next_31 ?_
  refine z_iald (pc := 32) 1 ((250 + (6 * to.toNat)) + 5) gg dX11_next_32 rfl (by omega) (by omega) (by decide) ?_
  refine z_top (fun wt h_wt => ?_)
  have hwb := hWt to.toNat (by omega)
  rw [lF255 (by omega), ← h_wt] at hwb
  refine z_iconst (pc := 33) gg dX11_next_33 ?_
  refine z_icmp_ne (pc := 34) 41 gg dX11_next_34 (by decide) ⟨by omega, by omega⟩ ⟨by omega, by omega⟩ (fun h34 => ?_) (fun h34 => ?_)
  · refine z_iconst (pc := 41) gg dX11_next_41 ?_
    refine z_istore (pc := 42) [(4, .int (zI 1)), (3, .int (zI to)), (0, .ref h), (1, .int (zI v)), (2, .int (zI e))] gg dX11_next_42 (Nat.le_of_ble_eq_true rfl) rfl ?_
    refine z_iload_n (pc := 44) 4 gg dX11_next_44 rfl rfl ?_
    refine z_iconst (pc := 45) gg dX11_next_45 ?_
    refine z_icmp_ne (pc := 46) 53 gg dX11_next_46 (by decide) ⟨by omega, by omega⟩ ⟨by omega, by omega⟩ (fun h46 => ?_) (fun h46 => ?_)
    · refine z_iload_n (pc := 53) 3 gg dX11_next_53 rfl rfl ?_
      refine z_iconst (pc := 54) gg dX11_next_54 ?_
      refine z_iremn (pc := 55) gg dX11_next_55 (by omega) (by omega) (by omega) (by omega) ?_
      refine z_iload (pc := 56) 0 gg dX11_next_56 rfl ?_
      refine z_icmp_le (pc := 58) 70 gg dX11_next_58 (by decide) ⟨by omega, by omega⟩ ⟨by omega, by omega⟩ (fun h58 => ?_) (fun h58 => ?_)
      · refine z_iconst (pc := 70) gg dX11_next_70 ?_
        refine z_istore (pc := 71) [(5, .int (zI 0)), (4, .int (zI 1)), (3, .int (zI to)), (0, .ref h), (1, .int (zI v)), (2, .int (zI e))] gg dX11_next_71 (Nat.le_of_ble_eq_true rfl) rfl ?_
        refine z_iconst (pc := 73) gg dX11_next_73 ?_
        refine z_iload_n (pc := 74) 2 gg dX11_next_74 rfl rfl ?_
        refine z_imul (pc := 75) gg dX11_next_75 ?_
        refine z_iload (pc := 76) 0 gg dX11_next_76 rfl ?_
        refine z_iadd (pc := 78) gg dX11_next_78 ?_
        exact hret ((4 * to) + 0) () 79 _ _ _ (Nat.le_of_ble_eq_true rfl) (Nat.le_of_ble_eq_true rfl) dX11_next_79 rfl (by
      have q := nxD_of (dl := lD A) (dw := lF 255 6 8 A) (Q := v.toNat) (e := e.toNat) (to := to) (w := wt) (d := 0) (by rw [lD_ve (by omega) (by omega)]; exact h_to) htb (by rw [lF255 (by omega)]; exact h_wt) hwb (by omega) (by omega)
      omega)
      · refine z_iload_n (pc := 61) 3 gg dX11_next_61 rfl rfl ?_
        refine z_iconst (pc := 62) gg dX11_next_62 ?_
        refine z_iremn (pc := 63) gg dX11_next_63 (by omega) (by omega) (by omega) (by omega) ?_
        refine z_iload (pc := 64) 0 gg dX11_next_64 rfl ?_
        refine z_isub (pc := 66) gg dX11_next_66 ?_
        refine z_goto (pc := 67) 71 gg dX11_next_67 (by decide) ?_
        refine z_istore (pc := 71) [(5, .int (zI ((v % 4) - 1))), (4, .int (zI 1)), (3, .int (zI to)), (0, .ref h), (1, .int (zI v)), (2, .int (zI e))] gg dX11_next_71 (Nat.le_of_ble_eq_true rfl) rfl ?_
        refine z_iconst (pc := 73) gg dX11_next_73 ?_
        refine z_iload_n (pc := 74) 2 gg dX11_next_74 rfl rfl ?_
        refine z_imul (pc := 75) gg dX11_next_75 ?_
        refine z_iload (pc := 76) 0 gg dX11_next_76 rfl ?_
        refine z_iadd (pc := 78) gg dX11_next_78 ?_
        exact hret ((4 * to) + ((v % 4) - 1)) () 79 _ _ _ (Nat.le_of_ble_eq_true rfl) (Nat.le_of_ble_eq_true rfl) dX11_next_79 rfl (by
      have q := nxD_of (dl := lD A) (dw := lF 255 6 8 A) (Q := v.toNat) (e := e.toNat) (to := to) (w := wt) (d := ((v % 4) - 1)) (by rw [lD_ve (by omega) (by omega)]; exact h_to) htb (by rw [lF255 (by omega)]; exact h_wt) hwb (by omega) (by omega)
      omega)
    · refine z_iconst (pc := 49) gg dX11_next_49 ?_
      refine z_goto (pc := 50) 71 gg dX11_next_50 (by decide) ?_
      refine z_istore (pc := 71) [(5, .int (zI 3)), (4, .int (zI 1)), (3, .int (zI to)), (0, .ref h), (1, .int (zI v)), (2, .int (zI e))] gg dX11_next_71 (Nat.le_of_ble_eq_true rfl) rfl ?_
      refine z_iconst (pc := 73) gg dX11_next_73 ?_
      refine z_iload_n (pc := 74) 2 gg dX11_next_74 rfl rfl ?_
      refine z_imul (pc := 75) gg dX11_next_75 ?_
      refine z_iload (pc := 76) 0 gg dX11_next_76 rfl ?_
      refine z_iadd (pc := 78) gg dX11_next_78 ?_
      exact hret ((4 * to) + 3) () 79 _ _ _ (Nat.le_of_ble_eq_true rfl) (Nat.le_of_ble_eq_true rfl) dX11_next_79 rfl (by
      have q := nxD_of (dl := lD A) (dw := lF 255 6 8 A) (Q := v.toNat) (e := e.toNat) (to := to) (w := wt) (d := 3) (by rw [lD_ve (by omega) (by omega)]; exact h_to) htb (by rw [lF255 (by omega)]; exact h_wt) hwb (by omega) (by omega)
      omega)
  · refine z_iconst (pc := 37) gg dX11_next_37 ?_
    refine z_goto (pc := 38) 42 gg dX11_next_38 (by decide) ?_
    refine z_istore (pc := 42) [(4, .int (zI 2)), (3, .int (zI to)), (0, .ref h), (1, .int (zI v)), (2, .int (zI e))] gg dX11_next_42 (Nat.le_of_ble_eq_true rfl) rfl ?_
    refine z_iload_n (pc := 44) 4 gg dX11_next_44 rfl rfl ?_
    refine z_iconst (pc := 45) gg dX11_next_45 ?_
    refine z_icmp_ne (pc := 46) 53 gg dX11_next_46 (by decide) ⟨by omega, by omega⟩ ⟨by omega, by omega⟩ (fun h46 => ?_) (fun h46 => ?_)
    · refine z_iload_n (pc := 53) 3 gg dX11_next_53 rfl rfl ?_
      refine z_iconst (pc := 54) gg dX11_next_54 ?_
      refine z_iremn (pc := 55) gg dX11_next_55 (by omega) (by omega) (by omega) (by omega) ?_
      refine z_iload (pc := 56) 0 gg dX11_next_56 rfl ?_
      refine z_icmp_le (pc := 58) 70 gg dX11_next_58 (by decide) ⟨by omega, by omega⟩ ⟨by omega, by omega⟩ (fun h58 => ?_) (fun h58 => ?_)
      · refine z_iconst (pc := 70) gg dX11_next_70 ?_
        refine z_istore (pc := 71) [(5, .int (zI 0)), (4, .int (zI 2)), (3, .int (zI to)), (0, .ref h), (1, .int (zI v)), (2, .int (zI e))] gg dX11_next_71 (Nat.le_of_ble_eq_true rfl) rfl ?_
        refine z_iconst (pc := 73) gg dX11_next_73 ?_
        refine z_iload_n (pc := 74) 2 gg dX11_next_74 rfl rfl ?_
        refine z_imul (pc := 75) gg dX11_next_75 ?_
        refine z_iload (pc := 76) 0 gg dX11_next_76 rfl ?_
        refine z_iadd (pc := 78) gg dX11_next_78 ?_
        exact hret ((4 * to) + 0) () 79 _ _ _ (Nat.le_of_ble_eq_true rfl) (Nat.le_of_ble_eq_true rfl) dX11_next_79 rfl (by
      have q := nxD_of (dl := lD A) (dw := lF 255 6 8 A) (Q := v.toNat) (e := e.toNat) (to := to) (w := wt) (d := 0) (by rw [lD_ve (by omega) (by omega)]; exact h_to) htb (by rw [lF255 (by omega)]; exact h_wt) hwb (by omega) (by omega)
      omega)
      · refine z_iload_n (pc := 61) 3 gg dX11_next_61 rfl rfl ?_
        refine z_iconst (pc := 62) gg dX11_next_62 ?_
        refine z_iremn (pc := 63) gg dX11_next_63 (by omega) (by omega) (by omega) (by omega) ?_
        refine z_iload (pc := 64) 0 gg dX11_next_64 rfl ?_
        refine z_isub (pc := 66) gg dX11_next_66 ?_
        refine z_goto (pc := 67) 71 gg dX11_next_67 (by decide) ?_
        refine z_istore (pc := 71) [(5, .int (zI ((v % 4) - 2))), (4, .int (zI 2)), (3, .int (zI to)), (0, .ref h), (1, .int (zI v)), (2, .int (zI e))] gg dX11_next_71 (Nat.le_of_ble_eq_true rfl) rfl ?_
        refine z_iconst (pc := 73) gg dX11_next_73 ?_
        refine z_iload_n (pc := 74) 2 gg dX11_next_74 rfl rfl ?_
        refine z_imul (pc := 75) gg dX11_next_75 ?_
        refine z_iload (pc := 76) 0 gg dX11_next_76 rfl ?_
        refine z_iadd (pc := 78) gg dX11_next_78 ?_
        exact hret ((4 * to) + ((v % 4) - 2)) () 79 _ _ _ (Nat.le_of_ble_eq_true rfl) (Nat.le_of_ble_eq_true rfl) dX11_next_79 rfl (by
      have q := nxD_of (dl := lD A) (dw := lF 255 6 8 A) (Q := v.toNat) (e := e.toNat) (to := to) (w := wt) (d := ((v % 4) - 2)) (by rw [lD_ve (by omega) (by omega)]; exact h_to) htb (by rw [lF255 (by omega)]; exact h_wt) hwb (by omega) (by omega)
      omega)
    · refine z_iconst (pc := 49) gg dX11_next_49 ?_
      refine z_goto (pc := 50) 71 gg dX11_next_50 (by decide) ?_
      refine z_istore (pc := 71) [(5, .int (zI 3)), (4, .int (zI 2)), (3, .int (zI to)), (0, .ref h), (1, .int (zI v)), (2, .int (zI e))] gg dX11_next_71 (Nat.le_of_ble_eq_true rfl) rfl ?_
      refine z_iconst (pc := 73) gg dX11_next_73 ?_
      refine z_iload_n (pc := 74) 2 gg dX11_next_74 rfl rfl ?_
      refine z_imul (pc := 75) gg dX11_next_75 ?_
      refine z_iload (pc := 76) 0 gg dX11_next_76 rfl ?_
      refine z_iadd (pc := 78) gg dX11_next_78 ?_
      exact hret ((4 * to) + 3) () 79 _ _ _ (Nat.le_of_ble_eq_true rfl) (Nat.le_of_ble_eq_true rfl) dX11_next_79 rfl (by
      have q := nxD_of (dl := lD A) (dw := lF 255 6 8 A) (Q := v.toNat) (e := e.toNat) (to := to) (w := wt) (d := 3) (by rw [lD_ve (by omega) (by omega)]; exact h_to) htb (by rw [lF255 (by omega)]; exact h_wt) hwb (by omega) (by omega)
      omega)
set_option maxHeartbeats 4000000 in
set_option maxRecDepth 100000 in
theorem c_m_isBad (M : KM) (h a0 a1 a2 a3 a4 a5 a6 a7 a8 : Nat) (A hs ht bf cu fr wo wy my : Nat → Int) (v : Int) (hv : 0 ≤ v ∧ v < 32) (hFd : ∀ j, j < 8 → lF 254 6 8 A j = 0 ∨ lF 254 6 8 A j = 1) : kCI M yX11_isBad cX11_isBad 2 .boolean 0 0 0 [cO 11 h [.ref a0, .ref a1, .ref a2, .ref a3, .ref a4, .ref a5, .ref a6, .ref a7, .ref a8], cI M a0 1280 A, cZ M a1 3 hs, cI M a2 9 ht, cI M a3 9 bf, cI M a4 9 cu, cI M a5 32 fr, cI M a6 625 wo, cI M a7 625 wy, cI M a8 625 my] [.ref h, .int (zI v)] (fun z (u : Unit) => (z = 1 ∧ (bdD (lF 254 6 8 A)) v.toNat) ∨ (z = 0 ∧ ¬ (bdD (lF 254 6 8 A)) v.toNat)) (fun u => [cO 11 h [.ref a0, .ref a1, .ref a2, .ref a3, .ref a4, .ref a5, .ref a6, .ref a7, .ref a8], cI M a0 1280 A, cZ M a1 3 hs, cI M a2 9 ht, cI M a3 9 bf, cI M a4 9 cu, cI M a5 32 fr, cI M a6 625 wo, cI M a7 625 wy, cI M a8 625 my]) := by
  refine kCI.of [(0, .ref h), (1, .int (zI v))] (by decide) (Nat.le_of_ble_eq_true rfl) rfl (fun E gg hret => ?_)
  refine z_aload_n (pc := 0) 0 gg dX11_isBad_0 rfl rfl ?_
  refine z_get (pc := 1) 0 gg fl_X11_7 dX11_isBad_1 rfl rfl ?_
  refine z_sipush (pc := 4) gg dX11_isBad_4 (by decide +kernel) ?_
  refine z_bipush (pc := 7) gg dX11_isBad_7 (by decide +kernel) ?_
  refine z_iload_n (pc := 9) 1 gg dX11_isBad_9 rfl rfl ?_
  refine z_iconst (pc := 10) gg dX11_isBad_10 ?_
  refine z_idivn (pc := 11) gg dX11_isBad_11 (by omega) (by omega) (by omega) (by omega) ?_
  refine z_imul (pc := 12) gg dX11_isBad_12 ?_
  refine z_iadd (pc := 13) gg dX11_isBad_13 ?_
  refine z_iconst (pc := 14) gg dX11_isBad_14 ?_
  refine z_iadd (pc := 15) gg dX11_isBad_15 ?_
  refine z_iald (pc := 16) 1 ((250 + (6 * (v.toNat / 4))) + 4) gg dX11_isBad_16 rfl (by omega) (by omega) (by decide) ?_
  refine z_top (fun fd h_fd => ?_)
  have hfb := hFd (v.toNat / 4) (by omega)
  have hfe : lF 254 6 8 A (v.toNat / 4) = fd := by rw [lF254 (by omega)]; exact h_fd.symm
  rw [hfe] at hfb
  refine z_iconst (pc := 17) gg dX11_isBad_17 ?_
  refine z_icmp_ne (pc := 18) 32 gg dX11_isBad_18 (by decide) ⟨by omega, by omega⟩ ⟨by omega, by omega⟩ (fun h18 => ?_) (fun h18 => ?_)
  · refine z_iconst (pc := 32) gg dX11_isBad_32 ?_
    exact hret 0 () 33 _ _ _ (Nat.le_of_ble_eq_true rfl) (Nat.le_of_ble_eq_true rfl) dX11_isBad_33 (zB01 (by omega)) (Or.inr ⟨rfl, by unfold bdD; rw [hfe]; omega⟩)
  · refine z_iload_n (pc := 21) 1 gg dX11_isBad_21 rfl rfl ?_
    refine z_iconst (pc := 22) gg dX11_isBad_22 ?_
    refine z_iremn (pc := 23) gg dX11_isBad_23 (by omega) (by omega) (by omega) (by omega) ?_
    refine z_iconst (pc := 24) gg dX11_isBad_24 ?_
    refine z_icmp_lt (pc := 25) 32 gg dX11_isBad_25 (by decide) ⟨by omega, by omega⟩ ⟨by omega, by omega⟩ (fun h25 => ?_) (fun h25 => ?_)
    · refine z_iconst (pc := 32) gg dX11_isBad_32 ?_
      exact hret 0 () 33 _ _ _ (Nat.le_of_ble_eq_true rfl) (Nat.le_of_ble_eq_true rfl) dX11_isBad_33 (zB01 (by omega)) (Or.inr ⟨rfl, by unfold bdD; rw [hfe]; omega⟩)
    · refine z_iconst (pc := 28) gg dX11_isBad_28 ?_
      refine z_goto (pc := 29) 33 gg dX11_isBad_29 (by decide) ?_
      exact hret 1 () 33 _ _ _ (Nat.le_of_ble_eq_true rfl) (Nat.le_of_ble_eq_true rfl) dX11_isBad_33 (zB01 (by omega)) (Or.inl ⟨rfl, by unfold bdD; rw [hfe]; omega⟩)
set_option maxHeartbeats 4000000 in
set_option maxRecDepth 100000 in
theorem c_m_onward (M : KM) (h a0 a1 a2 a3 a4 a5 a6 a7 a8 : Nat) (A hs ht bf cu fr wo wy my : Nat → Int) (v e : Int) (hv : 0 ≤ v ∧ v < 32) (he : 0 ≤ e ∧ e < 4) (hL : ∀ j, j < 32 → 0 ≤ lD A j ∧ lD A j < 8) (hWt : ∀ j, j < 8 → lF 255 6 8 A j = 0 ∨ lF 255 6 8 A j = 1) (hFd : ∀ j, j < 8 → lF 254 6 8 A j = 0 ∨ lF 254 6 8 A j = 1) (hfr : ∀ k, k < 32 → -1 ≤ fr k ∧ fr k ≤ 32 ∧ fr k ≠ 0) : kCI M yX11_onward cX11_onward 4 .int 1 0 0 [cO 11 h [.ref a0, .ref a1, .ref a2, .ref a3, .ref a4, .ref a5, .ref a6, .ref a7, .ref a8], cI M a0 1280 A, cZ M a1 3 hs, cI M a2 9 ht, cI M a3 9 bf, cI M a4 9 cu, cI M a5 32 fr, cI M a6 625 wo, cI M a7 625 wy, cI M a8 625 my] [.ref h, .int (zI v), .int (zI e)] (fun z (u : Unit) => onF (nxD (lD A) (lF 255 6 8 A)) (bdD (lF 254 6 8 A)) fr v.toNat e.toNat z) (fun u => [cO 11 h [.ref a0, .ref a1, .ref a2, .ref a3, .ref a4, .ref a5, .ref a6, .ref a7, .ref a8], cI M a0 1280 A, cZ M a1 3 hs, cI M a2 9 ht, cI M a3 9 bf, cI M a4 9 cu, cI M a5 32 fr, cI M a6 625 wo, cI M a7 625 wy, cI M a8 625 my]) := by
  refine kCI.of [(0, .ref h), (1, .int (zI v)), (2, .int (zI e))] (by decide) (Nat.le_of_ble_eq_true rfl) rfl (fun E gg hret => ?_)
  refine z_aload_n (pc := 0) 0 gg dX11_onward_0 rfl rfl ?_
  refine z_iload_n (pc := 1) 1 gg dX11_onward_1 rfl rfl ?_
  refine z_iload_n (pc := 2) 2 gg dX11_onward_2 rfl rfl ?_
  refine z_callWi (pc := 3) (As := [.int (zI v), .int (zI e)]) (st := []) gg (c_m_next M h a0 a1 a2 a3 a4 a5 a6 a7 a8 A hs ht bf cu fr wo wy my v e (by first | assumption | omega | exact ⟨by omega, by omega⟩) (by first | assumption | omega | exact ⟨by omega, by omega⟩) hL hWt) yv_11_next ml_X11_80 dX11_onward_3 (by decide) (Nat.le_of_ble_eq_true rfl) (Nat.le_of_ble_eq_true rfl) (Nat.le_of_ble_eq_true rfl) rfl rfl rfl (fun z3 u3 hz3 => ?_)
  have en : z3.toNat = (nxD (lD A) (lF 255 6 8 A)) v.toNat e.toNat := by omega
  refine z_istore_n (pc := 6) [(3, .int (zI z3)), (0, .ref h), (1, .int (zI v)), (2, .int (zI e))] gg dX11_onward_6 rfl (Nat.le_of_ble_eq_true rfl) rfl ?_
  refine z_aload_n (pc := 7) 1 gg dX11_onward_7 rfl rfl ?_
  refine z_iload_n (pc := 8) 0 gg dX11_onward_8 rfl rfl ?_
  refine z_callWi (pc := 9) (As := [.int (zI z3)]) (st := []) gg (c_m_isBad M h a0 a1 a2 a3 a4 a5 a6 a7 a8 A hs ht bf cu fr wo wy my z3 (by first | assumption | omega | exact ⟨by omega, by omega⟩) hFd) yv_11_isBad ml_X11_83 dX11_onward_9 (by decide) (Nat.le_of_ble_eq_true rfl) (Nat.le_of_ble_eq_true rfl) (Nat.le_of_ble_eq_true rfl) rfl rfl rfl (fun z9 u9 hz9 => ?_)
  refine z_if_eq (pc := 12) 19 gg dX11_onward_12 (by decide) ⟨by omega, by omega⟩ (fun h12 => ?_) (fun h12 => ?_)
  · refine z_aload_n (pc := 19) 1 gg dX11_onward_19 rfl rfl ?_
    refine z_get (pc := 20) 0 gg fl_X11_26 dX11_onward_20 rfl rfl ?_
    refine z_iload_n (pc := 23) 0 gg dX11_onward_23 rfl rfl ?_
    refine z_iald (pc := 24) 6 z3.toNat gg dX11_onward_24 rfl (by omega) (by omega) (by decide) ?_
    have hf24 := hfr z3.toNat (by omega)
    refine z_if_ge (pc := 25) 32 gg dX11_onward_25 (by decide) ⟨by omega, by omega⟩ (fun h25 => ?_) (fun h25 => ?_)
    · refine z_aload_n (pc := 32) 1 gg dX11_onward_32 rfl rfl ?_
      refine z_get (pc := 33) 0 gg fl_X11_26 dX11_onward_33 rfl rfl ?_
      refine z_iload_n (pc := 36) 0 gg dX11_onward_36 rfl rfl ?_
      refine z_iald (pc := 37) 6 z3.toNat gg dX11_onward_37 rfl (by omega) (by omega) (by decide) ?_
      have hf37 := hfr z3.toNat (by omega)
      refine z_iconst (pc := 38) gg dX11_onward_38 ?_
      refine z_iadd (pc := 39) gg dX11_onward_39 ?_
      exact hret ((fr z3.toNat) + 1) () 40 _ _ _ (Nat.le_of_ble_eq_true rfl) (Nat.le_of_ble_eq_true rfl) dX11_onward_40 rfl (by
      unfold onF
      rw [← en]
      rcases hz9 with q | q
      · omega
      · exact Or.inr (Or.inr ⟨q.2, by omega, rfl⟩))
    · refine z_iconst (pc := 28) gg dX11_onward_28 ?_
      refine z_goto (pc := 29) 40 gg dX11_onward_29 (by decide) ?_
      exact hret (-1) () 40 _ _ _ (Nat.le_of_ble_eq_true rfl) (Nat.le_of_ble_eq_true rfl) dX11_onward_40 rfl (by
      unfold onF
      rw [← en]
      rcases hz9 with q | q
      · omega
      · exact Or.inr (Or.inl ⟨q.2, by omega, rfl⟩))
  · refine z_iconst (pc := 15) gg dX11_onward_15 ?_
    refine z_goto (pc := 16) 40 gg dX11_onward_16 (by decide) ?_
    exact hret 1 () 40 _ _ _ (Nat.le_of_ble_eq_true rfl) (Nat.le_of_ble_eq_true rfl) dX11_onward_40 rfl (by
      unfold onF
      rw [← en]
      rcases hz9 with q | q
      · exact Or.inl ⟨q.2, rfl⟩
      · omega)
set_option maxHeartbeats 4000000 in
set_option maxRecDepth 100000 in
theorem c_m_distances (M : KM) (h a0 a1 a2 a3 a4 a5 a6 a7 a8 : Nat) (A hs ht bf cu fr wo wy my : Nat → Int) (hL : ∀ j, j < 32 → 0 ≤ lD A j ∧ lD A j < 8) (hWt : ∀ j, j < 8 → lF 255 6 8 A j = 0 ∨ lF 255 6 8 A j = 1) (hFd : ∀ j, j < 8 → lF 254 6 8 A j = 0 ∨ lF 254 6 8 A j = 1) : kCV M yX11_distances cX11_distances 5 2 0 0 [cO 11 h [.ref a0, .ref a1, .ref a2, .ref a3, .ref a4, .ref a5, .ref a6, .ref a7, .ref a8], cI M a0 1280 A, cZ M a1 3 hs, cI M a2 9 ht, cI M a3 9 bf, cI M a4 9 cu, cI M a5 32 fr, cI M a6 625 wo, cI M a7 625 wy, cI M a8 625 my] [.ref h] (fun u : Nat → Int => dsF (nxD (lD A) (lF 255 6 8 A)) (bdD (lF 254 6 8 A)) u) (fun u => [cO 11 h [.ref a0, .ref a1, .ref a2, .ref a3, .ref a4, .ref a5, .ref a6, .ref a7, .ref a8], cI M a0 1280 A, cZ M a1 3 hs, cI M a2 9 ht, cI M a3 9 bf, cI M a4 9 cu, cI M a5 32 u, cI M a6 625 wo, cI M a7 625 wy, cI M a8 625 my]) := by
  refine kCV.of [(0, .ref h)] (by decide) (Nat.le_of_ble_eq_true rfl) rfl (fun E gg gn hret => ?_)
  have hn := nxD_lt (dl := lD A) (dw := lF 255 6 8 A) hL
  refine z_iconst (pc := 0) gg dX11_distances_0 ?_
  refine z_istore_n (pc := 1) [(1, .int (zI 0)), (0, .ref h)] gg dX11_distances_1 rfl (Nat.le_of_ble_eq_true rfl) rfl ?_
  have loop2 : ∀ (k2 : Nat) (i : Int) (x : Nat → Int), (0 ≤ i ∧ i ≤ 32) → (∀ j, j < i.toNat → x j = (-1 : Int)) → 32 - i.toNat < k2 → kV M E 5 0 0 [cO 11 h [.ref a0, .ref a1, .ref a2, .ref a3, .ref a4, .ref a5, .ref a6, .ref a7, .ref a8], cI M a0 1280 A, cZ M a1 3 hs, cI M a2 9 ht, cI M a3 9 bf, cI M a4 9 cu, cI M a5 32 x, cI M a6 625 wo, cI M a7 625 wy, cI M a8 625 my] [(1, .int (zI i)), (0, .ref h)] 2 [] := by
    intro k2
    induction k2 with
    | zero => intro i x hi kx hm2; exact absurd hm2 (Nat.not_lt_zero _)
    | succ k2 ih2 =>
      intro i x hi kx hm2
      refine z_iload_n (pc := 2) 0 gg dX11_distances_2 rfl rfl ?_
      refine z_bipush (pc := 3) gg dX11_distances_3 (by decide +kernel) ?_
      refine z_icmp_ge (pc := 5) 21 gg dX11_distances_5 (by decide) ⟨by omega, by omega⟩ ⟨by omega, by omega⟩ (fun h5 => ?_) (fun h5 => ?_)
      · refine z_fun 6 (fun _ => (-1)) [cO 11 h [.ref a0, .ref a1, .ref a2, .ref a3, .ref a4, .ref a5, .ref a6, .ref a7, .ref a8], cI M a0 1280 A, cZ M a1 3 hs, cI M a2 9 ht, cI M a3 9 bf, cI M a4 9 cu, cI M a5 32 (fun _ => (-1)), cI M a6 625 wo, cI M a7 625 wy, cI M a8 625 my] rfl (fun j hj => kx j (by omega)) rfl ?_
        refine z_iconst (pc := 21) gg dX11_distances_21 ?_
        refine z_istore_n (pc := 22) [(1, .int (zI 1)), (0, .ref h)] gg dX11_distances_22 rfl (Nat.le_of_ble_eq_true rfl) rfl ?_
        have loop23 : ∀ (k23 : Nat) (mo : Int) (f0 : Nat → Int), (0 ≤ mo ∧ mo ≤ 1) → (gF (nxD (lD A) (lF 255 6 8 A)) (bdD (lF 254 6 8 A)) f0) → (mo = 0 → ∀ a b, a < 32 → b < 4 → fxF (nxD (lD A) (lF 255 6 8 A)) (bdD (lF 254 6 8 A)) f0 a b) → (2 * phF f0 + mo).toNat < k23 → kV M E 5 0 0 [cO 11 h [.ref a0, .ref a1, .ref a2, .ref a3, .ref a4, .ref a5, .ref a6, .ref a7, .ref a8], cI M a0 1280 A, cZ M a1 3 hs, cI M a2 9 ht, cI M a3 9 bf, cI M a4 9 cu, cI M a5 32 f0, cI M a6 625 wo, cI M a7 625 wy, cI M a8 625 my] [(1, .int (zI mo)), (0, .ref h)] 23 [] := by
          intro k23
          induction k23 with
          | zero => intro mo f0 hmo gf0 hfx hm23; exact absurd hm23 (Nat.not_lt_zero _)
          | succ k23 ih23 =>
            intro mo f0 hmo gf0 hfx hm23
            have p0 := phF_b gf0
            refine z_iload_n (pc := 23) 0 gg dX11_distances_23 rfl rfl ?_
            refine z_if_eq (pc := 24) 105 gg dX11_distances_24 (by decide) ⟨by omega, by omega⟩ (fun h24 => ?_) (fun h24 => ?_)
            · exact hret f0 105 _ _ _ (Nat.le_of_ble_eq_true rfl) (Nat.le_of_ble_eq_true rfl) dX11_distances_105 ⟨gf0, fun a b ha hb => hfx (by omega) a b ha hb⟩
            · refine z_iconst (pc := 27) gg dX11_distances_27 ?_
              refine z_istore_n (pc := 28) [(1, .int (zI 0)), (0, .ref h)] gg dX11_distances_28 rfl (Nat.le_of_ble_eq_true rfl) rfl ?_
              refine z_iconst (pc := 29) gg dX11_distances_29 ?_
              refine z_istore_n (pc := 30) [(2, .int (zI 0)), (1, .int (zI 0)), (0, .ref h)] gg dX11_distances_30 rfl (Nat.le_of_ble_eq_true rfl) rfl ?_
              have loop31 : ∀ (k31 : Nat) (k m : Int) (f : Nat → Int), (0 ≤ k ∧ k ≤ 32) → (0 ≤ m ∧ m ≤ 1) → (gF (nxD (lD A) (lF 255 6 8 A)) (bdD (lF 254 6 8 A)) f) → (phF f + m ≤ phF f0) → (m = 0 → ∀ a b, b < 4 → 4 * a + b < 4 * k.toNat + 0 → fxF (nxD (lD A) (lF 255 6 8 A)) (bdD (lF 254 6 8 A)) f a b) → 32 - k.toNat < k31 → kV M E 5 0 0 [cO 11 h [.ref a0, .ref a1, .ref a2, .ref a3, .ref a4, .ref a5, .ref a6, .ref a7, .ref a8], cI M a0 1280 A, cZ M a1 3 hs, cI M a2 9 ht, cI M a3 9 bf, cI M a4 9 cu, cI M a5 32 f, cI M a6 625 wo, cI M a7 625 wy, cI M a8 625 my] [(2, .int (zI k)), (1, .int (zI m)), (0, .ref h)] 31 [] := by
                intro k31
                induction k31 with
                | zero => intro k m f hk hm1 gf hph hun hm31; exact absurd hm31 (Nat.not_lt_zero _)
                | succ k31 ih31 =>
                  intro k m f hk hm1 gf hph hun hm31
                  have p1 := phF_b gf
                  refine z_iload_n (pc := 31) 0 gg dX11_distances_31 rfl rfl ?_
                  refine z_bipush (pc := 32) gg dX11_distances_32 (by decide +kernel) ?_
                  refine z_icmp_ge (pc := 34) 102 gg dX11_distances_34 (by decide) ⟨by omega, by omega⟩ ⟨by omega, by omega⟩ (fun h34 => ?_) (fun h34 => ?_)
                  · refine z_goto (pc := 102) 23 gg dX11_distances_102 (by decide) ?_
                    refine z_lv [(1, .int (zI m)), (0, .ref h)] [1, 2] rfl ?_
                    exact ih23 m f (by omega) gf (fun e a b ha hb => hun e a b hb (by omega)) (by omega)
                  · refine z_iconst (pc := 37) gg dX11_distances_37 ?_
                    refine z_istore_n (pc := 38) [(3, .int (zI 0)), (2, .int (zI k)), (1, .int (zI m)), (0, .ref h)] gg dX11_distances_38 rfl (Nat.le_of_ble_eq_true rfl) rfl ?_
                    have loop39 : ∀ (k39 : Nat) (e m : Int) (f : Nat → Int), (0 ≤ e ∧ e ≤ 4) → (0 ≤ m ∧ m ≤ 1) → (gF (nxD (lD A) (lF 255 6 8 A)) (bdD (lF 254 6 8 A)) f) → (phF f + m ≤ phF f0) → (m = 0 → ∀ a b, b < 4 → 4 * a + b < 4 * k.toNat + e.toNat → fxF (nxD (lD A) (lF 255 6 8 A)) (bdD (lF 254 6 8 A)) f a b) → 4 - e.toNat < k39 → kV M E 5 0 0 [cO 11 h [.ref a0, .ref a1, .ref a2, .ref a3, .ref a4, .ref a5, .ref a6, .ref a7, .ref a8], cI M a0 1280 A, cZ M a1 3 hs, cI M a2 9 ht, cI M a3 9 bf, cI M a4 9 cu, cI M a5 32 f, cI M a6 625 wo, cI M a7 625 wy, cI M a8 625 my] [(3, .int (zI e)), (2, .int (zI k)), (1, .int (zI m)), (0, .ref h)] 39 [] := by
                      intro k39
                      induction k39 with
                      | zero => intro e m f he hm1 gf hph hun hm39; exact absurd hm39 (Nat.not_lt_zero _)
                      | succ k39 ih39 =>
                        intro e m f he hm1 gf hph hun hm39
                        refine z_iload_n (pc := 39) 0 gg dX11_distances_39 rfl rfl ?_
                        refine z_iconst (pc := 40) gg dX11_distances_40 ?_
                        refine z_icmp_ge (pc := 41) 96 gg dX11_distances_41 (by decide) ⟨by omega, by omega⟩ ⟨by omega, by omega⟩ (fun h41 => ?_) (fun h41 => ?_)
                        · refine z_iinc (pc := 96) 1 [(2, .int (zI (k + 1))), (3, .int (zI e)), (1, .int (zI m)), (0, .ref h)] gg dX11_distances_96 rfl (Nat.le_of_ble_eq_true rfl) rfl ?_
                          refine z_goto (pc := 99) 31 gg dX11_distances_99 (by decide) ?_
                          refine z_lv [(2, .int (zI (k + 1))), (1, .int (zI m)), (0, .ref h)] [0, 2, 3] rfl ?_
                          exact ih31 (k + 1) m f (by omega) (by omega) gf (by omega) (fun e a b hb hab => hun e a b hb (by omega)) (by omega)
                        · refine z_aload_n (pc := 44) 3 gg dX11_distances_44 rfl rfl ?_
                          refine z_iload_n (pc := 45) 1 gg dX11_distances_45 rfl rfl ?_
                          refine z_iload_n (pc := 46) 0 gg dX11_distances_46 rfl rfl ?_
                          refine z_callWi (pc := 47) (As := [.int (zI k), .int (zI e)]) (st := []) gg (c_m_onward M h a0 a1 a2 a3 a4 a5 a6 a7 a8 A hs ht bf cu f wo wy my k e (by first | assumption | omega | exact ⟨by omega, by omega⟩) (by first | assumption | omega | exact ⟨by omega, by omega⟩) hL hWt hFd (gF_b gf)) yv_11_onward ml_X11_86 dX11_distances_47 (by decide) (Nat.le_of_ble_eq_true rfl) (Nat.le_of_ble_eq_true rfl) (Nat.le_of_ble_eq_true rfl) rfl rfl rfl (fun z47 u47 hz47 => ?_)
                          have ob := onF_b hz47 (gF_b gf) (hn _ _ (by omega) (by omega))
                          have fb := gF_b gf k.toNat (by omega)
                          refine z_istore (pc := 50) [(4, .int (zI z47)), (3, .int (zI e)), (2, .int (zI k)), (1, .int (zI m)), (0, .ref h)] gg dX11_distances_50 (Nat.le_of_ble_eq_true rfl) rfl ?_
                          refine z_iload (pc := 52) 0 gg dX11_distances_52 rfl ?_
                          refine z_if_lt (pc := 54) 90 gg dX11_distances_54 (by decide) ⟨by omega, by omega⟩ (fun h54 => ?_) (fun h54 => ?_)
                          · refine z_iinc (pc := 90) 1 [(3, .int (zI (e + 1))), (4, .int (zI z47)), (2, .int (zI k)), (1, .int (zI m)), (0, .ref h)] gg dX11_distances_90 rfl (Nat.le_of_ble_eq_true rfl) rfl ?_
                            refine z_goto (pc := 93) 39 gg dX11_distances_93 (by decide) ?_
                            refine z_lv [(3, .int (zI (e + 1))), (2, .int (zI k)), (1, .int (zI m)), (0, .ref h)] [0, 2, 3, 4] rfl ?_
                            
                            exact ih39 (e + 1) m f (by omega) (by omega) gf (by omega) (fun e0 a b hb hab => by
            by_cases q : 4 * a + b < 4 * k.toNat + e.toNat
            · exact hun e0 a b hb q
            · rw [show a = k.toNat by omega, show b = e.toNat by omega]
              exact onF_fx hz47 (by omega)) (by omega)
                          · refine z_aload_n (pc := 57) 4 gg dX11_distances_57 rfl rfl ?_
                            refine z_get (pc := 58) 0 gg fl_X11_26 dX11_distances_58 rfl rfl ?_
                            refine z_iload_n (pc := 61) 2 gg dX11_distances_61 rfl rfl ?_
                            refine z_iald (pc := 62) 6 k.toNat gg dX11_distances_62 rfl (by omega) (by omega) (by decide) ?_
                            refine z_if_lt (pc := 63) 80 gg dX11_distances_63 (by decide) ⟨by omega, by omega⟩ (fun h63 => ?_) (fun h63 => ?_)
                            · refine z_aload_n (pc := 80) 4 gg dX11_distances_80 rfl rfl ?_
                              refine z_get (pc := 81) 0 gg fl_X11_26 dX11_distances_81 rfl rfl ?_
                              refine z_iload_n (pc := 84) 2 gg dX11_distances_84 rfl rfl ?_
                              refine z_iload (pc := 85) 0 gg dX11_distances_85 rfl ?_
                              refine z_iast (pc := 87) 6 k.toNat [cO 11 h [.ref a0, .ref a1, .ref a2, .ref a3, .ref a4, .ref a5, .ref a6, .ref a7, .ref a8], cI M a0 1280 A, cZ M a1 3 hs, cI M a2 9 ht, cI M a3 9 bf, cI M a4 9 cu, cI M a5 32 (zU f k.toNat z47), cI M a6 625 wo, cI M a7 625 wy, cI M a8 625 my] gg dX11_distances_87 rfl (by omega) (by omega) (by decide) rfl ?_
                              refine z_iconst (pc := 88) gg dX11_distances_88 ?_
                              refine z_istore_n (pc := 89) [(1, .int (zI 1)), (4, .int (zI z47)), (3, .int (zI e)), (2, .int (zI k)), (0, .ref h)] gg dX11_distances_89 rfl (Nat.le_of_ble_eq_true rfl) rfl ?_
                              refine z_iinc (pc := 90) 2 [(3, .int (zI (e + 1))), (1, .int (zI 1)), (4, .int (zI z47)), (2, .int (zI k)), (0, .ref h)] gg dX11_distances_90 rfl (Nat.le_of_ble_eq_true rfl) rfl ?_
                              refine z_goto (pc := 93) 39 gg dX11_distances_93 (by decide) ?_
                              refine z_lv [(3, .int (zI (e + 1))), (2, .int (zI k)), (1, .int (zI 1)), (0, .ref h)] [0, 3, 1, 4] rfl ?_
                              have gu := gF_upd gf (k := k.toNat) (v := z47) (by omega) (by omega) (onF_rch hz47 gf (hn _ _ (by omega) (by omega)) (by omega) (by omega)).2 (onF_rch hz47 gf (hn _ _ (by omega) (by omega)) (by omega) (by omega)).1 (by omega)
                              exact ih39 (e + 1) 1 (zU f k.toNat z47) (by omega) (by omega) gu.1 (by omega) (fun e0 => absurd e0 (by omega)) (by omega)
                            · refine z_aload_n (pc := 66) 4 gg dX11_distances_66 rfl rfl ?_
                              refine z_get (pc := 67) 0 gg fl_X11_26 dX11_distances_67 rfl rfl ?_
                              refine z_iload_n (pc := 70) 2 gg dX11_distances_70 rfl rfl ?_
                              refine z_iald (pc := 71) 6 k.toNat gg dX11_distances_71 rfl (by omega) (by omega) (by decide) ?_
                              refine z_iload (pc := 72) 0 gg dX11_distances_72 rfl ?_
                              refine z_icmp_gt (pc := 74) 80 gg dX11_distances_74 (by decide) ⟨by omega, by omega⟩ ⟨by omega, by omega⟩ (fun h74 => ?_) (fun h74 => ?_)
                              · refine z_aload_n (pc := 80) 4 gg dX11_distances_80 rfl rfl ?_
                                refine z_get (pc := 81) 0 gg fl_X11_26 dX11_distances_81 rfl rfl ?_
                                refine z_iload_n (pc := 84) 2 gg dX11_distances_84 rfl rfl ?_
                                refine z_iload (pc := 85) 0 gg dX11_distances_85 rfl ?_
                                refine z_iast (pc := 87) 6 k.toNat [cO 11 h [.ref a0, .ref a1, .ref a2, .ref a3, .ref a4, .ref a5, .ref a6, .ref a7, .ref a8], cI M a0 1280 A, cZ M a1 3 hs, cI M a2 9 ht, cI M a3 9 bf, cI M a4 9 cu, cI M a5 32 (zU f k.toNat z47), cI M a6 625 wo, cI M a7 625 wy, cI M a8 625 my] gg dX11_distances_87 rfl (by omega) (by omega) (by decide) rfl ?_
                                refine z_iconst (pc := 88) gg dX11_distances_88 ?_
                                refine z_istore_n (pc := 89) [(1, .int (zI 1)), (4, .int (zI z47)), (3, .int (zI e)), (2, .int (zI k)), (0, .ref h)] gg dX11_distances_89 rfl (Nat.le_of_ble_eq_true rfl) rfl ?_
                                refine z_iinc (pc := 90) 2 [(3, .int (zI (e + 1))), (1, .int (zI 1)), (4, .int (zI z47)), (2, .int (zI k)), (0, .ref h)] gg dX11_distances_90 rfl (Nat.le_of_ble_eq_true rfl) rfl ?_
                                refine z_goto (pc := 93) 39 gg dX11_distances_93 (by decide) ?_
                                refine z_lv [(3, .int (zI (e + 1))), (2, .int (zI k)), (1, .int (zI 1)), (0, .ref h)] [0, 3, 1, 4] rfl ?_
                                have gu := gF_upd gf (k := k.toNat) (v := z47) (by omega) (by omega) (onF_rch hz47 gf (hn _ _ (by omega) (by omega)) (by omega) (by omega)).2 (onF_rch hz47 gf (hn _ _ (by omega) (by omega)) (by omega) (by omega)).1 (by omega)
                                exact ih39 (e + 1) 1 (zU f k.toNat z47) (by omega) (by omega) gu.1 (by omega) (fun e0 => absurd e0 (by omega)) (by omega)
                              · refine z_goto (pc := 77) 90 gg dX11_distances_77 (by decide) ?_
                                refine z_iinc (pc := 90) 1 [(3, .int (zI (e + 1))), (4, .int (zI z47)), (2, .int (zI k)), (1, .int (zI m)), (0, .ref h)] gg dX11_distances_90 rfl (Nat.le_of_ble_eq_true rfl) rfl ?_
                                refine z_goto (pc := 93) 39 gg dX11_distances_93 (by decide) ?_
                                refine z_lv [(3, .int (zI (e + 1))), (2, .int (zI k)), (1, .int (zI m)), (0, .ref h)] [0, 2, 3, 4] rfl ?_
                                
                                exact ih39 (e + 1) m f (by omega) (by omega) gf (by omega) (fun e0 a b hb hab => by
            by_cases q : 4 * a + b < 4 * k.toNat + e.toNat
            · exact hun e0 a b hb q
            · rw [show a = k.toNat by omega, show b = e.toNat by omega]
              exact onF_fx hz47 (by omega)) (by omega)
                    exact loop39 _ 0 m f (by omega) (by omega) gf (by omega) (fun e a b hb hab => hun e a b hb (by have : (0 : Int).toNat = 0 := rfl; omega)) (Nat.lt_succ_self _)
              exact loop31 _ 0 0 f0 (by omega) (by omega) gf0 (by omega) (fun _ a b hb hab => absurd hab (by omega)) (Nat.lt_succ_self _)
        exact loop23 _ 1 (fun _ => (-1)) (by omega) (gF_start _ _) (fun e => absurd e (by omega)) (Nat.lt_succ_self _)
      · refine z_aload_n (pc := 8) 1 gg dX11_distances_8 rfl rfl ?_
        refine z_get (pc := 9) 0 gg fl_X11_26 dX11_distances_9 rfl rfl ?_
        refine z_iload_n (pc := 12) 0 gg dX11_distances_12 rfl rfl ?_
        refine z_iconst (pc := 13) gg dX11_distances_13 ?_
        refine z_iast (pc := 14) 6 i.toNat [cO 11 h [.ref a0, .ref a1, .ref a2, .ref a3, .ref a4, .ref a5, .ref a6, .ref a7, .ref a8], cI M a0 1280 A, cZ M a1 3 hs, cI M a2 9 ht, cI M a3 9 bf, cI M a4 9 cu, cI M a5 32 (zU x i.toNat (-1)), cI M a6 625 wo, cI M a7 625 wy, cI M a8 625 my] gg dX11_distances_14 rfl (by omega) (by omega) (by decide) rfl ?_
        refine z_iinc (pc := 15) 0 [(1, .int (zI (i + 1))), (0, .ref h)] gg dX11_distances_15 rfl (Nat.le_of_ble_eq_true rfl) rfl ?_
        refine z_goto (pc := 18) 2 gg dX11_distances_18 (by decide) ?_
        exact ih2 (i + 1) (zU x i.toNat (-1)) (by omega) (zU_eq (g := fun _ => (-1)) (by omega) kx rfl) (by omega)
  exact loop2 _ 0 fr (by omega) (fun j hj => absurd hj (by omega)) (Nat.lt_succ_self _)
set_option maxHeartbeats 4000000 in
set_option maxRecDepth 100000 in
theorem c_m_badRow_no (M : KM) (h a0 a1 a2 a3 a4 a5 a6 a7 a8 : Nat) (A hs ht bf cu fr wo wy my : Nat → Int) (hL : ∀ j, j < 32 → 0 ≤ lD A j ∧ lD A j < 8) (hWt : ∀ j, j < 8 → lF 255 6 8 A j = 0 ∨ lF 255 6 8 A j = 1) (hFd : ∀ j, j < 8 → lF 254 6 8 A j = 0 ∨ lF 254 6 8 A j = 1) (hr : noRow (nxD (lD A) (lF 255 6 8 A)) (bdD (lF 254 6 8 A))) : kCI M yX11_badRow cX11_badRow 1 .int 3 0 0 [cO 11 h [.ref a0, .ref a1, .ref a2, .ref a3, .ref a4, .ref a5, .ref a6, .ref a7, .ref a8], cI M a0 1280 A, cZ M a1 3 hs, cI M a2 9 ht, cI M a3 9 bf, cI M a4 9 cu, cI M a5 32 fr, cI M a6 625 wo, cI M a7 625 wy, cI M a8 625 my] [.ref h] (fun z (u : Nat → Int) => z = -1) (fun u => [cO 11 h [.ref a0, .ref a1, .ref a2, .ref a3, .ref a4, .ref a5, .ref a6, .ref a7, .ref a8], cI M a0 1280 A, cZ M a1 3 hs, cI M a2 9 ht, cI M a3 9 bf, cI M a4 9 cu, cI M a5 32 u, cI M a6 625 wo, cI M a7 625 wy, cI M a8 625 my]) := by
  refine kCI.of [(0, .ref h)] (by decide) (Nat.le_of_ble_eq_true rfl) rfl (fun E gg hret => ?_)
  refine z_aload_n (pc := 0) 0 gg dX11_badRow_0 rfl rfl ?_
  refine z_callWv (pc := 1) (As := []) (st := []) gg (c_m_distances M h a0 a1 a2 a3 a4 a5 a6 a7 a8 A hs ht bf cu fr wo wy my hL hWt hFd) yv_11_distances ml_X11_89 dX11_badRow_1 (by decide) (Nat.le_of_ble_eq_true rfl) (Nat.le_of_ble_eq_true rfl) (Nat.le_of_ble_eq_true rfl) rfl rfl rfl (fun u1 hz1 => ?_)
  refine z_aload_n (pc := 4) 0 gg dX11_badRow_4 rfl rfl ?_
  refine z_get (pc := 5) 0 gg fl_X11_26 dX11_badRow_5 rfl rfl ?_
  refine z_iconst (pc := 8) gg dX11_badRow_8 ?_
  refine z_iald (pc := 9) 6 0 gg dX11_badRow_9 rfl (by omega) (by omega) (by decide) ?_
  exact hret (u1 0) u1 10 _ _ _ (Nat.le_of_ble_eq_true rfl) (Nat.le_of_ble_eq_true rfl) dX11_badRow_10 rfl (dsF_none hz1 hr)
set_option maxHeartbeats 4000000 in
set_option maxRecDepth 100000 in
theorem c_m_badRow_ok (M : KM) (h a0 a1 a2 a3 a4 a5 a6 a7 a8 : Nat) (A hs ht bf cu fr wo wy my : Nat → Int) (L : Nat) (ev : Nat → Nat) (hL : ∀ j, j < 32 → 0 ≤ lD A j ∧ lD A j < 8) (hWt : ∀ j, j < 8 → lF 255 6 8 A j = 0 ∨ lF 255 6 8 A j = 1) (hFd : ∀ j, j < 8 → lF 254 6 8 A j = 0 ∨ lF 254 6 8 A j = 1) (hr : isRow (nxD (lD A) (lF 255 6 8 A)) (bdD (lF 254 6 8 A)) L ev) : kCI M yX11_badRow cX11_badRow 1 .int 3 0 0 [cO 11 h [.ref a0, .ref a1, .ref a2, .ref a3, .ref a4, .ref a5, .ref a6, .ref a7, .ref a8], cI M a0 1280 A, cZ M a1 3 hs, cI M a2 9 ht, cI M a3 9 bf, cI M a4 9 cu, cI M a5 32 fr, cI M a6 625 wo, cI M a7 625 wy, cI M a8 625 my] [.ref h] (fun z (u : Nat → Int) => z = L) (fun u => [cO 11 h [.ref a0, .ref a1, .ref a2, .ref a3, .ref a4, .ref a5, .ref a6, .ref a7, .ref a8], cI M a0 1280 A, cZ M a1 3 hs, cI M a2 9 ht, cI M a3 9 bf, cI M a4 9 cu, cI M a5 32 u, cI M a6 625 wo, cI M a7 625 wy, cI M a8 625 my]) := by
  refine kCI.of [(0, .ref h)] (by decide) (Nat.le_of_ble_eq_true rfl) rfl (fun E gg hret => ?_)
  refine z_aload_n (pc := 0) 0 gg dX11_badRow_0 rfl rfl ?_
  refine z_callWv (pc := 1) (As := []) (st := []) gg (c_m_distances M h a0 a1 a2 a3 a4 a5 a6 a7 a8 A hs ht bf cu fr wo wy my hL hWt hFd) yv_11_distances ml_X11_89 dX11_badRow_1 (by decide) (Nat.le_of_ble_eq_true rfl) (Nat.le_of_ble_eq_true rfl) (Nat.le_of_ble_eq_true rfl) rfl rfl rfl (fun u1 hz1 => ?_)
  refine z_aload_n (pc := 4) 0 gg dX11_badRow_4 rfl rfl ?_
  refine z_get (pc := 5) 0 gg fl_X11_26 dX11_badRow_5 rfl rfl ?_
  refine z_iconst (pc := 8) gg dX11_badRow_8 ?_
  refine z_iald (pc := 9) 6 0 gg dX11_badRow_9 rfl (by omega) (by omega) (by decide) ?_
  exact hret (u1 0) u1 10 _ _ _ (Nat.le_of_ble_eq_true rfl) (Nat.le_of_ble_eq_true rfl) dX11_badRow_10 rfl (dsF_row hz1 (nxD_lt hL) hr)
set_option maxHeartbeats 4000000 in
set_option maxRecDepth 100000 in
theorem c_m_bad_no (M : KM) (h a0 a1 a2 a3 a4 a5 a6 a7 a8 : Nat) (A hs ht bf cu fr wo wy my : Nat → Int) (x : Int) (hL : ∀ j, j < 32 → 0 ≤ lD A j ∧ lD A j < 8) (hWt : ∀ j, j < 8 → lF 255 6 8 A j = 0 ∨ lF 255 6 8 A j = 1) (hFd : ∀ j, j < 8 → lF 254 6 8 A j = 0 ∨ lF 254 6 8 A j = 1) (hr : noRow (nxD (lD A) (lF 255 6 8 A)) (bdD (lF 254 6 8 A))) (hx : zR x) : kCI M yX11_bad cX11_bad 6 .int 3 0 0 [cO 11 h [.ref a0, .ref a1, .ref a2, .ref a3, .ref a4, .ref a5, .ref a6, .ref a7, .ref a8], cI M a0 1280 A, cZ M a1 3 hs, cI M a2 9 ht, cI M a3 9 bf, cI M a4 9 cu, cI M a5 32 fr, cI M a6 625 wo, cI M a7 625 wy, cI M a8 625 my] [.ref h, .int (zI x)] (fun z (u : Nat → Int) => z = -1) (fun u => [cO 11 h [.ref a0, .ref a1, .ref a2, .ref a3, .ref a4, .ref a5, .ref a6, .ref a7, .ref a8], cI M a0 1280 A, cZ M a1 3 hs, cI M a2 9 ht, cI M a3 9 bf, cI M a4 9 cu, cI M a5 32 u, cI M a6 625 wo, cI M a7 625 wy, cI M a8 625 my]) := by
  refine kCI.of [(0, .ref h), (1, .int (zI x))] (by decide) (Nat.le_of_ble_eq_true rfl) rfl (fun E gg hret => ?_)
  have r1_hx := hx.1
  have r2_hx := hx.2
  refine z_aload_n (pc := 0) 0 gg dX11_bad_0 rfl rfl ?_
  refine z_callWv (pc := 1) (As := []) (st := []) gg (c_m_distances M h a0 a1 a2 a3 a4 a5 a6 a7 a8 A hs ht bf cu fr wo wy my hL hWt hFd) yv_11_distances ml_X11_89 dX11_bad_1 (by decide) (Nat.le_of_ble_eq_true rfl) (Nat.le_of_ble_eq_true rfl) (Nat.le_of_ble_eq_true rfl) rfl rfl rfl (fun u1 hz1 => ?_)
  have f0 := dsF_none hz1 hr
  refine z_iload_n (pc := 4) 1 gg dX11_bad_4 rfl rfl ?_
  refine z_iconst (pc := 5) gg dX11_bad_5 ?_
  refine z_aload_n (pc := 6) 0 gg dX11_bad_6 rfl rfl ?_
  refine z_get (pc := 7) 0 gg fl_X11_26 dX11_bad_7 rfl rfl ?_
  refine z_iconst (pc := 10) gg dX11_bad_10 ?_
  refine z_iald (pc := 11) 6 0 gg dX11_bad_11 rfl (by omega) (by omega) (by decide) ?_
  refine z_iconst (pc := 12) gg dX11_bad_12 ?_
  refine z_isub (pc := 13) gg dX11_bad_13 ?_
  refine z_callS (pc := 14) (As := [.int (zI x), .int (zI 0), .int (zI ((u1 0) - 1))]) (st := []) gg (c_mIn M x (0 : Int) ((u1 0) - 1) (by first | assumption | omega | exact ⟨by omega, by omega⟩) (by first | assumption | omega | exact ⟨by omega, by omega⟩) (by first | assumption | omega | exact ⟨by omega, by omega⟩)) ys_11_isIn ml_X11_38 dX11_bad_14 (by decide) (Nat.le_of_ble_eq_true rfl) (Nat.le_of_ble_eq_true rfl) (Nat.le_of_ble_eq_true rfl) rfl rfl (fun z14 u14 hz14 => ?_)
  refine z_if_ne (pc := 17) 22 gg dX11_bad_17 (by decide) ⟨by omega, by omega⟩ (fun h17 => ?_) (fun h17 => ?_)
  · exfalso; omega
  · refine z_iconst (pc := 20) gg dX11_bad_20 ?_
    exact hret (-1) u1 21 _ _ _ (Nat.le_of_ble_eq_true rfl) (Nat.le_of_ble_eq_true rfl) dX11_bad_21 rfl (by omega)
set_option maxHeartbeats 4000000 in
set_option maxRecDepth 100000 in
theorem c_m_bad_ok (M : KM) (h a0 a1 a2 a3 a4 a5 a6 a7 a8 : Nat) (A hs ht bf cu fr wo wy my : Nat → Int) (L : Nat) (ev : Nat → Nat) (x : Int) (hL : ∀ j, j < 32 → 0 ≤ lD A j ∧ lD A j < 8) (hWt : ∀ j, j < 8 → lF 255 6 8 A j = 0 ∨ lF 255 6 8 A j = 1) (hFd : ∀ j, j < 8 → lF 254 6 8 A j = 0 ∨ lF 254 6 8 A j = 1) (hr : isRow (nxD (lD A) (lF 255 6 8 A)) (bdD (lF 254 6 8 A)) L ev) (hx : zR x) : kCI M yX11_bad cX11_bad 6 .int 3 0 0 [cO 11 h [.ref a0, .ref a1, .ref a2, .ref a3, .ref a4, .ref a5, .ref a6, .ref a7, .ref a8], cI M a0 1280 A, cZ M a1 3 hs, cI M a2 9 ht, cI M a3 9 bf, cI M a4 9 cu, cI M a5 32 fr, cI M a6 625 wo, cI M a7 625 wy, cI M a8 625 my] [.ref h, .int (zI x)] (fun z (u : Nat → Int) => (0 ≤ x ∧ x < L ∧ z = (ev x.toNat : Int)) ∨ ((x < 0 ∨ (L : Int) ≤ x) ∧ z = -1)) (fun u => [cO 11 h [.ref a0, .ref a1, .ref a2, .ref a3, .ref a4, .ref a5, .ref a6, .ref a7, .ref a8], cI M a0 1280 A, cZ M a1 3 hs, cI M a2 9 ht, cI M a3 9 bf, cI M a4 9 cu, cI M a5 32 u, cI M a6 625 wo, cI M a7 625 wy, cI M a8 625 my]) := by
  refine kCI.of [(0, .ref h), (1, .int (zI x))] (by decide) (Nat.le_of_ble_eq_true rfl) rfl (fun E gg hret => ?_)
  have r1_hx := hx.1
  have r2_hx := hx.2
  have h4 := hr.2.1
  have hpl := pth_lt (nx := (nxD (lD A) (lF 255 6 8 A))) h4 (nxD_lt hL)
  refine z_aload_n (pc := 0) 0 gg dX11_bad_0 rfl rfl ?_
  refine z_callWv (pc := 1) (As := []) (st := []) gg (c_m_distances M h a0 a1 a2 a3 a4 a5 a6 a7 a8 A hs ht bf cu fr wo wy my hL hWt hFd) yv_11_distances ml_X11_89 dX11_bad_1 (by decide) (Nat.le_of_ble_eq_true rfl) (Nat.le_of_ble_eq_true rfl) (Nat.le_of_ble_eq_true rfl) rfl rfl rfl (fun u1 hz1 => ?_)
  have f0 := dsF_row hz1 (nxD_lt hL) hr
  have f1 := gF_b hz1.1 0 (by omega)
  refine z_iload_n (pc := 4) 1 gg dX11_bad_4 rfl rfl ?_
  refine z_iconst (pc := 5) gg dX11_bad_5 ?_
  refine z_aload_n (pc := 6) 0 gg dX11_bad_6 rfl rfl ?_
  refine z_get (pc := 7) 0 gg fl_X11_26 dX11_bad_7 rfl rfl ?_
  refine z_iconst (pc := 10) gg dX11_bad_10 ?_
  refine z_iald (pc := 11) 6 0 gg dX11_bad_11 rfl (by omega) (by omega) (by decide) ?_
  refine z_iconst (pc := 12) gg dX11_bad_12 ?_
  refine z_isub (pc := 13) gg dX11_bad_13 ?_
  refine z_callS (pc := 14) (As := [.int (zI x), .int (zI 0), .int (zI ((u1 0) - 1))]) (st := []) gg (c_mIn M x (0 : Int) ((u1 0) - 1) (by first | assumption | omega | exact ⟨by omega, by omega⟩) (by first | assumption | omega | exact ⟨by omega, by omega⟩) (by first | assumption | omega | exact ⟨by omega, by omega⟩)) ys_11_isIn ml_X11_38 dX11_bad_14 (by decide) (Nat.le_of_ble_eq_true rfl) (Nat.le_of_ble_eq_true rfl) (Nat.le_of_ble_eq_true rfl) rfl rfl (fun z14 u14 hz14 => ?_)
  refine z_if_ne (pc := 17) 22 gg dX11_bad_17 (by decide) ⟨by omega, by omega⟩ (fun h17 => ?_) (fun h17 => ?_)
  · refine z_iconst (pc := 22) gg dX11_bad_22 ?_
    refine z_istore_n (pc := 23) [(2, .int (zI 0)), (0, .ref h), (1, .int (zI x))] gg dX11_bad_23 rfl (Nat.le_of_ble_eq_true rfl) rfl ?_
    refine z_iconst (pc := 24) gg dX11_bad_24 ?_
    refine z_istore_n (pc := 25) [(3, .int (zI 0)), (2, .int (zI 0)), (0, .ref h), (1, .int (zI x))] gg dX11_bad_25 rfl (Nat.le_of_ble_eq_true rfl) rfl ?_
    have loop26 : ∀ (k26 : Nat) (i v : Int), (0 ≤ i ∧ i ≤ x) → (v.toNat = pth (nxD (lD A) (lF 255 6 8 A)) ev i.toNat) → (0 ≤ v ∧ v < 32) → x.toNat - i.toNat < k26 → kV M E 6 0 0 [cO 11 h [.ref a0, .ref a1, .ref a2, .ref a3, .ref a4, .ref a5, .ref a6, .ref a7, .ref a8], cI M a0 1280 A, cZ M a1 3 hs, cI M a2 9 ht, cI M a3 9 bf, cI M a4 9 cu, cI M a5 32 u1, cI M a6 625 wo, cI M a7 625 wy, cI M a8 625 my] [(3, .int (zI i)), (2, .int (zI v)), (0, .ref h), (1, .int (zI x))] 26 [] := by
      intro k26
      induction k26 with
      | zero => intro i v hi hp hv hm26; exact absurd hm26 (Nat.not_lt_zero _)
      | succ k26 ih26 =>
        intro i v hi hp hv hm26
        have hev := h4 i.toNat (by omega)
        refine z_aload_n (pc := 26) 2 gg dX11_bad_26 rfl rfl ?_
        refine z_get (pc := 27) 0 gg fl_X11_26 dX11_bad_27 rfl rfl ?_
        refine z_iconst (pc := 30) gg dX11_bad_30 ?_
        refine z_iald (pc := 31) 6 0 gg dX11_bad_31 rfl (by omega) (by omega) (by decide) ?_
        refine z_iload_n (pc := 32) 0 gg dX11_bad_32 rfl rfl ?_
        refine z_isub (pc := 33) gg dX11_bad_33 ?_
        refine z_istore (pc := 34) [(4, .int (zI ((u1 0) - i))), (3, .int (zI i)), (2, .int (zI v)), (0, .ref h), (1, .int (zI x))] gg dX11_bad_34 (Nat.le_of_ble_eq_true rfl) rfl ?_
        refine z_iconst (pc := 36) gg dX11_bad_36 ?_
        refine z_istore (pc := 37) [(5, .int (zI 0)), (4, .int (zI ((u1 0) - i))), (3, .int (zI i)), (2, .int (zI v)), (0, .ref h), (1, .int (zI x))] gg dX11_bad_37 (Nat.le_of_ble_eq_true rfl) rfl ?_
        have loop39 : ∀ (k39 : Nat) (e : Int), (0 ≤ e ∧ e ≤ ev i.toNat) → 4 - e.toNat < k39 → kV M E 6 0 0 [cO 11 h [.ref a0, .ref a1, .ref a2, .ref a3, .ref a4, .ref a5, .ref a6, .ref a7, .ref a8], cI M a0 1280 A, cZ M a1 3 hs, cI M a2 9 ht, cI M a3 9 bf, cI M a4 9 cu, cI M a5 32 u1, cI M a6 625 wo, cI M a7 625 wy, cI M a8 625 my] [(5, .int (zI e)), (4, .int (zI ((u1 0) - i))), (3, .int (zI i)), (2, .int (zI v)), (0, .ref h), (1, .int (zI x))] 39 [] := by
          intro k39
          induction k39 with
          | zero => intro e he hm39; exact absurd hm39 (Nat.not_lt_zero _)
          | succ k39 ih39 =>
            intro e he hm39
            refine z_aload_n (pc := 39) 4 gg dX11_bad_39 rfl rfl ?_
            refine z_iload_n (pc := 40) 3 gg dX11_bad_40 rfl rfl ?_
            refine z_iload (pc := 41) 0 gg dX11_bad_41 rfl ?_
            refine z_callWi (pc := 43) (As := [.int (zI v), .int (zI e)]) (st := []) gg (c_m_onward M h a0 a1 a2 a3 a4 a5 a6 a7 a8 A hs ht bf cu u1 wo wy my v e (by first | assumption | omega | exact ⟨by omega, by omega⟩) (by first | assumption | omega | exact ⟨by omega, by omega⟩) hL hWt hFd (gF_b hz1.1)) yv_11_onward ml_X11_86 dX11_bad_43 (by decide) (Nat.le_of_ble_eq_true rfl) (Nat.le_of_ble_eq_true rfl) (Nat.le_of_ble_eq_true rfl) rfl rfl rfl (fun z43 u43 hz43 => ?_)
            have ob := onF_b hz43 (gF_b hz1.1) (nxD_lt hL _ _ (by omega) (by omega))
            rw [hp] at hz43
            refine z_iload (pc := 46) 1 gg dX11_bad_46 rfl ?_
            refine z_icmp_eq (pc := 48) 57 gg dX11_bad_48 (by decide) ⟨by omega, by omega⟩ ⟨by omega, by omega⟩ (fun h48 => ?_) (fun h48 => ?_)
            · have hee : e = ev i.toNat := by
                by_cases q : e.toNat < ev i.toNat
                · have := onF_no hz1 (nxD_lt hL) hr (by omega) q hz43
                  omega
                · omega
              refine z_iload_n (pc := 57) 2 gg dX11_bad_57 rfl rfl ?_
              refine z_iload_n (pc := 58) 5 gg dX11_bad_58 rfl rfl ?_
              refine z_icmp_ne (pc := 59) 65 gg dX11_bad_59 (by decide) ⟨by omega, by omega⟩ ⟨by omega, by omega⟩ (fun h59 => ?_) (fun h59 => ?_)
              · refine z_aload_n (pc := 65) 4 gg dX11_bad_65 rfl rfl ?_
                refine z_iload_n (pc := 66) 3 gg dX11_bad_66 rfl rfl ?_
                refine z_iload (pc := 67) 0 gg dX11_bad_67 rfl ?_
                refine z_callWi (pc := 69) (As := [.int (zI v), .int (zI e)]) (st := []) gg (c_m_next M h a0 a1 a2 a3 a4 a5 a6 a7 a8 A hs ht bf cu u1 wo wy my v e (by first | assumption | omega | exact ⟨by omega, by omega⟩) (by first | assumption | omega | exact ⟨by omega, by omega⟩) hL hWt) yv_11_next ml_X11_80 dX11_bad_69 (by decide) (Nat.le_of_ble_eq_true rfl) (Nat.le_of_ble_eq_true rfl) (Nat.le_of_ble_eq_true rfl) rfl rfl rfl (fun z69 u69 hz69 => ?_)
                refine z_istore_n (pc := 72) [(2, .int (zI z69)), (5, .int (zI e)), (4, .int (zI ((u1 0) - i))), (3, .int (zI i)), (0, .ref h), (1, .int (zI x))] gg dX11_bad_72 rfl (Nat.le_of_ble_eq_true rfl) rfl ?_
                refine z_iinc (pc := 73) 3 [(3, .int (zI (i + 1))), (2, .int (zI z69)), (5, .int (zI e)), (4, .int (zI ((u1 0) - i))), (0, .ref h), (1, .int (zI x))] gg dX11_bad_73 rfl (Nat.le_of_ble_eq_true rfl) rfl ?_
                refine z_goto (pc := 76) 26 gg dX11_bad_76 (by decide) ?_
                refine z_lv [(3, .int (zI (i + 1))), (2, .int (zI z69)), (0, .ref h), (1, .int (zI x))] [0, 1, 4, 5] rfl ?_
                exact ih26 (i + 1) z69 (by omega) (by
          rw [show (i + 1).toNat = i.toNat + 1 by omega]
          show z69.toNat = (nxD (lD A) (lF 255 6 8 A)) (pth (nxD (lD A) (lF 255 6 8 A)) ev i.toNat) (ev i.toNat)
          rw [← hp, show ev i.toNat = e.toNat by omega]
          omega) (by omega) (by omega)
              · refine z_iload (pc := 62) 0 gg dX11_bad_62 rfl ?_
                exact hret e u1 64 _ _ _ (Nat.le_of_ble_eq_true rfl) (Nat.le_of_ble_eq_true rfl) dX11_bad_64 rfl (Or.inl ⟨by omega, by omega, by rw [show x.toNat = i.toNat by omega]; exact hee⟩)
            · refine z_iinc (pc := 51) 0 [(5, .int (zI (e + 1))), (4, .int (zI ((u1 0) - i))), (3, .int (zI i)), (2, .int (zI v)), (0, .ref h), (1, .int (zI x))] gg dX11_bad_51 rfl (Nat.le_of_ble_eq_true rfl) rfl ?_
              refine z_goto (pc := 54) 39 gg dX11_bad_54 (by decide) ?_
              exact ih39 (e + 1) (by
            have : e ≠ ev i.toNat := fun q => by
              have q2 : e.toNat = ev i.toNat := by omega
              rw [q2] at hz43
              have := onF_yes hz1 (nxD_lt hL) hr (by omega) hz43
              omega
            omega) (by omega)
        exact loop39 _ 0 (by omega) (Nat.lt_succ_self _)
    exact loop26 _ 0 0 (by omega) rfl (by omega) (Nat.lt_succ_self _)
  · refine z_iconst (pc := 20) gg dX11_bad_20 ?_
    exact hret (-1) u1 21 _ _ _ (Nat.le_of_ble_eq_true rfl) (Nat.le_of_ble_eq_true rfl) dX11_bad_21 rfl (by omega)
