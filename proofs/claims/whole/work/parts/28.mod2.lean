set_option maxHeartbeats 4000000 in
set_option maxRecDepth 100000 in
theorem c_m_lay_ok (M : KM) (h a0 a1 a2 a3 a4 a5 a6 a7 a8 : Nat) (A hs ht bf cu fr wo wy my : Nat → Int) (f c g u1 u2 : Int) (h0 : 0 ≤ A 0 ∧ A 0 ≤ 6) (h1 : 0 ≤ A 1 ∧ A 1 ≤ 8) (h2 : 0 ≤ A 2 ∧ A 2 ≤ 24) (hfg : ∀ j, j < 6 → (0 ≤ A (10 + (3 * j)) ∧ A (10 + (3 * j)) ≤ 1000000) ∧ (0 ≤ A ((10 + (3 * j)) + 1) ∧ A ((10 + (3 * j)) + 1) ≤ 20) ∧ (A ((10 + (3 * j)) + 2) = 0 ∨ A ((10 + (3 * j)) + 2) = 1)) (hl : ∀ j, j < 8 → 0 ≤ A (30 + j) ∧ A (30 + j) ≤ 100000) (hag : 1 ≤ A 5 ∧ A 5 ≤ 30) (hal : 0 ≤ A 6 ∧ A 6 ≤ 100) (h24 : A 2 < 24) (hg : 10 ≤ g ∧ g ≤ 10000) (hf : 0 ≤ f ∧ f < A 0) (hc : 0 ≤ c ∧ c < A 0) (hu1 : (A ((10 + (3 * f.toNat)) + 2) = 1 ∧ u1 = lyF g) ∨ (A ((10 + (3 * f.toNat)) + 2) = 0 ∧ u1 = 0)) (hu2 : (A ((10 + (3 * c.toNat)) + 2) = 1 ∧ u2 = g - lyF g) ∨ (A ((10 + (3 * c.toNat)) + 2) = 0 ∧ u2 = 0)) (hcan : (f = c ∧ g ≤ A (10 + (3 * f.toNat))) ∨ (f ≠ c ∧ lyF g ≤ A (10 + (3 * f.toNat)) ∧ g - lyF g ≤ A (10 + (3 * c.toNat)))) (hq : g * A 5 / 100 ≤ zS (lF 30 1 8 A) (A 1).toNat) (hr : 100 * (u1 + u2) ≤ A 6 * g) : kCI M yX11_lay cX11_lay 12 .int 2 0 0 [cO 11 h [.ref a0, .ref a1, .ref a2, .ref a3, .ref a4, .ref a5, .ref a6, .ref a7, .ref a8], cI M a0 1280 A, cZ M a1 3 hs, cI M a2 9 ht, cI M a3 9 bf, cI M a4 9 cu, cI M a5 32 fr, cI M a6 625 wo, cI M a7 625 wy, cI M a8 625 my] [.ref h, .int (zI f), .int (zI c), .int (zI g)] (fun z (u : Unit) => z = A 2) (fun u => [cO 11 h [.ref a0, .ref a1, .ref a2, .ref a3, .ref a4, .ref a5, .ref a6, .ref a7, .ref a8], cI M a0 1280 (zU (zU (zU (zU (zU (tkA (zU (zU (zU (zU (zU (zU A (50 + (8 * (A 2).toNat)) g) ((50 + (8 * (A 2).toNat)) + 1) (g * (A 5) / 100)) ((50 + (8 * (A 2).toNat)) + 2) ((lyF g * (A ((10 + (3 * f.toNat)) + 1)) + (g - lyF g) * (A ((10 + (3 * c.toNat)) + 1))) / g)) ((50 + (8 * (A 2).toNat)) + 3) (u1 + u2)) ((50 + (8 * (A 2).toNat)) + 4) f) ((50 + (8 * (A 2).toNat)) + 5) c) (g * (A 5) / 100) (A 1).toNat) ((50 + (8 * (A 2).toNat)) + 6) (dB (lF 30 1 8 A) (g * (A 5) / 100) (A 1).toNat)) ((50 + (8 * (A 2).toNat)) + 7) (-1)) (10 + (3 * f.toNat)) ((A (10 + (3 * f.toNat))) - (lyF g))) (10 + (3 * c.toNat)) (((zU (zU (zU (tkA (zU (zU (zU (zU (zU (zU A (50 + (8 * (A 2).toNat)) g) ((50 + (8 * (A 2).toNat)) + 1) (g * (A 5) / 100)) ((50 + (8 * (A 2).toNat)) + 2) ((lyF g * (A ((10 + (3 * f.toNat)) + 1)) + (g - lyF g) * (A ((10 + (3 * c.toNat)) + 1))) / g)) ((50 + (8 * (A 2).toNat)) + 3) (u1 + u2)) ((50 + (8 * (A 2).toNat)) + 4) f) ((50 + (8 * (A 2).toNat)) + 5) c) (g * (A 5) / 100) (A 1).toNat) ((50 + (8 * (A 2).toNat)) + 6) (dB (lF 30 1 8 A) (g * (A 5) / 100) (A 1).toNat)) ((50 + (8 * (A 2).toNat)) + 7) (-1)) (10 + (3 * f.toNat)) ((A (10 + (3 * f.toNat))) - (lyF g))) (10 + (3 * c.toNat))) - (g - lyF g))) 2 ((A 2) + 1)), cZ M a1 3 hs, cI M a2 9 ht, cI M a3 9 bf, cI M a4 9 cu, cI M a5 32 fr, cI M a6 625 wo, cI M a7 625 wy, cI M a8 625 my]) := by
  refine kCI.of [(0, .ref h), (1, .int (zI f)), (2, .int (zI c)), (3, .int (zI g))] (by decide) (Nat.le_of_ble_eq_true rfl) rfl (fun E gg hret => ?_)
  refine z_aload_n (pc := 0) 0 gg dX11_lay_0 rfl rfl ?_
  refine z_get (pc := 1) 0 gg fl_X11_7 dX11_lay_1 rfl rfl ?_
  refine z_iconst (pc := 4) gg dX11_lay_4 ?_
  refine z_iald (pc := 5) 1 2 gg dX11_lay_5 rfl (by omega) (by omega) (by decide) ?_
  refine z_bipush (pc := 6) gg dX11_lay_6 (by decide +kernel) ?_
  refine z_icmp_eq (pc := 8) 41 gg dX11_lay_8 (by decide) ⟨by omega, by omega⟩ ⟨by omega, by omega⟩ (fun h8 => ?_) (fun h8 => ?_)
  · exfalso; omega
  · refine z_aload_n (pc := 11) 0 gg dX11_lay_11 rfl rfl ?_
    refine z_iload_n (pc := 12) 1 gg dX11_lay_12 rfl rfl ?_
    refine z_iconst (pc := 13) gg dX11_lay_13 ?_
    refine z_callWi (pc := 14) (As := [.int (zI f), .int (zI 0)]) (st := []) gg (c_mOf M h a0 a1 a2 a3 a4 a5 a6 a7 a8 A hs ht bf cu fr wo wy my f 0 (by first | assumption | omega | exact ⟨by omega, by omega⟩) (by first | assumption | omega | exact ⟨by omega, by omega⟩) (by first | assumption | omega | exact ⟨by omega, by omega⟩)) yv_11_isOf ml_X11_42 dX11_lay_14 (by decide) (Nat.le_of_ble_eq_true rfl) (Nat.le_of_ble_eq_true rfl) (Nat.le_of_ble_eq_true rfl) rfl rfl rfl (fun z14 u14 hz14 => ?_)
    refine z_if_eq (pc := 17) 41 gg dX11_lay_17 (by decide) ⟨by omega, by omega⟩ (fun h17 => ?_) (fun h17 => ?_)
    · exfalso; omega
    · refine z_aload_n (pc := 20) 0 gg dX11_lay_20 rfl rfl ?_
      refine z_iload_n (pc := 21) 2 gg dX11_lay_21 rfl rfl ?_
      refine z_iconst (pc := 22) gg dX11_lay_22 ?_
      refine z_callWi (pc := 23) (As := [.int (zI c), .int (zI 0)]) (st := []) gg (c_mOf M h a0 a1 a2 a3 a4 a5 a6 a7 a8 A hs ht bf cu fr wo wy my c 0 (by first | assumption | omega | exact ⟨by omega, by omega⟩) (by first | assumption | omega | exact ⟨by omega, by omega⟩) (by first | assumption | omega | exact ⟨by omega, by omega⟩)) yv_11_isOf ml_X11_42 dX11_lay_23 (by decide) (Nat.le_of_ble_eq_true rfl) (Nat.le_of_ble_eq_true rfl) (Nat.le_of_ble_eq_true rfl) rfl rfl rfl (fun z23 u23 hz23 => ?_)
      refine z_if_eq (pc := 26) 41 gg dX11_lay_26 (by decide) ⟨by omega, by omega⟩ (fun h26 => ?_) (fun h26 => ?_)
      · exfalso; omega
      · refine z_iload_n (pc := 29) 3 gg dX11_lay_29 rfl rfl ?_
        refine z_bipush (pc := 30) gg dX11_lay_30 (by decide +kernel) ?_
        refine z_sipush (pc := 32) gg dX11_lay_32 (by decide +kernel) ?_
        refine z_callS (pc := 35) (As := [.int (zI g), .int (zI 10), .int (zI 10000)]) (st := []) gg (c_mIn M g (10 : Int) (10000 : Int) (by first | assumption | omega | exact ⟨by omega, by omega⟩) (by first | assumption | omega | exact ⟨by omega, by omega⟩) (by first | assumption | omega | exact ⟨by omega, by omega⟩)) ys_11_isIn ml_X11_38 dX11_lay_35 (by decide) (Nat.le_of_ble_eq_true rfl) (Nat.le_of_ble_eq_true rfl) (Nat.le_of_ble_eq_true rfl) rfl rfl (fun z35 u35 hz35 => ?_)
        refine z_if_ne (pc := 38) 43 gg dX11_lay_38 (by decide) ⟨by omega, by omega⟩ (fun h38 => ?_) (fun h38 => ?_)
        · refine z_bipush (pc := 43) gg dX11_lay_43 (by decide +kernel) ?_
          refine z_iconst (pc := 45) gg dX11_lay_45 ?_
          refine z_iload_n (pc := 46) 1 gg dX11_lay_46 rfl rfl ?_
          refine z_imul (pc := 47) gg dX11_lay_47 ?_
          refine z_iadd (pc := 48) gg dX11_lay_48 ?_
          refine z_istore (pc := 49) [(4, .int (zI (10 + (3 * f)))), (0, .ref h), (1, .int (zI f)), (2, .int (zI c)), (3, .int (zI g))] gg dX11_lay_49 (Nat.le_of_ble_eq_true rfl) rfl ?_
          refine z_bipush (pc := 51) gg dX11_lay_51 (by decide +kernel) ?_
          refine z_iconst (pc := 53) gg dX11_lay_53 ?_
          refine z_iload_n (pc := 54) 3 gg dX11_lay_54 rfl rfl ?_
          refine z_imul (pc := 55) gg dX11_lay_55 ?_
          refine z_iadd (pc := 56) gg dX11_lay_56 ?_
          refine z_istore (pc := 57) [(5, .int (zI (10 + (3 * c)))), (4, .int (zI (10 + (3 * f)))), (0, .ref h), (1, .int (zI f)), (2, .int (zI c)), (3, .int (zI g))] gg dX11_lay_57 (Nat.le_of_ble_eq_true rfl) rfl ?_
          have f1 := hfg f.toNat (by omega)
          have f2 := hfg c.toNat (by omega)
          refine z_iconst (pc := 59) gg dX11_lay_59 ?_
          refine z_iload_n (pc := 60) 5 gg dX11_lay_60 rfl rfl ?_
          refine z_imul (pc := 61) gg dX11_lay_61 ?_
          refine z_bipush (pc := 62) gg dX11_lay_62 (by decide +kernel) ?_
          refine z_idivn (pc := 64) gg dX11_lay_64 (by omega) (by omega) (by omega) (by omega) ?_
          refine z_top (fun fa h_fa => ?_)
          have hfa : 0 ≤ fa ∧ fa ≤ g := by omega
          have e_fa : fa = lyF g := by rw [h_fa]; unfold lyF; congr 1; omega
          rw [← e_fa] at hu1 hu2 hcan
          refine z_istore (pc := 65) [(6, .int (zI fa)), (5, .int (zI (10 + (3 * c)))), (4, .int (zI (10 + (3 * f)))), (0, .ref h), (1, .int (zI f)), (2, .int (zI c)), (3, .int (zI g))] gg dX11_lay_65 (Nat.le_of_ble_eq_true rfl) rfl ?_
          refine z_iload_n (pc := 67) 6 gg dX11_lay_67 rfl rfl ?_
          refine z_iload (pc := 68) 0 gg dX11_lay_68 rfl ?_
          refine z_isub (pc := 70) gg dX11_lay_70 ?_
          refine z_top (fun co h_co => ?_)
          rw [← h_co] at hu2 hcan
          refine z_istore (pc := 71) [(7, .int (zI co)), (6, .int (zI fa)), (5, .int (zI (10 + (3 * c)))), (4, .int (zI (10 + (3 * f)))), (0, .ref h), (1, .int (zI f)), (2, .int (zI c)), (3, .int (zI g))] gg dX11_lay_71 (Nat.le_of_ble_eq_true rfl) rfl ?_
          refine z_iload_n (pc := 73) 7 gg dX11_lay_73 rfl rfl ?_
          refine z_aload_n (pc := 74) 4 gg dX11_lay_74 rfl rfl ?_
          refine z_get (pc := 75) 0 gg fl_X11_7 dX11_lay_75 rfl rfl ?_
          refine z_iconst (pc := 78) gg dX11_lay_78 ?_
          refine z_iald (pc := 79) 1 5 gg dX11_lay_79 rfl (by omega) (by omega) (by decide) ?_
          refine z_imul (pc := 80) gg dX11_lay_80 ?_
          have hq1 := ly_q (g := g) (a := A 5) (by omega) hag
          refine z_bipush (pc := 81) gg dX11_lay_81 (by decide +kernel) ?_
          refine z_idivn (pc := 83) gg dX11_lay_83 (by omega) (by omega) (by omega) (by omega) ?_
          refine z_top (fun q h_q => ?_)
          have hqb : 0 ≤ q ∧ q ≤ 3000 := by omega
          rw [← h_q] at hq
          refine z_istore (pc := 84) [(8, .int (zI q)), (7, .int (zI co)), (6, .int (zI fa)), (5, .int (zI (10 + (3 * c)))), (4, .int (zI (10 + (3 * f)))), (0, .ref h), (1, .int (zI f)), (2, .int (zI c)), (3, .int (zI g))] gg dX11_lay_84 (Nat.le_of_ble_eq_true rfl) rfl ?_
          refine z_iload (pc := 86) 2 gg dX11_lay_86 rfl ?_
          refine z_aload_n (pc := 88) 5 gg dX11_lay_88 rfl rfl ?_
          refine z_get (pc := 89) 0 gg fl_X11_7 dX11_lay_89 rfl rfl ?_
          refine z_iload (pc := 92) 4 gg dX11_lay_92 rfl ?_
          refine z_iconst (pc := 94) gg dX11_lay_94 ?_
          refine z_iadd (pc := 95) gg dX11_lay_95 ?_
          refine z_iald (pc := 96) 1 ((10 + (3 * f.toNat)) + 2) gg dX11_lay_96 rfl (by omega) (by omega) (by decide) ?_
          refine z_imul (pc := 97) gg dX11_lay_97 ?_
          refine z_iload (pc := 98) 1 gg dX11_lay_98 rfl ?_
          refine z_aload_n (pc := 100) 5 gg dX11_lay_100 rfl rfl ?_
          refine z_get (pc := 101) 0 gg fl_X11_7 dX11_lay_101 rfl rfl ?_
          refine z_iload (pc := 104) 3 gg dX11_lay_104 rfl ?_
          refine z_iconst (pc := 106) gg dX11_lay_106 ?_
          refine z_iadd (pc := 107) gg dX11_lay_107 ?_
          refine z_iald (pc := 108) 1 ((10 + (3 * c.toNat)) + 2) gg dX11_lay_108 rfl (by omega) (by omega) (by decide) ?_
          refine z_imul (pc := 109) gg dX11_lay_109 ?_
          refine z_iadd (pc := 110) gg dX11_lay_110 ?_
          refine z_top (fun us h_us => ?_)
          have ex1 : fa * A ((10 + (3 * f.toNat)) + 2) = u1 := by
            rcases hu1 with ⟨a, b⟩ | ⟨a, b⟩
            · rw [a, b, Int.mul_one]
            · rw [a, b, Int.mul_zero]
          have ex2 : co * A ((10 + (3 * c.toNat)) + 2) = u2 := by
            rcases hu2 with ⟨a, b⟩ | ⟨a, b⟩
            · rw [a, b, Int.mul_one]
            · rw [a, b, Int.mul_zero]
          have e_us : us = u1 + u2 := by rw [h_us, ex1, ex2]
          have eub : 0 ≤ us ∧ us ≤ g := by omega
          rw [← e_us] at hr
          refine z_istore (pc := 111) [(9, .int (zI us)), (8, .int (zI q)), (7, .int (zI co)), (6, .int (zI fa)), (5, .int (zI (10 + (3 * c)))), (4, .int (zI (10 + (3 * f)))), (0, .ref h), (1, .int (zI f)), (2, .int (zI c)), (3, .int (zI g))] gg dX11_lay_111 (Nat.le_of_ble_eq_true rfl) rfl ?_
          refine z_iload_n (pc := 113) 7 gg dX11_lay_113 rfl rfl ?_
          refine z_iload_n (pc := 114) 8 gg dX11_lay_114 rfl rfl ?_
          refine z_icmp_ne (pc := 115) 137 gg dX11_lay_115 (by decide) ⟨by omega, by omega⟩ ⟨by omega, by omega⟩ (fun h115 => ?_) (fun h115 => ?_)
          · refine z_aload_n (pc := 137) 6 gg dX11_lay_137 rfl rfl ?_
            refine z_get (pc := 138) 0 gg fl_X11_7 dX11_lay_138 rfl rfl ?_
            refine z_iload (pc := 141) 5 gg dX11_lay_141 rfl ?_
            refine z_iald (pc := 143) 1 (10 + (3 * f.toNat)) gg dX11_lay_143 rfl (by omega) (by omega) (by decide) ?_
            refine z_iload (pc := 144) 3 gg dX11_lay_144 rfl ?_
            refine z_icmp_lt (pc := 146) 161 gg dX11_lay_146 (by decide) ⟨by omega, by omega⟩ ⟨by omega, by omega⟩ (fun h146 => ?_) (fun h146 => ?_)
            · exfalso; omega
            · refine z_aload_n (pc := 149) 6 gg dX11_lay_149 rfl rfl ?_
              refine z_get (pc := 150) 0 gg fl_X11_7 dX11_lay_150 rfl rfl ?_
              refine z_iload (pc := 153) 4 gg dX11_lay_153 rfl ?_
              refine z_iald (pc := 155) 1 (10 + (3 * c.toNat)) gg dX11_lay_155 rfl (by omega) (by omega) (by decide) ?_
              refine z_iload (pc := 156) 2 gg dX11_lay_156 rfl ?_
              refine z_icmp_ge (pc := 158) 165 gg dX11_lay_158 (by decide) ⟨by omega, by omega⟩ ⟨by omega, by omega⟩ (fun h158 => ?_) (fun h158 => ?_)
              · refine z_iconst (pc := 165) gg dX11_lay_165 ?_
                refine z_istore (pc := 166) [(10, .int (zI 0)), (9, .int (zI us)), (8, .int (zI q)), (7, .int (zI co)), (6, .int (zI fa)), (5, .int (zI (10 + (3 * c)))), (4, .int (zI (10 + (3 * f)))), (0, .ref h), (1, .int (zI f)), (2, .int (zI c)), (3, .int (zI g))] gg dX11_lay_166 (Nat.le_of_ble_eq_true rfl) rfl ?_
                refine z_iload (pc := 168) 0 gg dX11_lay_168 rfl ?_
                refine z_if_ne (pc := 170) 199 gg dX11_lay_170 (by decide) ⟨by omega, by omega⟩ (fun h170 => ?_) (fun h170 => ?_)
                · exfalso; omega
                · refine z_aload_n (pc := 173) 7 gg dX11_lay_173 rfl rfl ?_
                  refine z_callWi (pc := 174) (As := []) (st := []) gg (c_m_glueLeft M h a0 a1 a2 a3 a4 a5 a6 a7 a8 A hs ht bf cu fr wo wy my (by first | assumption | omega | exact ⟨by omega, by omega⟩)) yv_11_glueLeft ml_X11_55 dX11_lay_174 (by decide) (Nat.le_of_ble_eq_true rfl) (Nat.le_of_ble_eq_true rfl) (Nat.le_of_ble_eq_true rfl) rfl rfl rfl (fun z174 u174 hz174 => ?_)
                  have htb := zS_lo (f := lF 30 1 8 A) (c := 100000) (n := (A 1).toNat) (fun j hj => by rw [lF30 (by omega)]; exact hl j (by omega))
                  refine z_iload (pc := 177) 2 gg dX11_lay_177 rfl ?_
                  refine z_icmp_lt (pc := 179) 199 gg dX11_lay_179 (by decide) ⟨by omega, by omega⟩ ⟨by omega, by omega⟩ (fun h179 => ?_) (fun h179 => ?_)
                  · exfalso; omega
                  · refine z_bipush (pc := 182) gg dX11_lay_182 (by decide +kernel) ?_
                    refine z_iload (pc := 184) 1 gg dX11_lay_184 rfl ?_
                    refine z_imul (pc := 186) gg dX11_lay_186 ?_
                    refine z_aload_n (pc := 187) 7 gg dX11_lay_187 rfl rfl ?_
                    refine z_get (pc := 188) 0 gg fl_X11_7 dX11_lay_188 rfl rfl ?_
                    refine z_bipush (pc := 191) gg dX11_lay_191 (by decide +kernel) ?_
                    refine z_iald (pc := 193) 1 6 gg dX11_lay_193 rfl (by omega) (by omega) (by decide) ?_
                    refine z_iload_n (pc := 194) 10 gg dX11_lay_194 rfl rfl ?_
                    refine z_imul (pc := 195) gg dX11_lay_195 ?_
                    have hm1 := ly_m (g := g) (a := A 6) (by omega) hal
                    refine z_icmp_le (pc := 196) 201 gg dX11_lay_196 (by decide) ⟨by omega, by omega⟩ ⟨by omega, by omega⟩ (fun h196 => ?_) (fun h196 => ?_)
                    · refine z_bipush (pc := 201) gg dX11_lay_201 (by decide +kernel) ?_
                      refine z_bipush (pc := 203) gg dX11_lay_203 (by decide +kernel) ?_
                      refine z_aload_n (pc := 205) 7 gg dX11_lay_205 rfl rfl ?_
                      refine z_get (pc := 206) 0 gg fl_X11_7 dX11_lay_206 rfl rfl ?_
                      refine z_iconst (pc := 209) gg dX11_lay_209 ?_
                      refine z_iald (pc := 210) 1 2 gg dX11_lay_210 rfl (by omega) (by omega) (by decide) ?_
                      refine z_imul (pc := 211) gg dX11_lay_211 ?_
                      refine z_iadd (pc := 212) gg dX11_lay_212 ?_
                      refine z_istore (pc := 213) [(11, .int (zI (50 + (8 * (A 2))))), (10, .int (zI 0)), (9, .int (zI us)), (8, .int (zI q)), (7, .int (zI co)), (6, .int (zI fa)), (5, .int (zI (10 + (3 * c)))), (4, .int (zI (10 + (3 * f)))), (0, .ref h), (1, .int (zI f)), (2, .int (zI c)), (3, .int (zI g))] gg dX11_lay_213 (Nat.le_of_ble_eq_true rfl) rfl ?_
                      refine z_aload_n (pc := 215) 8 gg dX11_lay_215 rfl rfl ?_
                      refine z_get (pc := 216) 0 gg fl_X11_7 dX11_lay_216 rfl rfl ?_
                      refine z_iload (pc := 219) 0 gg dX11_lay_219 rfl ?_
                      refine z_iload_n (pc := 221) 11 gg dX11_lay_221 rfl rfl ?_
                      refine z_iast (pc := 222) 1 (50 + (8 * (A 2).toNat)) [cO 11 h [.ref a0, .ref a1, .ref a2, .ref a3, .ref a4, .ref a5, .ref a6, .ref a7, .ref a8], cI M a0 1280 (zU A (50 + (8 * (A 2).toNat)) g), cZ M a1 3 hs, cI M a2 9 ht, cI M a3 9 bf, cI M a4 9 cu, cI M a5 32 fr, cI M a6 625 wo, cI M a7 625 wy, cI M a8 625 my] gg dX11_lay_222 rfl (by omega) (by omega) (by decide) rfl ?_
                      refine z_aload_n (pc := 223) 8 gg dX11_lay_223 rfl rfl ?_
                      refine z_get (pc := 224) 0 gg fl_X11_7 dX11_lay_224 rfl rfl ?_
                      refine z_iload (pc := 227) 0 gg dX11_lay_227 rfl ?_
                      refine z_iconst (pc := 229) gg dX11_lay_229 ?_
                      refine z_iadd (pc := 230) gg dX11_lay_230 ?_
                      refine z_iload (pc := 231) 3 gg dX11_lay_231 rfl ?_
                      refine z_iast (pc := 233) 1 ((50 + (8 * (A 2).toNat)) + 1) [cO 11 h [.ref a0, .ref a1, .ref a2, .ref a3, .ref a4, .ref a5, .ref a6, .ref a7, .ref a8], cI M a0 1280 (zU (zU A (50 + (8 * (A 2).toNat)) g) ((50 + (8 * (A 2).toNat)) + 1) q), cZ M a1 3 hs, cI M a2 9 ht, cI M a3 9 bf, cI M a4 9 cu, cI M a5 32 fr, cI M a6 625 wo, cI M a7 625 wy, cI M a8 625 my] gg dX11_lay_233 rfl (by omega) (by omega) (by decide) rfl ?_
                      refine z_aload_n (pc := 234) 8 gg dX11_lay_234 rfl rfl ?_
                      refine z_get (pc := 235) 0 gg fl_X11_7 dX11_lay_235 rfl rfl ?_
                      refine z_iload (pc := 238) 0 gg dX11_lay_238 rfl ?_
                      refine z_iconst (pc := 240) gg dX11_lay_240 ?_
                      refine z_iadd (pc := 241) gg dX11_lay_241 ?_
                      refine z_iload (pc := 242) 5 gg dX11_lay_242 rfl ?_
                      refine z_aload_n (pc := 244) 8 gg dX11_lay_244 rfl rfl ?_
                      refine z_get (pc := 245) 0 gg fl_X11_7 dX11_lay_245 rfl rfl ?_
                      refine z_iload (pc := 248) 7 gg dX11_lay_248 rfl ?_
                      refine z_iconst (pc := 250) gg dX11_lay_250 ?_
                      refine z_iadd (pc := 251) gg dX11_lay_251 ?_
                      refine z_iald (pc := 252) 1 ((10 + (3 * f.toNat)) + 1) gg dX11_lay_252 rfl (by omega) (by omega) (by decide) ?_
                      rw [show ((zU (zU A (50 + (8 * (A 2).toNat)) g) ((50 + (8 * (A 2).toNat)) + 1) q) ((10 + (3 * f.toNat)) + 1)) = (A ((10 + (3 * f.toNat)) + 1)) from by rw [zU_n _ _ (by omega), zU_n _ _ (by omega)]]
                      refine z_imul (pc := 253) gg dX11_lay_253 ?_
                      refine z_iload (pc := 254) 4 gg dX11_lay_254 rfl ?_
                      refine z_aload_n (pc := 256) 8 gg dX11_lay_256 rfl rfl ?_
                      refine z_get (pc := 257) 0 gg fl_X11_7 dX11_lay_257 rfl rfl ?_
                      refine z_iload (pc := 260) 6 gg dX11_lay_260 rfl ?_
                      refine z_iconst (pc := 262) gg dX11_lay_262 ?_
                      refine z_iadd (pc := 263) gg dX11_lay_263 ?_
                      refine z_iald (pc := 264) 1 ((10 + (3 * c.toNat)) + 1) gg dX11_lay_264 rfl (by omega) (by omega) (by decide) ?_
                      rw [show ((zU (zU A (50 + (8 * (A 2).toNat)) g) ((50 + (8 * (A 2).toNat)) + 1) q) ((10 + (3 * c.toNat)) + 1)) = (A ((10 + (3 * c.toNat)) + 1)) from by rw [zU_n _ _ (by omega), zU_n _ _ (by omega)]]
                      refine z_imul (pc := 265) gg dX11_lay_265 ?_
                      refine z_iadd (pc := 266) gg dX11_lay_266 ?_
                      have d1 := ly_d (x := fa) (d := A ((10 + (3 * f.toNat)) + 1)) (by omega) (by omega)
                      have d2 := ly_d (x := co) (d := A ((10 + (3 * c.toNat)) + 1)) (by omega) (by omega)
                      rw [Int.mul_comm] at d1 d2
                      refine z_iload_n (pc := 267) 11 gg dX11_lay_267 rfl rfl ?_
                      refine z_idivn (pc := 268) gg dX11_lay_268 (by omega) (by omega) (by omega) (by omega) ?_
                      refine z_top (fun dm h_dm => ?_)
                      refine z_iast (pc := 269) 1 ((50 + (8 * (A 2).toNat)) + 2) [cO 11 h [.ref a0, .ref a1, .ref a2, .ref a3, .ref a4, .ref a5, .ref a6, .ref a7, .ref a8], cI M a0 1280 (zU (zU (zU A (50 + (8 * (A 2).toNat)) g) ((50 + (8 * (A 2).toNat)) + 1) q) ((50 + (8 * (A 2).toNat)) + 2) dm), cZ M a1 3 hs, cI M a2 9 ht, cI M a3 9 bf, cI M a4 9 cu, cI M a5 32 fr, cI M a6 625 wo, cI M a7 625 wy, cI M a8 625 my] gg dX11_lay_269 rfl (by omega) (by omega) (by decide) rfl ?_
                      refine z_aload_n (pc := 270) 8 gg dX11_lay_270 rfl rfl ?_
                      refine z_get (pc := 271) 0 gg fl_X11_7 dX11_lay_271 rfl rfl ?_
                      refine z_iload (pc := 274) 0 gg dX11_lay_274 rfl ?_
                      refine z_iconst (pc := 276) gg dX11_lay_276 ?_
                      refine z_iadd (pc := 277) gg dX11_lay_277 ?_
                      refine z_iload (pc := 278) 2 gg dX11_lay_278 rfl ?_
                      refine z_iast (pc := 280) 1 ((50 + (8 * (A 2).toNat)) + 3) [cO 11 h [.ref a0, .ref a1, .ref a2, .ref a3, .ref a4, .ref a5, .ref a6, .ref a7, .ref a8], cI M a0 1280 (zU (zU (zU (zU A (50 + (8 * (A 2).toNat)) g) ((50 + (8 * (A 2).toNat)) + 1) q) ((50 + (8 * (A 2).toNat)) + 2) dm) ((50 + (8 * (A 2).toNat)) + 3) us), cZ M a1 3 hs, cI M a2 9 ht, cI M a3 9 bf, cI M a4 9 cu, cI M a5 32 fr, cI M a6 625 wo, cI M a7 625 wy, cI M a8 625 my] gg dX11_lay_280 rfl (by omega) (by omega) (by decide) rfl ?_
                      refine z_aload_n (pc := 281) 8 gg dX11_lay_281 rfl rfl ?_
                      refine z_get (pc := 282) 0 gg fl_X11_7 dX11_lay_282 rfl rfl ?_
                      refine z_iload (pc := 285) 0 gg dX11_lay_285 rfl ?_
                      refine z_iconst (pc := 287) gg dX11_lay_287 ?_
                      refine z_iadd (pc := 288) gg dX11_lay_288 ?_
                      refine z_iload_n (pc := 289) 9 gg dX11_lay_289 rfl rfl ?_
                      refine z_iast (pc := 290) 1 ((50 + (8 * (A 2).toNat)) + 4) [cO 11 h [.ref a0, .ref a1, .ref a2, .ref a3, .ref a4, .ref a5, .ref a6, .ref a7, .ref a8], cI M a0 1280 (zU (zU (zU (zU (zU A (50 + (8 * (A 2).toNat)) g) ((50 + (8 * (A 2).toNat)) + 1) q) ((50 + (8 * (A 2).toNat)) + 2) dm) ((50 + (8 * (A 2).toNat)) + 3) us) ((50 + (8 * (A 2).toNat)) + 4) f), cZ M a1 3 hs, cI M a2 9 ht, cI M a3 9 bf, cI M a4 9 cu, cI M a5 32 fr, cI M a6 625 wo, cI M a7 625 wy, cI M a8 625 my] gg dX11_lay_290 rfl (by omega) (by omega) (by decide) rfl ?_
                      refine z_aload_n (pc := 291) 8 gg dX11_lay_291 rfl rfl ?_
                      refine z_get (pc := 292) 0 gg fl_X11_7 dX11_lay_292 rfl rfl ?_
                      refine z_iload (pc := 295) 0 gg dX11_lay_295 rfl ?_
                      refine z_iconst (pc := 297) gg dX11_lay_297 ?_
                      refine z_iadd (pc := 298) gg dX11_lay_298 ?_
                      refine z_iload_n (pc := 299) 10 gg dX11_lay_299 rfl rfl ?_
                      refine z_iast (pc := 300) 1 ((50 + (8 * (A 2).toNat)) + 5) [cO 11 h [.ref a0, .ref a1, .ref a2, .ref a3, .ref a4, .ref a5, .ref a6, .ref a7, .ref a8], cI M a0 1280 (zU (zU (zU (zU (zU (zU A (50 + (8 * (A 2).toNat)) g) ((50 + (8 * (A 2).toNat)) + 1) q) ((50 + (8 * (A 2).toNat)) + 2) dm) ((50 + (8 * (A 2).toNat)) + 3) us) ((50 + (8 * (A 2).toNat)) + 4) f) ((50 + (8 * (A 2).toNat)) + 5) c), cZ M a1 3 hs, cI M a2 9 ht, cI M a3 9 bf, cI M a4 9 cu, cI M a5 32 fr, cI M a6 625 wo, cI M a7 625 wy, cI M a8 625 my] gg dX11_lay_300 rfl (by omega) (by omega) (by decide) rfl ?_
                      refine z_aload_n (pc := 301) 8 gg dX11_lay_301 rfl rfl ?_
                      refine z_get (pc := 302) 0 gg fl_X11_7 dX11_lay_302 rfl rfl ?_
                      refine z_iload (pc := 305) 0 gg dX11_lay_305 rfl ?_
                      refine z_bipush (pc := 307) gg dX11_lay_307 (by decide +kernel) ?_
                      refine z_iadd (pc := 309) gg dX11_lay_309 ?_
                      refine z_aload_n (pc := 310) 8 gg dX11_lay_310 rfl rfl ?_
                      refine z_iload (pc := 311) 3 gg dX11_lay_311 rfl ?_
                      have e1 : (zU (zU (zU (zU (zU (zU A (50 + (8 * (A 2).toNat)) g) ((50 + (8 * (A 2).toNat)) + 1) q) ((50 + (8 * (A 2).toNat)) + 2) dm) ((50 + (8 * (A 2).toNat)) + 3) us) ((50 + (8 * (A 2).toNat)) + 4) f) ((50 + (8 * (A 2).toNat)) + 5) c) 1 = A 1 := by rw [zU_n _ _ (by omega), zU_n _ _ (by omega), zU_n _ _ (by omega), zU_n _ _ (by omega), zU_n _ _ (by omega), zU_n _ _ (by omega)]
                      refine z_callWi (pc := 313) (As := [.int (zI q)]) (st := [.int (zI ((50 + (8 * (A 2))) + 6)), .ref a0]) gg (c_m_takes M h a0 a1 a2 a3 a4 a5 a6 a7 a8 (zU (zU (zU (zU (zU (zU A (50 + (8 * (A 2).toNat)) g) ((50 + (8 * (A 2).toNat)) + 1) q) ((50 + (8 * (A 2).toNat)) + 2) dm) ((50 + (8 * (A 2).toNat)) + 3) us) ((50 + (8 * (A 2).toNat)) + 4) f) ((50 + (8 * (A 2).toNat)) + 5) c) hs ht bf cu fr wo wy my q (by rw [e1]; exact h1) (fun j hj => by rw [zU_n _ _ (by omega), zU_n _ _ (by omega), zU_n _ _ (by omega), zU_n _ _ (by omega), zU_n _ _ (by omega), zU_n _ _ (by omega)]; exact hl j hj) (by omega)) yv_11_takes ml_X11_59 dX11_lay_313 (by decide) (Nat.le_of_ble_eq_true rfl) (Nat.le_of_ble_eq_true rfl) (Nat.le_of_ble_eq_true rfl) rfl rfl rfl (fun z313 u313 hz313 => ?_)
                      rw [e1] at hz313 ⊢
                      rw [show lF 30 1 8 (zU (zU (zU (zU (zU (zU A (50 + (8 * (A 2).toNat)) g) ((50 + (8 * (A 2).toNat)) + 1) q) ((50 + (8 * (A 2).toNat)) + 2) dm) ((50 + (8 * (A 2).toNat)) + 3) us) ((50 + (8 * (A 2).toNat)) + 4) f) ((50 + (8 * (A 2).toNat)) + 5) c) = lF 30 1 8 A from lF_cong (fun j hj => by rw [zU_n _ _ (by omega), zU_n _ _ (by omega), zU_n _ _ (by omega), zU_n _ _ (by omega), zU_n _ _ (by omega), zU_n _ _ (by omega)])] at hz313
                      subst hz313
                      refine z_iast (pc := 316) 1 ((50 + (8 * (A 2).toNat)) + 6) [cO 11 h [.ref a0, .ref a1, .ref a2, .ref a3, .ref a4, .ref a5, .ref a6, .ref a7, .ref a8], cI M a0 1280 (zU (tkA (zU (zU (zU (zU (zU (zU A (50 + (8 * (A 2).toNat)) g) ((50 + (8 * (A 2).toNat)) + 1) q) ((50 + (8 * (A 2).toNat)) + 2) dm) ((50 + (8 * (A 2).toNat)) + 3) us) ((50 + (8 * (A 2).toNat)) + 4) f) ((50 + (8 * (A 2).toNat)) + 5) c) q (A 1).toNat) ((50 + (8 * (A 2).toNat)) + 6) (dB (lF 30 1 8 A) q (A 1).toNat)), cZ M a1 3 hs, cI M a2 9 ht, cI M a3 9 bf, cI M a4 9 cu, cI M a5 32 fr, cI M a6 625 wo, cI M a7 625 wy, cI M a8 625 my] gg dX11_lay_316 rfl (by omega) (by omega) (by decide) rfl ?_
                      refine z_aload_n (pc := 317) 8 gg dX11_lay_317 rfl rfl ?_
                      refine z_get (pc := 318) 0 gg fl_X11_7 dX11_lay_318 rfl rfl ?_
                      refine z_iload (pc := 321) 0 gg dX11_lay_321 rfl ?_
                      refine z_bipush (pc := 323) gg dX11_lay_323 (by decide +kernel) ?_
                      refine z_iadd (pc := 325) gg dX11_lay_325 ?_
                      refine z_iconst (pc := 326) gg dX11_lay_326 ?_
                      refine z_iast (pc := 327) 1 ((50 + (8 * (A 2).toNat)) + 7) [cO 11 h [.ref a0, .ref a1, .ref a2, .ref a3, .ref a4, .ref a5, .ref a6, .ref a7, .ref a8], cI M a0 1280 (zU (zU (tkA (zU (zU (zU (zU (zU (zU A (50 + (8 * (A 2).toNat)) g) ((50 + (8 * (A 2).toNat)) + 1) q) ((50 + (8 * (A 2).toNat)) + 2) dm) ((50 + (8 * (A 2).toNat)) + 3) us) ((50 + (8 * (A 2).toNat)) + 4) f) ((50 + (8 * (A 2).toNat)) + 5) c) q (A 1).toNat) ((50 + (8 * (A 2).toNat)) + 6) (dB (lF 30 1 8 A) q (A 1).toNat)) ((50 + (8 * (A 2).toNat)) + 7) (-1)), cZ M a1 3 hs, cI M a2 9 ht, cI M a3 9 bf, cI M a4 9 cu, cI M a5 32 fr, cI M a6 625 wo, cI M a7 625 wy, cI M a8 625 my] gg dX11_lay_327 rfl (by omega) (by omega) (by decide) rfl ?_
                      refine z_aload_n (pc := 328) 8 gg dX11_lay_328 rfl rfl ?_
                      refine z_get (pc := 329) 0 gg fl_X11_7 dX11_lay_329 rfl rfl ?_
                      refine z_iload (pc := 332) 7 gg dX11_lay_332 rfl ?_
                      refine z_dup2 (pc := 334) gg dX11_lay_334 rfl rfl ?_
                      refine z_iald (pc := 335) 1 (10 + (3 * f.toNat)) gg dX11_lay_335 rfl (by omega) (by omega) (by decide) ?_
                      rw [show ((zU (zU (tkA (zU (zU (zU (zU (zU (zU A (50 + (8 * (A 2).toNat)) g) ((50 + (8 * (A 2).toNat)) + 1) q) ((50 + (8 * (A 2).toNat)) + 2) dm) ((50 + (8 * (A 2).toNat)) + 3) us) ((50 + (8 * (A 2).toNat)) + 4) f) ((50 + (8 * (A 2).toNat)) + 5) c) q (A 1).toNat) ((50 + (8 * (A 2).toNat)) + 6) (dB (lF 30 1 8 A) q (A 1).toNat)) ((50 + (8 * (A 2).toNat)) + 7) (-1)) (10 + (3 * f.toNat))) = (A (10 + (3 * f.toNat))) from by rw [zU_n _ _ (by omega), zU_n _ _ (by omega), tkA_out (by omega) (by omega), zU_n _ _ (by omega), zU_n _ _ (by omega), zU_n _ _ (by omega), zU_n _ _ (by omega), zU_n _ _ (by omega), zU_n _ _ (by omega)]]
                      refine z_iload (pc := 336) 5 gg dX11_lay_336 rfl ?_
                      refine z_isub (pc := 338) gg dX11_lay_338 ?_
                      refine z_iast (pc := 339) 1 (10 + (3 * f.toNat)) [cO 11 h [.ref a0, .ref a1, .ref a2, .ref a3, .ref a4, .ref a5, .ref a6, .ref a7, .ref a8], cI M a0 1280 (zU (zU (zU (tkA (zU (zU (zU (zU (zU (zU A (50 + (8 * (A 2).toNat)) g) ((50 + (8 * (A 2).toNat)) + 1) q) ((50 + (8 * (A 2).toNat)) + 2) dm) ((50 + (8 * (A 2).toNat)) + 3) us) ((50 + (8 * (A 2).toNat)) + 4) f) ((50 + (8 * (A 2).toNat)) + 5) c) q (A 1).toNat) ((50 + (8 * (A 2).toNat)) + 6) (dB (lF 30 1 8 A) q (A 1).toNat)) ((50 + (8 * (A 2).toNat)) + 7) (-1)) (10 + (3 * f.toNat)) ((A (10 + (3 * f.toNat))) - fa)), cZ M a1 3 hs, cI M a2 9 ht, cI M a3 9 bf, cI M a4 9 cu, cI M a5 32 fr, cI M a6 625 wo, cI M a7 625 wy, cI M a8 625 my] gg dX11_lay_339 rfl (by omega) (by omega) (by decide) rfl ?_
                      refine z_aload_n (pc := 340) 8 gg dX11_lay_340 rfl rfl ?_
                      refine z_get (pc := 341) 0 gg fl_X11_7 dX11_lay_341 rfl rfl ?_
                      refine z_iload (pc := 344) 6 gg dX11_lay_344 rfl ?_
                      refine z_dup2 (pc := 346) gg dX11_lay_346 rfl rfl ?_
                      refine z_iald (pc := 347) 1 (10 + (3 * c.toNat)) gg dX11_lay_347 rfl (by omega) (by omega) (by decide) ?_
                      refine z_iload (pc := 348) 4 gg dX11_lay_348 rfl ?_
                      refine z_isub (pc := 350) gg dX11_lay_350 ?_
                      refine z_iast (pc := 351) 1 (10 + (3 * c.toNat)) [cO 11 h [.ref a0, .ref a1, .ref a2, .ref a3, .ref a4, .ref a5, .ref a6, .ref a7, .ref a8], cI M a0 1280 (zU (zU (zU (zU (tkA (zU (zU (zU (zU (zU (zU A (50 + (8 * (A 2).toNat)) g) ((50 + (8 * (A 2).toNat)) + 1) q) ((50 + (8 * (A 2).toNat)) + 2) dm) ((50 + (8 * (A 2).toNat)) + 3) us) ((50 + (8 * (A 2).toNat)) + 4) f) ((50 + (8 * (A 2).toNat)) + 5) c) q (A 1).toNat) ((50 + (8 * (A 2).toNat)) + 6) (dB (lF 30 1 8 A) q (A 1).toNat)) ((50 + (8 * (A 2).toNat)) + 7) (-1)) (10 + (3 * f.toNat)) ((A (10 + (3 * f.toNat))) - fa)) (10 + (3 * c.toNat)) (((zU (zU (zU (tkA (zU (zU (zU (zU (zU (zU A (50 + (8 * (A 2).toNat)) g) ((50 + (8 * (A 2).toNat)) + 1) q) ((50 + (8 * (A 2).toNat)) + 2) dm) ((50 + (8 * (A 2).toNat)) + 3) us) ((50 + (8 * (A 2).toNat)) + 4) f) ((50 + (8 * (A 2).toNat)) + 5) c) q (A 1).toNat) ((50 + (8 * (A 2).toNat)) + 6) (dB (lF 30 1 8 A) q (A 1).toNat)) ((50 + (8 * (A 2).toNat)) + 7) (-1)) (10 + (3 * f.toNat)) ((A (10 + (3 * f.toNat))) - fa)) (10 + (3 * c.toNat))) - co)), cZ M a1 3 hs, cI M a2 9 ht, cI M a3 9 bf, cI M a4 9 cu, cI M a5 32 fr, cI M a6 625 wo, cI M a7 625 wy, cI M a8 625 my] gg dX11_lay_351 rfl (by omega) (by omega) (by decide) rfl ?_
                      refine z_aload_n (pc := 352) 8 gg dX11_lay_352 rfl rfl ?_
                      refine z_get (pc := 353) 0 gg fl_X11_7 dX11_lay_353 rfl rfl ?_
                      refine z_iconst (pc := 356) gg dX11_lay_356 ?_
                      refine z_dup2 (pc := 357) gg dX11_lay_357 rfl rfl ?_
                      refine z_iald (pc := 358) 1 2 gg dX11_lay_358 rfl (by omega) (by omega) (by decide) ?_
                      rw [show ((zU (zU (zU (zU (tkA (zU (zU (zU (zU (zU (zU A (50 + (8 * (A 2).toNat)) g) ((50 + (8 * (A 2).toNat)) + 1) q) ((50 + (8 * (A 2).toNat)) + 2) dm) ((50 + (8 * (A 2).toNat)) + 3) us) ((50 + (8 * (A 2).toNat)) + 4) f) ((50 + (8 * (A 2).toNat)) + 5) c) q (A 1).toNat) ((50 + (8 * (A 2).toNat)) + 6) (dB (lF 30 1 8 A) q (A 1).toNat)) ((50 + (8 * (A 2).toNat)) + 7) (-1)) (10 + (3 * f.toNat)) ((A (10 + (3 * f.toNat))) - fa)) (10 + (3 * c.toNat)) (((zU (zU (zU (tkA (zU (zU (zU (zU (zU (zU A (50 + (8 * (A 2).toNat)) g) ((50 + (8 * (A 2).toNat)) + 1) q) ((50 + (8 * (A 2).toNat)) + 2) dm) ((50 + (8 * (A 2).toNat)) + 3) us) ((50 + (8 * (A 2).toNat)) + 4) f) ((50 + (8 * (A 2).toNat)) + 5) c) q (A 1).toNat) ((50 + (8 * (A 2).toNat)) + 6) (dB (lF 30 1 8 A) q (A 1).toNat)) ((50 + (8 * (A 2).toNat)) + 7) (-1)) (10 + (3 * f.toNat)) ((A (10 + (3 * f.toNat))) - fa)) (10 + (3 * c.toNat))) - co)) 2) = (A 2) from by rw [zU_n _ _ (by omega), zU_n _ _ (by omega), zU_n _ _ (by omega), zU_n _ _ (by omega), tkA_out (by omega) (by omega), zU_n _ _ (by omega), zU_n _ _ (by omega), zU_n _ _ (by omega), zU_n _ _ (by omega), zU_n _ _ (by omega), zU_n _ _ (by omega)]]
                      refine z_iconst (pc := 359) gg dX11_lay_359 ?_
                      refine z_iadd (pc := 360) gg dX11_lay_360 ?_
                      refine z_iast (pc := 361) 1 2 [cO 11 h [.ref a0, .ref a1, .ref a2, .ref a3, .ref a4, .ref a5, .ref a6, .ref a7, .ref a8], cI M a0 1280 (zU (zU (zU (zU (zU (tkA (zU (zU (zU (zU (zU (zU A (50 + (8 * (A 2).toNat)) g) ((50 + (8 * (A 2).toNat)) + 1) q) ((50 + (8 * (A 2).toNat)) + 2) dm) ((50 + (8 * (A 2).toNat)) + 3) us) ((50 + (8 * (A 2).toNat)) + 4) f) ((50 + (8 * (A 2).toNat)) + 5) c) q (A 1).toNat) ((50 + (8 * (A 2).toNat)) + 6) (dB (lF 30 1 8 A) q (A 1).toNat)) ((50 + (8 * (A 2).toNat)) + 7) (-1)) (10 + (3 * f.toNat)) ((A (10 + (3 * f.toNat))) - fa)) (10 + (3 * c.toNat)) (((zU (zU (zU (tkA (zU (zU (zU (zU (zU (zU A (50 + (8 * (A 2).toNat)) g) ((50 + (8 * (A 2).toNat)) + 1) q) ((50 + (8 * (A 2).toNat)) + 2) dm) ((50 + (8 * (A 2).toNat)) + 3) us) ((50 + (8 * (A 2).toNat)) + 4) f) ((50 + (8 * (A 2).toNat)) + 5) c) q (A 1).toNat) ((50 + (8 * (A 2).toNat)) + 6) (dB (lF 30 1 8 A) q (A 1).toNat)) ((50 + (8 * (A 2).toNat)) + 7) (-1)) (10 + (3 * f.toNat)) ((A (10 + (3 * f.toNat))) - fa)) (10 + (3 * c.toNat))) - co)) 2 ((A 2) + 1)), cZ M a1 3 hs, cI M a2 9 ht, cI M a3 9 bf, cI M a4 9 cu, cI M a5 32 fr, cI M a6 625 wo, cI M a7 625 wy, cI M a8 625 my] gg dX11_lay_361 rfl (by omega) (by omega) (by decide) rfl ?_
                      refine z_aload_n (pc := 362) 8 gg dX11_lay_362 rfl rfl ?_
                      refine z_get (pc := 363) 0 gg fl_X11_7 dX11_lay_363 rfl rfl ?_
                      refine z_iconst (pc := 366) gg dX11_lay_366 ?_
                      refine z_iald (pc := 367) 1 2 gg dX11_lay_367 rfl (by omega) (by omega) (by decide) ?_
                      rw [show ((zU (zU (zU (zU (zU (tkA (zU (zU (zU (zU (zU (zU A (50 + (8 * (A 2).toNat)) g) ((50 + (8 * (A 2).toNat)) + 1) q) ((50 + (8 * (A 2).toNat)) + 2) dm) ((50 + (8 * (A 2).toNat)) + 3) us) ((50 + (8 * (A 2).toNat)) + 4) f) ((50 + (8 * (A 2).toNat)) + 5) c) q (A 1).toNat) ((50 + (8 * (A 2).toNat)) + 6) (dB (lF 30 1 8 A) q (A 1).toNat)) ((50 + (8 * (A 2).toNat)) + 7) (-1)) (10 + (3 * f.toNat)) ((A (10 + (3 * f.toNat))) - fa)) (10 + (3 * c.toNat)) (((zU (zU (zU (tkA (zU (zU (zU (zU (zU (zU A (50 + (8 * (A 2).toNat)) g) ((50 + (8 * (A 2).toNat)) + 1) q) ((50 + (8 * (A 2).toNat)) + 2) dm) ((50 + (8 * (A 2).toNat)) + 3) us) ((50 + (8 * (A 2).toNat)) + 4) f) ((50 + (8 * (A 2).toNat)) + 5) c) q (A 1).toNat) ((50 + (8 * (A 2).toNat)) + 6) (dB (lF 30 1 8 A) q (A 1).toNat)) ((50 + (8 * (A 2).toNat)) + 7) (-1)) (10 + (3 * f.toNat)) ((A (10 + (3 * f.toNat))) - fa)) (10 + (3 * c.toNat))) - co)) 2 ((A 2) + 1)) 2) = ((A 2) + 1) from by rw [zU_s]]
                      refine z_iconst (pc := 368) gg dX11_lay_368 ?_
                      refine z_isub (pc := 369) gg dX11_lay_369 ?_
                      subst e_us
                      subst h_dm
                      subst h_q
                      subst h_co
                      subst e_fa
                      exact hret (((A 2) + 1) - 1) () 370 _ _ _ (Nat.le_of_ble_eq_true rfl) (Nat.le_of_ble_eq_true rfl) dX11_lay_370 rfl (by omega)
                    · exfalso; omega
              · exfalso; omega
          · refine z_aload_n (pc := 118) 6 gg dX11_lay_118 rfl rfl ?_
            refine z_get (pc := 119) 0 gg fl_X11_7 dX11_lay_119 rfl rfl ?_
            refine z_iload (pc := 122) 5 gg dX11_lay_122 rfl ?_
            refine z_iald (pc := 124) 1 (10 + (3 * f.toNat)) gg dX11_lay_124 rfl (by omega) (by omega) (by decide) ?_
            refine z_iload_n (pc := 125) 9 gg dX11_lay_125 rfl rfl ?_
            refine z_icmp_ge (pc := 126) 133 gg dX11_lay_126 (by decide) ⟨by omega, by omega⟩ ⟨by omega, by omega⟩ (fun h126 => ?_) (fun h126 => ?_)
            · refine z_iconst (pc := 133) gg dX11_lay_133 ?_
              refine z_goto (pc := 134) 166 gg dX11_lay_134 (by decide) ?_
              refine z_istore (pc := 166) [(10, .int (zI 0)), (9, .int (zI us)), (8, .int (zI q)), (7, .int (zI co)), (6, .int (zI fa)), (5, .int (zI (10 + (3 * c)))), (4, .int (zI (10 + (3 * f)))), (0, .ref h), (1, .int (zI f)), (2, .int (zI c)), (3, .int (zI g))] gg dX11_lay_166 (Nat.le_of_ble_eq_true rfl) rfl ?_
              refine z_iload (pc := 168) 0 gg dX11_lay_168 rfl ?_
              refine z_if_ne (pc := 170) 199 gg dX11_lay_170 (by decide) ⟨by omega, by omega⟩ (fun h170 => ?_) (fun h170 => ?_)
              · exfalso; omega
              · refine z_aload_n (pc := 173) 7 gg dX11_lay_173 rfl rfl ?_
                refine z_callWi (pc := 174) (As := []) (st := []) gg (c_m_glueLeft M h a0 a1 a2 a3 a4 a5 a6 a7 a8 A hs ht bf cu fr wo wy my (by first | assumption | omega | exact ⟨by omega, by omega⟩)) yv_11_glueLeft ml_X11_55 dX11_lay_174 (by decide) (Nat.le_of_ble_eq_true rfl) (Nat.le_of_ble_eq_true rfl) (Nat.le_of_ble_eq_true rfl) rfl rfl rfl (fun z174 u174 hz174 => ?_)
                have htb := zS_lo (f := lF 30 1 8 A) (c := 100000) (n := (A 1).toNat) (fun j hj => by rw [lF30 (by omega)]; exact hl j (by omega))
                refine z_iload (pc := 177) 2 gg dX11_lay_177 rfl ?_
                refine z_icmp_lt (pc := 179) 199 gg dX11_lay_179 (by decide) ⟨by omega, by omega⟩ ⟨by omega, by omega⟩ (fun h179 => ?_) (fun h179 => ?_)
                · exfalso; omega
                · refine z_bipush (pc := 182) gg dX11_lay_182 (by decide +kernel) ?_
                  refine z_iload (pc := 184) 1 gg dX11_lay_184 rfl ?_
                  refine z_imul (pc := 186) gg dX11_lay_186 ?_
                  refine z_aload_n (pc := 187) 7 gg dX11_lay_187 rfl rfl ?_
                  refine z_get (pc := 188) 0 gg fl_X11_7 dX11_lay_188 rfl rfl ?_
                  refine z_bipush (pc := 191) gg dX11_lay_191 (by decide +kernel) ?_
                  refine z_iald (pc := 193) 1 6 gg dX11_lay_193 rfl (by omega) (by omega) (by decide) ?_
                  refine z_iload_n (pc := 194) 10 gg dX11_lay_194 rfl rfl ?_
                  refine z_imul (pc := 195) gg dX11_lay_195 ?_
                  have hm1 := ly_m (g := g) (a := A 6) (by omega) hal
                  refine z_icmp_le (pc := 196) 201 gg dX11_lay_196 (by decide) ⟨by omega, by omega⟩ ⟨by omega, by omega⟩ (fun h196 => ?_) (fun h196 => ?_)
                  · refine z_bipush (pc := 201) gg dX11_lay_201 (by decide +kernel) ?_
                    refine z_bipush (pc := 203) gg dX11_lay_203 (by decide +kernel) ?_
                    refine z_aload_n (pc := 205) 7 gg dX11_lay_205 rfl rfl ?_
                    refine z_get (pc := 206) 0 gg fl_X11_7 dX11_lay_206 rfl rfl ?_
                    refine z_iconst (pc := 209) gg dX11_lay_209 ?_
                    refine z_iald (pc := 210) 1 2 gg dX11_lay_210 rfl (by omega) (by omega) (by decide) ?_
                    refine z_imul (pc := 211) gg dX11_lay_211 ?_
                    refine z_iadd (pc := 212) gg dX11_lay_212 ?_
                    refine z_istore (pc := 213) [(11, .int (zI (50 + (8 * (A 2))))), (10, .int (zI 0)), (9, .int (zI us)), (8, .int (zI q)), (7, .int (zI co)), (6, .int (zI fa)), (5, .int (zI (10 + (3 * c)))), (4, .int (zI (10 + (3 * f)))), (0, .ref h), (1, .int (zI f)), (2, .int (zI c)), (3, .int (zI g))] gg dX11_lay_213 (Nat.le_of_ble_eq_true rfl) rfl ?_
                    refine z_aload_n (pc := 215) 8 gg dX11_lay_215 rfl rfl ?_
                    refine z_get (pc := 216) 0 gg fl_X11_7 dX11_lay_216 rfl rfl ?_
                    refine z_iload (pc := 219) 0 gg dX11_lay_219 rfl ?_
                    refine z_iload_n (pc := 221) 11 gg dX11_lay_221 rfl rfl ?_
                    refine z_iast (pc := 222) 1 (50 + (8 * (A 2).toNat)) [cO 11 h [.ref a0, .ref a1, .ref a2, .ref a3, .ref a4, .ref a5, .ref a6, .ref a7, .ref a8], cI M a0 1280 (zU A (50 + (8 * (A 2).toNat)) g), cZ M a1 3 hs, cI M a2 9 ht, cI M a3 9 bf, cI M a4 9 cu, cI M a5 32 fr, cI M a6 625 wo, cI M a7 625 wy, cI M a8 625 my] gg dX11_lay_222 rfl (by omega) (by omega) (by decide) rfl ?_
                    refine z_aload_n (pc := 223) 8 gg dX11_lay_223 rfl rfl ?_
                    refine z_get (pc := 224) 0 gg fl_X11_7 dX11_lay_224 rfl rfl ?_
                    refine z_iload (pc := 227) 0 gg dX11_lay_227 rfl ?_
                    refine z_iconst (pc := 229) gg dX11_lay_229 ?_
                    refine z_iadd (pc := 230) gg dX11_lay_230 ?_
                    refine z_iload (pc := 231) 3 gg dX11_lay_231 rfl ?_
                    refine z_iast (pc := 233) 1 ((50 + (8 * (A 2).toNat)) + 1) [cO 11 h [.ref a0, .ref a1, .ref a2, .ref a3, .ref a4, .ref a5, .ref a6, .ref a7, .ref a8], cI M a0 1280 (zU (zU A (50 + (8 * (A 2).toNat)) g) ((50 + (8 * (A 2).toNat)) + 1) q), cZ M a1 3 hs, cI M a2 9 ht, cI M a3 9 bf, cI M a4 9 cu, cI M a5 32 fr, cI M a6 625 wo, cI M a7 625 wy, cI M a8 625 my] gg dX11_lay_233 rfl (by omega) (by omega) (by decide) rfl ?_
                    refine z_aload_n (pc := 234) 8 gg dX11_lay_234 rfl rfl ?_
                    refine z_get (pc := 235) 0 gg fl_X11_7 dX11_lay_235 rfl rfl ?_
                    refine z_iload (pc := 238) 0 gg dX11_lay_238 rfl ?_
                    refine z_iconst (pc := 240) gg dX11_lay_240 ?_
                    refine z_iadd (pc := 241) gg dX11_lay_241 ?_
                    refine z_iload (pc := 242) 5 gg dX11_lay_242 rfl ?_
                    refine z_aload_n (pc := 244) 8 gg dX11_lay_244 rfl rfl ?_
                    refine z_get (pc := 245) 0 gg fl_X11_7 dX11_lay_245 rfl rfl ?_
                    refine z_iload (pc := 248) 7 gg dX11_lay_248 rfl ?_
                    refine z_iconst (pc := 250) gg dX11_lay_250 ?_
                    refine z_iadd (pc := 251) gg dX11_lay_251 ?_
                    refine z_iald (pc := 252) 1 ((10 + (3 * f.toNat)) + 1) gg dX11_lay_252 rfl (by omega) (by omega) (by decide) ?_
                    rw [show ((zU (zU A (50 + (8 * (A 2).toNat)) g) ((50 + (8 * (A 2).toNat)) + 1) q) ((10 + (3 * f.toNat)) + 1)) = (A ((10 + (3 * f.toNat)) + 1)) from by rw [zU_n _ _ (by omega), zU_n _ _ (by omega)]]
                    refine z_imul (pc := 253) gg dX11_lay_253 ?_
                    refine z_iload (pc := 254) 4 gg dX11_lay_254 rfl ?_
                    refine z_aload_n (pc := 256) 8 gg dX11_lay_256 rfl rfl ?_
                    refine z_get (pc := 257) 0 gg fl_X11_7 dX11_lay_257 rfl rfl ?_
                    refine z_iload (pc := 260) 6 gg dX11_lay_260 rfl ?_
                    refine z_iconst (pc := 262) gg dX11_lay_262 ?_
                    refine z_iadd (pc := 263) gg dX11_lay_263 ?_
                    refine z_iald (pc := 264) 1 ((10 + (3 * c.toNat)) + 1) gg dX11_lay_264 rfl (by omega) (by omega) (by decide) ?_
                    rw [show ((zU (zU A (50 + (8 * (A 2).toNat)) g) ((50 + (8 * (A 2).toNat)) + 1) q) ((10 + (3 * c.toNat)) + 1)) = (A ((10 + (3 * c.toNat)) + 1)) from by rw [zU_n _ _ (by omega), zU_n _ _ (by omega)]]
                    refine z_imul (pc := 265) gg dX11_lay_265 ?_
                    refine z_iadd (pc := 266) gg dX11_lay_266 ?_
                    have d1 := ly_d (x := fa) (d := A ((10 + (3 * f.toNat)) + 1)) (by omega) (by omega)
                    have d2 := ly_d (x := co) (d := A ((10 + (3 * c.toNat)) + 1)) (by omega) (by omega)
                    rw [Int.mul_comm] at d1 d2
                    refine z_iload_n (pc := 267) 11 gg dX11_lay_267 rfl rfl ?_
                    refine z_idivn (pc := 268) gg dX11_lay_268 (by omega) (by omega) (by omega) (by omega) ?_
                    refine z_top (fun dm h_dm => ?_)
                    refine z_iast (pc := 269) 1 ((50 + (8 * (A 2).toNat)) + 2) [cO 11 h [.ref a0, .ref a1, .ref a2, .ref a3, .ref a4, .ref a5, .ref a6, .ref a7, .ref a8], cI M a0 1280 (zU (zU (zU A (50 + (8 * (A 2).toNat)) g) ((50 + (8 * (A 2).toNat)) + 1) q) ((50 + (8 * (A 2).toNat)) + 2) dm), cZ M a1 3 hs, cI M a2 9 ht, cI M a3 9 bf, cI M a4 9 cu, cI M a5 32 fr, cI M a6 625 wo, cI M a7 625 wy, cI M a8 625 my] gg dX11_lay_269 rfl (by omega) (by omega) (by decide) rfl ?_
                    refine z_aload_n (pc := 270) 8 gg dX11_lay_270 rfl rfl ?_
                    refine z_get (pc := 271) 0 gg fl_X11_7 dX11_lay_271 rfl rfl ?_
                    refine z_iload (pc := 274) 0 gg dX11_lay_274 rfl ?_
                    refine z_iconst (pc := 276) gg dX11_lay_276 ?_
                    refine z_iadd (pc := 277) gg dX11_lay_277 ?_
                    refine z_iload (pc := 278) 2 gg dX11_lay_278 rfl ?_
                    refine z_iast (pc := 280) 1 ((50 + (8 * (A 2).toNat)) + 3) [cO 11 h [.ref a0, .ref a1, .ref a2, .ref a3, .ref a4, .ref a5, .ref a6, .ref a7, .ref a8], cI M a0 1280 (zU (zU (zU (zU A (50 + (8 * (A 2).toNat)) g) ((50 + (8 * (A 2).toNat)) + 1) q) ((50 + (8 * (A 2).toNat)) + 2) dm) ((50 + (8 * (A 2).toNat)) + 3) us), cZ M a1 3 hs, cI M a2 9 ht, cI M a3 9 bf, cI M a4 9 cu, cI M a5 32 fr, cI M a6 625 wo, cI M a7 625 wy, cI M a8 625 my] gg dX11_lay_280 rfl (by omega) (by omega) (by decide) rfl ?_
                    refine z_aload_n (pc := 281) 8 gg dX11_lay_281 rfl rfl ?_
                    refine z_get (pc := 282) 0 gg fl_X11_7 dX11_lay_282 rfl rfl ?_
                    refine z_iload (pc := 285) 0 gg dX11_lay_285 rfl ?_
                    refine z_iconst (pc := 287) gg dX11_lay_287 ?_
                    refine z_iadd (pc := 288) gg dX11_lay_288 ?_
                    refine z_iload_n (pc := 289) 9 gg dX11_lay_289 rfl rfl ?_
                    refine z_iast (pc := 290) 1 ((50 + (8 * (A 2).toNat)) + 4) [cO 11 h [.ref a0, .ref a1, .ref a2, .ref a3, .ref a4, .ref a5, .ref a6, .ref a7, .ref a8], cI M a0 1280 (zU (zU (zU (zU (zU A (50 + (8 * (A 2).toNat)) g) ((50 + (8 * (A 2).toNat)) + 1) q) ((50 + (8 * (A 2).toNat)) + 2) dm) ((50 + (8 * (A 2).toNat)) + 3) us) ((50 + (8 * (A 2).toNat)) + 4) f), cZ M a1 3 hs, cI M a2 9 ht, cI M a3 9 bf, cI M a4 9 cu, cI M a5 32 fr, cI M a6 625 wo, cI M a7 625 wy, cI M a8 625 my] gg dX11_lay_290 rfl (by omega) (by omega) (by decide) rfl ?_
                    refine z_aload_n (pc := 291) 8 gg dX11_lay_291 rfl rfl ?_
                    refine z_get (pc := 292) 0 gg fl_X11_7 dX11_lay_292 rfl rfl ?_
                    refine z_iload (pc := 295) 0 gg dX11_lay_295 rfl ?_
                    refine z_iconst (pc := 297) gg dX11_lay_297 ?_
                    refine z_iadd (pc := 298) gg dX11_lay_298 ?_
                    refine z_iload_n (pc := 299) 10 gg dX11_lay_299 rfl rfl ?_
                    refine z_iast (pc := 300) 1 ((50 + (8 * (A 2).toNat)) + 5) [cO 11 h [.ref a0, .ref a1, .ref a2, .ref a3, .ref a4, .ref a5, .ref a6, .ref a7, .ref a8], cI M a0 1280 (zU (zU (zU (zU (zU (zU A (50 + (8 * (A 2).toNat)) g) ((50 + (8 * (A 2).toNat)) + 1) q) ((50 + (8 * (A 2).toNat)) + 2) dm) ((50 + (8 * (A 2).toNat)) + 3) us) ((50 + (8 * (A 2).toNat)) + 4) f) ((50 + (8 * (A 2).toNat)) + 5) c), cZ M a1 3 hs, cI M a2 9 ht, cI M a3 9 bf, cI M a4 9 cu, cI M a5 32 fr, cI M a6 625 wo, cI M a7 625 wy, cI M a8 625 my] gg dX11_lay_300 rfl (by omega) (by omega) (by decide) rfl ?_
                    refine z_aload_n (pc := 301) 8 gg dX11_lay_301 rfl rfl ?_
                    refine z_get (pc := 302) 0 gg fl_X11_7 dX11_lay_302 rfl rfl ?_
                    refine z_iload (pc := 305) 0 gg dX11_lay_305 rfl ?_
                    refine z_bipush (pc := 307) gg dX11_lay_307 (by decide +kernel) ?_
                    refine z_iadd (pc := 309) gg dX11_lay_309 ?_
                    refine z_aload_n (pc := 310) 8 gg dX11_lay_310 rfl rfl ?_
                    refine z_iload (pc := 311) 3 gg dX11_lay_311 rfl ?_
                    have e1 : (zU (zU (zU (zU (zU (zU A (50 + (8 * (A 2).toNat)) g) ((50 + (8 * (A 2).toNat)) + 1) q) ((50 + (8 * (A 2).toNat)) + 2) dm) ((50 + (8 * (A 2).toNat)) + 3) us) ((50 + (8 * (A 2).toNat)) + 4) f) ((50 + (8 * (A 2).toNat)) + 5) c) 1 = A 1 := by rw [zU_n _ _ (by omega), zU_n _ _ (by omega), zU_n _ _ (by omega), zU_n _ _ (by omega), zU_n _ _ (by omega), zU_n _ _ (by omega)]
                    refine z_callWi (pc := 313) (As := [.int (zI q)]) (st := [.int (zI ((50 + (8 * (A 2))) + 6)), .ref a0]) gg (c_m_takes M h a0 a1 a2 a3 a4 a5 a6 a7 a8 (zU (zU (zU (zU (zU (zU A (50 + (8 * (A 2).toNat)) g) ((50 + (8 * (A 2).toNat)) + 1) q) ((50 + (8 * (A 2).toNat)) + 2) dm) ((50 + (8 * (A 2).toNat)) + 3) us) ((50 + (8 * (A 2).toNat)) + 4) f) ((50 + (8 * (A 2).toNat)) + 5) c) hs ht bf cu fr wo wy my q (by rw [e1]; exact h1) (fun j hj => by rw [zU_n _ _ (by omega), zU_n _ _ (by omega), zU_n _ _ (by omega), zU_n _ _ (by omega), zU_n _ _ (by omega), zU_n _ _ (by omega)]; exact hl j hj) (by omega)) yv_11_takes ml_X11_59 dX11_lay_313 (by decide) (Nat.le_of_ble_eq_true rfl) (Nat.le_of_ble_eq_true rfl) (Nat.le_of_ble_eq_true rfl) rfl rfl rfl (fun z313 u313 hz313 => ?_)
                    rw [e1] at hz313 ⊢
                    rw [show lF 30 1 8 (zU (zU (zU (zU (zU (zU A (50 + (8 * (A 2).toNat)) g) ((50 + (8 * (A 2).toNat)) + 1) q) ((50 + (8 * (A 2).toNat)) + 2) dm) ((50 + (8 * (A 2).toNat)) + 3) us) ((50 + (8 * (A 2).toNat)) + 4) f) ((50 + (8 * (A 2).toNat)) + 5) c) = lF 30 1 8 A from lF_cong (fun j hj => by rw [zU_n _ _ (by omega), zU_n _ _ (by omega), zU_n _ _ (by omega), zU_n _ _ (by omega), zU_n _ _ (by omega), zU_n _ _ (by omega)])] at hz313
                    subst hz313
                    refine z_iast (pc := 316) 1 ((50 + (8 * (A 2).toNat)) + 6) [cO 11 h [.ref a0, .ref a1, .ref a2, .ref a3, .ref a4, .ref a5, .ref a6, .ref a7, .ref a8], cI M a0 1280 (zU (tkA (zU (zU (zU (zU (zU (zU A (50 + (8 * (A 2).toNat)) g) ((50 + (8 * (A 2).toNat)) + 1) q) ((50 + (8 * (A 2).toNat)) + 2) dm) ((50 + (8 * (A 2).toNat)) + 3) us) ((50 + (8 * (A 2).toNat)) + 4) f) ((50 + (8 * (A 2).toNat)) + 5) c) q (A 1).toNat) ((50 + (8 * (A 2).toNat)) + 6) (dB (lF 30 1 8 A) q (A 1).toNat)), cZ M a1 3 hs, cI M a2 9 ht, cI M a3 9 bf, cI M a4 9 cu, cI M a5 32 fr, cI M a6 625 wo, cI M a7 625 wy, cI M a8 625 my] gg dX11_lay_316 rfl (by omega) (by omega) (by decide) rfl ?_
                    refine z_aload_n (pc := 317) 8 gg dX11_lay_317 rfl rfl ?_
                    refine z_get (pc := 318) 0 gg fl_X11_7 dX11_lay_318 rfl rfl ?_
                    refine z_iload (pc := 321) 0 gg dX11_lay_321 rfl ?_
                    refine z_bipush (pc := 323) gg dX11_lay_323 (by decide +kernel) ?_
                    refine z_iadd (pc := 325) gg dX11_lay_325 ?_
                    refine z_iconst (pc := 326) gg dX11_lay_326 ?_
                    refine z_iast (pc := 327) 1 ((50 + (8 * (A 2).toNat)) + 7) [cO 11 h [.ref a0, .ref a1, .ref a2, .ref a3, .ref a4, .ref a5, .ref a6, .ref a7, .ref a8], cI M a0 1280 (zU (zU (tkA (zU (zU (zU (zU (zU (zU A (50 + (8 * (A 2).toNat)) g) ((50 + (8 * (A 2).toNat)) + 1) q) ((50 + (8 * (A 2).toNat)) + 2) dm) ((50 + (8 * (A 2).toNat)) + 3) us) ((50 + (8 * (A 2).toNat)) + 4) f) ((50 + (8 * (A 2).toNat)) + 5) c) q (A 1).toNat) ((50 + (8 * (A 2).toNat)) + 6) (dB (lF 30 1 8 A) q (A 1).toNat)) ((50 + (8 * (A 2).toNat)) + 7) (-1)), cZ M a1 3 hs, cI M a2 9 ht, cI M a3 9 bf, cI M a4 9 cu, cI M a5 32 fr, cI M a6 625 wo, cI M a7 625 wy, cI M a8 625 my] gg dX11_lay_327 rfl (by omega) (by omega) (by decide) rfl ?_
                    refine z_aload_n (pc := 328) 8 gg dX11_lay_328 rfl rfl ?_
                    refine z_get (pc := 329) 0 gg fl_X11_7 dX11_lay_329 rfl rfl ?_
                    refine z_iload (pc := 332) 7 gg dX11_lay_332 rfl ?_
                    refine z_dup2 (pc := 334) gg dX11_lay_334 rfl rfl ?_
                    refine z_iald (pc := 335) 1 (10 + (3 * f.toNat)) gg dX11_lay_335 rfl (by omega) (by omega) (by decide) ?_
                    rw [show ((zU (zU (tkA (zU (zU (zU (zU (zU (zU A (50 + (8 * (A 2).toNat)) g) ((50 + (8 * (A 2).toNat)) + 1) q) ((50 + (8 * (A 2).toNat)) + 2) dm) ((50 + (8 * (A 2).toNat)) + 3) us) ((50 + (8 * (A 2).toNat)) + 4) f) ((50 + (8 * (A 2).toNat)) + 5) c) q (A 1).toNat) ((50 + (8 * (A 2).toNat)) + 6) (dB (lF 30 1 8 A) q (A 1).toNat)) ((50 + (8 * (A 2).toNat)) + 7) (-1)) (10 + (3 * f.toNat))) = (A (10 + (3 * f.toNat))) from by rw [zU_n _ _ (by omega), zU_n _ _ (by omega), tkA_out (by omega) (by omega), zU_n _ _ (by omega), zU_n _ _ (by omega), zU_n _ _ (by omega), zU_n _ _ (by omega), zU_n _ _ (by omega), zU_n _ _ (by omega)]]
                    refine z_iload (pc := 336) 5 gg dX11_lay_336 rfl ?_
                    refine z_isub (pc := 338) gg dX11_lay_338 ?_
                    refine z_iast (pc := 339) 1 (10 + (3 * f.toNat)) [cO 11 h [.ref a0, .ref a1, .ref a2, .ref a3, .ref a4, .ref a5, .ref a6, .ref a7, .ref a8], cI M a0 1280 (zU (zU (zU (tkA (zU (zU (zU (zU (zU (zU A (50 + (8 * (A 2).toNat)) g) ((50 + (8 * (A 2).toNat)) + 1) q) ((50 + (8 * (A 2).toNat)) + 2) dm) ((50 + (8 * (A 2).toNat)) + 3) us) ((50 + (8 * (A 2).toNat)) + 4) f) ((50 + (8 * (A 2).toNat)) + 5) c) q (A 1).toNat) ((50 + (8 * (A 2).toNat)) + 6) (dB (lF 30 1 8 A) q (A 1).toNat)) ((50 + (8 * (A 2).toNat)) + 7) (-1)) (10 + (3 * f.toNat)) ((A (10 + (3 * f.toNat))) - fa)), cZ M a1 3 hs, cI M a2 9 ht, cI M a3 9 bf, cI M a4 9 cu, cI M a5 32 fr, cI M a6 625 wo, cI M a7 625 wy, cI M a8 625 my] gg dX11_lay_339 rfl (by omega) (by omega) (by decide) rfl ?_
                    refine z_aload_n (pc := 340) 8 gg dX11_lay_340 rfl rfl ?_
                    refine z_get (pc := 341) 0 gg fl_X11_7 dX11_lay_341 rfl rfl ?_
                    refine z_iload (pc := 344) 6 gg dX11_lay_344 rfl ?_
                    refine z_dup2 (pc := 346) gg dX11_lay_346 rfl rfl ?_
                    refine z_iald (pc := 347) 1 (10 + (3 * c.toNat)) gg dX11_lay_347 rfl (by omega) (by omega) (by decide) ?_
                    refine z_iload (pc := 348) 4 gg dX11_lay_348 rfl ?_
                    refine z_isub (pc := 350) gg dX11_lay_350 ?_
                    refine z_iast (pc := 351) 1 (10 + (3 * c.toNat)) [cO 11 h [.ref a0, .ref a1, .ref a2, .ref a3, .ref a4, .ref a5, .ref a6, .ref a7, .ref a8], cI M a0 1280 (zU (zU (zU (zU (tkA (zU (zU (zU (zU (zU (zU A (50 + (8 * (A 2).toNat)) g) ((50 + (8 * (A 2).toNat)) + 1) q) ((50 + (8 * (A 2).toNat)) + 2) dm) ((50 + (8 * (A 2).toNat)) + 3) us) ((50 + (8 * (A 2).toNat)) + 4) f) ((50 + (8 * (A 2).toNat)) + 5) c) q (A 1).toNat) ((50 + (8 * (A 2).toNat)) + 6) (dB (lF 30 1 8 A) q (A 1).toNat)) ((50 + (8 * (A 2).toNat)) + 7) (-1)) (10 + (3 * f.toNat)) ((A (10 + (3 * f.toNat))) - fa)) (10 + (3 * c.toNat)) (((zU (zU (zU (tkA (zU (zU (zU (zU (zU (zU A (50 + (8 * (A 2).toNat)) g) ((50 + (8 * (A 2).toNat)) + 1) q) ((50 + (8 * (A 2).toNat)) + 2) dm) ((50 + (8 * (A 2).toNat)) + 3) us) ((50 + (8 * (A 2).toNat)) + 4) f) ((50 + (8 * (A 2).toNat)) + 5) c) q (A 1).toNat) ((50 + (8 * (A 2).toNat)) + 6) (dB (lF 30 1 8 A) q (A 1).toNat)) ((50 + (8 * (A 2).toNat)) + 7) (-1)) (10 + (3 * f.toNat)) ((A (10 + (3 * f.toNat))) - fa)) (10 + (3 * c.toNat))) - co)), cZ M a1 3 hs, cI M a2 9 ht, cI M a3 9 bf, cI M a4 9 cu, cI M a5 32 fr, cI M a6 625 wo, cI M a7 625 wy, cI M a8 625 my] gg dX11_lay_351 rfl (by omega) (by omega) (by decide) rfl ?_
                    refine z_aload_n (pc := 352) 8 gg dX11_lay_352 rfl rfl ?_
                    refine z_get (pc := 353) 0 gg fl_X11_7 dX11_lay_353 rfl rfl ?_
                    refine z_iconst (pc := 356) gg dX11_lay_356 ?_
                    refine z_dup2 (pc := 357) gg dX11_lay_357 rfl rfl ?_
                    refine z_iald (pc := 358) 1 2 gg dX11_lay_358 rfl (by omega) (by omega) (by decide) ?_
                    rw [show ((zU (zU (zU (zU (tkA (zU (zU (zU (zU (zU (zU A (50 + (8 * (A 2).toNat)) g) ((50 + (8 * (A 2).toNat)) + 1) q) ((50 + (8 * (A 2).toNat)) + 2) dm) ((50 + (8 * (A 2).toNat)) + 3) us) ((50 + (8 * (A 2).toNat)) + 4) f) ((50 + (8 * (A 2).toNat)) + 5) c) q (A 1).toNat) ((50 + (8 * (A 2).toNat)) + 6) (dB (lF 30 1 8 A) q (A 1).toNat)) ((50 + (8 * (A 2).toNat)) + 7) (-1)) (10 + (3 * f.toNat)) ((A (10 + (3 * f.toNat))) - fa)) (10 + (3 * c.toNat)) (((zU (zU (zU (tkA (zU (zU (zU (zU (zU (zU A (50 + (8 * (A 2).toNat)) g) ((50 + (8 * (A 2).toNat)) + 1) q) ((50 + (8 * (A 2).toNat)) + 2) dm) ((50 + (8 * (A 2).toNat)) + 3) us) ((50 + (8 * (A 2).toNat)) + 4) f) ((50 + (8 * (A 2).toNat)) + 5) c) q (A 1).toNat) ((50 + (8 * (A 2).toNat)) + 6) (dB (lF 30 1 8 A) q (A 1).toNat)) ((50 + (8 * (A 2).toNat)) + 7) (-1)) (10 + (3 * f.toNat)) ((A (10 + (3 * f.toNat))) - fa)) (10 + (3 * c.toNat))) - co)) 2) = (A 2) from by rw [zU_n _ _ (by omega), zU_n _ _ (by omega), zU_n _ _ (by omega), zU_n _ _ (by omega), tkA_out (by omega) (by omega), zU_n _ _ (by omega), zU_n _ _ (by omega), zU_n _ _ (by omega), zU_n _ _ (by omega), zU_n _ _ (by omega), zU_n _ _ (by omega)]]
                    refine z_iconst (pc := 359) gg dX11_lay_359 ?_
                    refine z_iadd (pc := 360) gg dX11_lay_360 ?_
                    refine z_iast (pc := 361) 1 2 [cO 11 h [.ref a0, .ref a1, .ref a2, .ref a3, .ref a4, .ref a5, .ref a6, .ref a7, .ref a8], cI M a0 1280 (zU (zU (zU (zU (zU (tkA (zU (zU (zU (zU (zU (zU A (50 + (8 * (A 2).toNat)) g) ((50 + (8 * (A 2).toNat)) + 1) q) ((50 + (8 * (A 2).toNat)) + 2) dm) ((50 + (8 * (A 2).toNat)) + 3) us) ((50 + (8 * (A 2).toNat)) + 4) f) ((50 + (8 * (A 2).toNat)) + 5) c) q (A 1).toNat) ((50 + (8 * (A 2).toNat)) + 6) (dB (lF 30 1 8 A) q (A 1).toNat)) ((50 + (8 * (A 2).toNat)) + 7) (-1)) (10 + (3 * f.toNat)) ((A (10 + (3 * f.toNat))) - fa)) (10 + (3 * c.toNat)) (((zU (zU (zU (tkA (zU (zU (zU (zU (zU (zU A (50 + (8 * (A 2).toNat)) g) ((50 + (8 * (A 2).toNat)) + 1) q) ((50 + (8 * (A 2).toNat)) + 2) dm) ((50 + (8 * (A 2).toNat)) + 3) us) ((50 + (8 * (A 2).toNat)) + 4) f) ((50 + (8 * (A 2).toNat)) + 5) c) q (A 1).toNat) ((50 + (8 * (A 2).toNat)) + 6) (dB (lF 30 1 8 A) q (A 1).toNat)) ((50 + (8 * (A 2).toNat)) + 7) (-1)) (10 + (3 * f.toNat)) ((A (10 + (3 * f.toNat))) - fa)) (10 + (3 * c.toNat))) - co)) 2 ((A 2) + 1)), cZ M a1 3 hs, cI M a2 9 ht, cI M a3 9 bf, cI M a4 9 cu, cI M a5 32 fr, cI M a6 625 wo, cI M a7 625 wy, cI M a8 625 my] gg dX11_lay_361 rfl (by omega) (by omega) (by decide) rfl ?_
                    refine z_aload_n (pc := 362) 8 gg dX11_lay_362 rfl rfl ?_
                    refine z_get (pc := 363) 0 gg fl_X11_7 dX11_lay_363 rfl rfl ?_
                    refine z_iconst (pc := 366) gg dX11_lay_366 ?_
                    refine z_iald (pc := 367) 1 2 gg dX11_lay_367 rfl (by omega) (by omega) (by decide) ?_
                    rw [show ((zU (zU (zU (zU (zU (tkA (zU (zU (zU (zU (zU (zU A (50 + (8 * (A 2).toNat)) g) ((50 + (8 * (A 2).toNat)) + 1) q) ((50 + (8 * (A 2).toNat)) + 2) dm) ((50 + (8 * (A 2).toNat)) + 3) us) ((50 + (8 * (A 2).toNat)) + 4) f) ((50 + (8 * (A 2).toNat)) + 5) c) q (A 1).toNat) ((50 + (8 * (A 2).toNat)) + 6) (dB (lF 30 1 8 A) q (A 1).toNat)) ((50 + (8 * (A 2).toNat)) + 7) (-1)) (10 + (3 * f.toNat)) ((A (10 + (3 * f.toNat))) - fa)) (10 + (3 * c.toNat)) (((zU (zU (zU (tkA (zU (zU (zU (zU (zU (zU A (50 + (8 * (A 2).toNat)) g) ((50 + (8 * (A 2).toNat)) + 1) q) ((50 + (8 * (A 2).toNat)) + 2) dm) ((50 + (8 * (A 2).toNat)) + 3) us) ((50 + (8 * (A 2).toNat)) + 4) f) ((50 + (8 * (A 2).toNat)) + 5) c) q (A 1).toNat) ((50 + (8 * (A 2).toNat)) + 6) (dB (lF 30 1 8 A) q (A 1).toNat)) ((50 + (8 * (A 2).toNat)) + 7) (-1)) (10 + (3 * f.toNat)) ((A (10 + (3 * f.toNat))) - fa)) (10 + (3 * c.toNat))) - co)) 2 ((A 2) + 1)) 2) = ((A 2) + 1) from by rw [zU_s]]
                    refine z_iconst (pc := 368) gg dX11_lay_368 ?_
                    refine z_isub (pc := 369) gg dX11_lay_369 ?_
                    subst e_us
                    subst h_dm
                    subst h_q
                    subst h_co
                    subst e_fa
                    exact hret (((A 2) + 1) - 1) () 370 _ _ _ (Nat.le_of_ble_eq_true rfl) (Nat.le_of_ble_eq_true rfl) dX11_lay_370 rfl (by omega)
                  · exfalso; omega
            · exfalso; omega
        · exfalso; omega
set_option maxHeartbeats 4000000 in
set_option maxRecDepth 100000 in
theorem c_m_lay_no (M : KM) (h a0 a1 a2 a3 a4 a5 a6 a7 a8 : Nat) (A hs ht bf cu fr wo wy my : Nat → Int) (f c g u1 u2 : Int) (h0 : 0 ≤ A 0 ∧ A 0 ≤ 6) (h1 : 0 ≤ A 1 ∧ A 1 ≤ 8) (h2 : 0 ≤ A 2 ∧ A 2 ≤ 24) (hfg : ∀ j, j < 6 → (0 ≤ A (10 + (3 * j)) ∧ A (10 + (3 * j)) ≤ 1000000) ∧ (0 ≤ A ((10 + (3 * j)) + 1) ∧ A ((10 + (3 * j)) + 1) ≤ 20) ∧ (A ((10 + (3 * j)) + 2) = 0 ∨ A ((10 + (3 * j)) + 2) = 1)) (hl : ∀ j, j < 8 → 0 ≤ A (30 + j) ∧ A (30 + j) ≤ 100000) (hag : 1 ≤ A 5 ∧ A 5 ≤ 30) (hal : 0 ≤ A 6 ∧ A 6 ≤ 100) (hg : zR g) (hf : zR f) (hc : zR c) (hu1 : 0 ≤ f → f < A 0 → 0 ≤ c → c < A 0 → 10 ≤ g → g ≤ 10000 → ((A ((10 + (3 * f.toNat)) + 2) = 1 ∧ u1 = lyF g) ∨ (A ((10 + (3 * f.toNat)) + 2) = 0 ∧ u1 = 0))) (hu2 : 0 ≤ f → f < A 0 → 0 ≤ c → c < A 0 → 10 ≤ g → g ≤ 10000 → ((A ((10 + (3 * c.toNat)) + 2) = 1 ∧ u2 = g - lyF g) ∨ (A ((10 + (3 * c.toNat)) + 2) = 0 ∧ u2 = 0))) (hno : A 2 = 24 ∨ g < 10 ∨ 10000 < g ∨ f < 0 ∨ A 0 ≤ f ∨ c < 0 ∨ A 0 ≤ c ∨ (f = c ∧ A (10 + (3 * f.toNat)) < g) ∨ (f ≠ c ∧ (A (10 + (3 * f.toNat)) < lyF g ∨ A (10 + (3 * c.toNat)) < g - lyF g)) ∨ zS (lF 30 1 8 A) (A 1).toNat < g * A 5 / 100 ∨ A 6 * g < 100 * (u1 + u2)) : kCI M yX11_lay cX11_lay 12 .int 2 0 0 [cO 11 h [.ref a0, .ref a1, .ref a2, .ref a3, .ref a4, .ref a5, .ref a6, .ref a7, .ref a8], cI M a0 1280 A, cZ M a1 3 hs, cI M a2 9 ht, cI M a3 9 bf, cI M a4 9 cu, cI M a5 32 fr, cI M a6 625 wo, cI M a7 625 wy, cI M a8 625 my] [.ref h, .int (zI f), .int (zI c), .int (zI g)] (fun z (u : Unit) => z = -1) (fun u => [cO 11 h [.ref a0, .ref a1, .ref a2, .ref a3, .ref a4, .ref a5, .ref a6, .ref a7, .ref a8], cI M a0 1280 A, cZ M a1 3 hs, cI M a2 9 ht, cI M a3 9 bf, cI M a4 9 cu, cI M a5 32 fr, cI M a6 625 wo, cI M a7 625 wy, cI M a8 625 my]) := by
  refine kCI.of [(0, .ref h), (1, .int (zI f)), (2, .int (zI c)), (3, .int (zI g))] (by decide) (Nat.le_of_ble_eq_true rfl) rfl (fun E gg hret => ?_)
  have r1_hg := hg.1
  have r2_hg := hg.2
  have r1_hf := hf.1
  have r2_hf := hf.2
  have r1_hc := hc.1
  have r2_hc := hc.2
  refine z_aload_n (pc := 0) 0 gg dX11_lay_0 rfl rfl ?_
  refine z_get (pc := 1) 0 gg fl_X11_7 dX11_lay_1 rfl rfl ?_
  refine z_iconst (pc := 4) gg dX11_lay_4 ?_
  refine z_iald (pc := 5) 1 2 gg dX11_lay_5 rfl (by omega) (by omega) (by decide) ?_
  refine z_bipush (pc := 6) gg dX11_lay_6 (by decide +kernel) ?_
  refine z_icmp_eq (pc := 8) 41 gg dX11_lay_8 (by decide) ⟨by omega, by omega⟩ ⟨by omega, by omega⟩ (fun h8 => ?_) (fun h8 => ?_)
  · refine z_iconst (pc := 41) gg dX11_lay_41 ?_
    exact hret (-1) () 42 _ _ _ (Nat.le_of_ble_eq_true rfl) (Nat.le_of_ble_eq_true rfl) dX11_lay_42 rfl (by omega)
  · refine z_aload_n (pc := 11) 0 gg dX11_lay_11 rfl rfl ?_
    refine z_iload_n (pc := 12) 1 gg dX11_lay_12 rfl rfl ?_
    refine z_iconst (pc := 13) gg dX11_lay_13 ?_
    refine z_callWi (pc := 14) (As := [.int (zI f), .int (zI 0)]) (st := []) gg (c_mOf M h a0 a1 a2 a3 a4 a5 a6 a7 a8 A hs ht bf cu fr wo wy my f 0 (by first | assumption | omega | exact ⟨by omega, by omega⟩) (by first | assumption | omega | exact ⟨by omega, by omega⟩) (by first | assumption | omega | exact ⟨by omega, by omega⟩)) yv_11_isOf ml_X11_42 dX11_lay_14 (by decide) (Nat.le_of_ble_eq_true rfl) (Nat.le_of_ble_eq_true rfl) (Nat.le_of_ble_eq_true rfl) rfl rfl rfl (fun z14 u14 hz14 => ?_)
    refine z_if_eq (pc := 17) 41 gg dX11_lay_17 (by decide) ⟨by omega, by omega⟩ (fun h17 => ?_) (fun h17 => ?_)
    · refine z_iconst (pc := 41) gg dX11_lay_41 ?_
      exact hret (-1) () 42 _ _ _ (Nat.le_of_ble_eq_true rfl) (Nat.le_of_ble_eq_true rfl) dX11_lay_42 rfl (by omega)
    · refine z_aload_n (pc := 20) 0 gg dX11_lay_20 rfl rfl ?_
      refine z_iload_n (pc := 21) 2 gg dX11_lay_21 rfl rfl ?_
      refine z_iconst (pc := 22) gg dX11_lay_22 ?_
      refine z_callWi (pc := 23) (As := [.int (zI c), .int (zI 0)]) (st := []) gg (c_mOf M h a0 a1 a2 a3 a4 a5 a6 a7 a8 A hs ht bf cu fr wo wy my c 0 (by first | assumption | omega | exact ⟨by omega, by omega⟩) (by first | assumption | omega | exact ⟨by omega, by omega⟩) (by first | assumption | omega | exact ⟨by omega, by omega⟩)) yv_11_isOf ml_X11_42 dX11_lay_23 (by decide) (Nat.le_of_ble_eq_true rfl) (Nat.le_of_ble_eq_true rfl) (Nat.le_of_ble_eq_true rfl) rfl rfl rfl (fun z23 u23 hz23 => ?_)
      refine z_if_eq (pc := 26) 41 gg dX11_lay_26 (by decide) ⟨by omega, by omega⟩ (fun h26 => ?_) (fun h26 => ?_)
      · refine z_iconst (pc := 41) gg dX11_lay_41 ?_
        exact hret (-1) () 42 _ _ _ (Nat.le_of_ble_eq_true rfl) (Nat.le_of_ble_eq_true rfl) dX11_lay_42 rfl (by omega)
      · refine z_iload_n (pc := 29) 3 gg dX11_lay_29 rfl rfl ?_
        refine z_bipush (pc := 30) gg dX11_lay_30 (by decide +kernel) ?_
        refine z_sipush (pc := 32) gg dX11_lay_32 (by decide +kernel) ?_
        refine z_callS (pc := 35) (As := [.int (zI g), .int (zI 10), .int (zI 10000)]) (st := []) gg (c_mIn M g (10 : Int) (10000 : Int) (by first | assumption | omega | exact ⟨by omega, by omega⟩) (by first | assumption | omega | exact ⟨by omega, by omega⟩) (by first | assumption | omega | exact ⟨by omega, by omega⟩)) ys_11_isIn ml_X11_38 dX11_lay_35 (by decide) (Nat.le_of_ble_eq_true rfl) (Nat.le_of_ble_eq_true rfl) (Nat.le_of_ble_eq_true rfl) rfl rfl (fun z35 u35 hz35 => ?_)
        refine z_if_ne (pc := 38) 43 gg dX11_lay_38 (by decide) ⟨by omega, by omega⟩ (fun h38 => ?_) (fun h38 => ?_)
        · refine z_bipush (pc := 43) gg dX11_lay_43 (by decide +kernel) ?_
          refine z_iconst (pc := 45) gg dX11_lay_45 ?_
          refine z_iload_n (pc := 46) 1 gg dX11_lay_46 rfl rfl ?_
          refine z_imul (pc := 47) gg dX11_lay_47 ?_
          refine z_iadd (pc := 48) gg dX11_lay_48 ?_
          refine z_istore (pc := 49) [(4, .int (zI (10 + (3 * f)))), (0, .ref h), (1, .int (zI f)), (2, .int (zI c)), (3, .int (zI g))] gg dX11_lay_49 (Nat.le_of_ble_eq_true rfl) rfl ?_
          refine z_bipush (pc := 51) gg dX11_lay_51 (by decide +kernel) ?_
          refine z_iconst (pc := 53) gg dX11_lay_53 ?_
          refine z_iload_n (pc := 54) 3 gg dX11_lay_54 rfl rfl ?_
          refine z_imul (pc := 55) gg dX11_lay_55 ?_
          refine z_iadd (pc := 56) gg dX11_lay_56 ?_
          refine z_istore (pc := 57) [(5, .int (zI (10 + (3 * c)))), (4, .int (zI (10 + (3 * f)))), (0, .ref h), (1, .int (zI f)), (2, .int (zI c)), (3, .int (zI g))] gg dX11_lay_57 (Nat.le_of_ble_eq_true rfl) rfl ?_
          have f1 := hfg f.toNat (by omega)
          have f2 := hfg c.toNat (by omega)
          refine z_iconst (pc := 59) gg dX11_lay_59 ?_
          refine z_iload_n (pc := 60) 5 gg dX11_lay_60 rfl rfl ?_
          refine z_imul (pc := 61) gg dX11_lay_61 ?_
          refine z_bipush (pc := 62) gg dX11_lay_62 (by decide +kernel) ?_
          refine z_idivn (pc := 64) gg dX11_lay_64 (by omega) (by omega) (by omega) (by omega) ?_
          refine z_top (fun fa h_fa => ?_)
          have hu1 := hu1 (by omega) (by omega) (by omega) (by omega) (by omega) (by omega)
          have hu2 := hu2 (by omega) (by omega) (by omega) (by omega) (by omega) (by omega)
          have hfa : 0 ≤ fa ∧ fa ≤ g := by omega
          have e_fa : fa = lyF g := by rw [h_fa]; unfold lyF; congr 1; omega
          rw [← e_fa] at hu1 hu2 hno
          refine z_istore (pc := 65) [(6, .int (zI fa)), (5, .int (zI (10 + (3 * c)))), (4, .int (zI (10 + (3 * f)))), (0, .ref h), (1, .int (zI f)), (2, .int (zI c)), (3, .int (zI g))] gg dX11_lay_65 (Nat.le_of_ble_eq_true rfl) rfl ?_
          refine z_iload_n (pc := 67) 6 gg dX11_lay_67 rfl rfl ?_
          refine z_iload (pc := 68) 0 gg dX11_lay_68 rfl ?_
          refine z_isub (pc := 70) gg dX11_lay_70 ?_
          refine z_top (fun co h_co => ?_)
          rw [← h_co] at hu2 hno
          refine z_istore (pc := 71) [(7, .int (zI co)), (6, .int (zI fa)), (5, .int (zI (10 + (3 * c)))), (4, .int (zI (10 + (3 * f)))), (0, .ref h), (1, .int (zI f)), (2, .int (zI c)), (3, .int (zI g))] gg dX11_lay_71 (Nat.le_of_ble_eq_true rfl) rfl ?_
          refine z_iload_n (pc := 73) 7 gg dX11_lay_73 rfl rfl ?_
          refine z_aload_n (pc := 74) 4 gg dX11_lay_74 rfl rfl ?_
          refine z_get (pc := 75) 0 gg fl_X11_7 dX11_lay_75 rfl rfl ?_
          refine z_iconst (pc := 78) gg dX11_lay_78 ?_
          refine z_iald (pc := 79) 1 5 gg dX11_lay_79 rfl (by omega) (by omega) (by decide) ?_
          refine z_imul (pc := 80) gg dX11_lay_80 ?_
          have hq1 := ly_q (g := g) (a := A 5) (by omega) hag
          refine z_bipush (pc := 81) gg dX11_lay_81 (by decide +kernel) ?_
          refine z_idivn (pc := 83) gg dX11_lay_83 (by omega) (by omega) (by omega) (by omega) ?_
          refine z_top (fun q h_q => ?_)
          have hqb : 0 ≤ q ∧ q ≤ 3000 := by omega
          rw [← h_q] at hno
          refine z_istore (pc := 84) [(8, .int (zI q)), (7, .int (zI co)), (6, .int (zI fa)), (5, .int (zI (10 + (3 * c)))), (4, .int (zI (10 + (3 * f)))), (0, .ref h), (1, .int (zI f)), (2, .int (zI c)), (3, .int (zI g))] gg dX11_lay_84 (Nat.le_of_ble_eq_true rfl) rfl ?_
          refine z_iload (pc := 86) 2 gg dX11_lay_86 rfl ?_
          refine z_aload_n (pc := 88) 5 gg dX11_lay_88 rfl rfl ?_
          refine z_get (pc := 89) 0 gg fl_X11_7 dX11_lay_89 rfl rfl ?_
          refine z_iload (pc := 92) 4 gg dX11_lay_92 rfl ?_
          refine z_iconst (pc := 94) gg dX11_lay_94 ?_
          refine z_iadd (pc := 95) gg dX11_lay_95 ?_
          refine z_iald (pc := 96) 1 ((10 + (3 * f.toNat)) + 2) gg dX11_lay_96 rfl (by omega) (by omega) (by decide) ?_
          refine z_imul (pc := 97) gg dX11_lay_97 ?_
          refine z_iload (pc := 98) 1 gg dX11_lay_98 rfl ?_
          refine z_aload_n (pc := 100) 5 gg dX11_lay_100 rfl rfl ?_
          refine z_get (pc := 101) 0 gg fl_X11_7 dX11_lay_101 rfl rfl ?_
          refine z_iload (pc := 104) 3 gg dX11_lay_104 rfl ?_
          refine z_iconst (pc := 106) gg dX11_lay_106 ?_
          refine z_iadd (pc := 107) gg dX11_lay_107 ?_
          refine z_iald (pc := 108) 1 ((10 + (3 * c.toNat)) + 2) gg dX11_lay_108 rfl (by omega) (by omega) (by decide) ?_
          refine z_imul (pc := 109) gg dX11_lay_109 ?_
          refine z_iadd (pc := 110) gg dX11_lay_110 ?_
          refine z_top (fun us h_us => ?_)
          have ex1 : fa * A ((10 + (3 * f.toNat)) + 2) = u1 := by
            rcases hu1 with ⟨a, b⟩ | ⟨a, b⟩
            · rw [a, b, Int.mul_one]
            · rw [a, b, Int.mul_zero]
          have ex2 : co * A ((10 + (3 * c.toNat)) + 2) = u2 := by
            rcases hu2 with ⟨a, b⟩ | ⟨a, b⟩
            · rw [a, b, Int.mul_one]
            · rw [a, b, Int.mul_zero]
          have e_us : us = u1 + u2 := by rw [h_us, ex1, ex2]
          have eub : 0 ≤ us ∧ us ≤ g := by omega
          rw [← e_us] at hno
          refine z_istore (pc := 111) [(9, .int (zI us)), (8, .int (zI q)), (7, .int (zI co)), (6, .int (zI fa)), (5, .int (zI (10 + (3 * c)))), (4, .int (zI (10 + (3 * f)))), (0, .ref h), (1, .int (zI f)), (2, .int (zI c)), (3, .int (zI g))] gg dX11_lay_111 (Nat.le_of_ble_eq_true rfl) rfl ?_
          refine z_iload_n (pc := 113) 7 gg dX11_lay_113 rfl rfl ?_
          refine z_iload_n (pc := 114) 8 gg dX11_lay_114 rfl rfl ?_
          refine z_icmp_ne (pc := 115) 137 gg dX11_lay_115 (by decide) ⟨by omega, by omega⟩ ⟨by omega, by omega⟩ (fun h115 => ?_) (fun h115 => ?_)
          · refine z_aload_n (pc := 137) 6 gg dX11_lay_137 rfl rfl ?_
            refine z_get (pc := 138) 0 gg fl_X11_7 dX11_lay_138 rfl rfl ?_
            refine z_iload (pc := 141) 5 gg dX11_lay_141 rfl ?_
            refine z_iald (pc := 143) 1 (10 + (3 * f.toNat)) gg dX11_lay_143 rfl (by omega) (by omega) (by decide) ?_
            refine z_iload (pc := 144) 3 gg dX11_lay_144 rfl ?_
            refine z_icmp_lt (pc := 146) 161 gg dX11_lay_146 (by decide) ⟨by omega, by omega⟩ ⟨by omega, by omega⟩ (fun h146 => ?_) (fun h146 => ?_)
            · refine z_iconst (pc := 161) gg dX11_lay_161 ?_
              refine z_goto (pc := 162) 166 gg dX11_lay_162 (by decide) ?_
              refine z_istore (pc := 166) [(10, .int (zI 1)), (9, .int (zI us)), (8, .int (zI q)), (7, .int (zI co)), (6, .int (zI fa)), (5, .int (zI (10 + (3 * c)))), (4, .int (zI (10 + (3 * f)))), (0, .ref h), (1, .int (zI f)), (2, .int (zI c)), (3, .int (zI g))] gg dX11_lay_166 (Nat.le_of_ble_eq_true rfl) rfl ?_
              refine z_iload (pc := 168) 0 gg dX11_lay_168 rfl ?_
              refine z_if_ne (pc := 170) 199 gg dX11_lay_170 (by decide) ⟨by omega, by omega⟩ (fun h170 => ?_) (fun h170 => ?_)
              · refine z_iconst (pc := 199) gg dX11_lay_199 ?_
                exact hret (-1) () 200 _ _ _ (Nat.le_of_ble_eq_true rfl) (Nat.le_of_ble_eq_true rfl) dX11_lay_200 rfl (by omega)
              · refine z_aload_n (pc := 173) 7 gg dX11_lay_173 rfl rfl ?_
                refine z_callWi (pc := 174) (As := []) (st := []) gg (c_m_glueLeft M h a0 a1 a2 a3 a4 a5 a6 a7 a8 A hs ht bf cu fr wo wy my (by first | assumption | omega | exact ⟨by omega, by omega⟩)) yv_11_glueLeft ml_X11_55 dX11_lay_174 (by decide) (Nat.le_of_ble_eq_true rfl) (Nat.le_of_ble_eq_true rfl) (Nat.le_of_ble_eq_true rfl) rfl rfl rfl (fun z174 u174 hz174 => ?_)
                have htb := zS_lo (f := lF 30 1 8 A) (c := 100000) (n := (A 1).toNat) (fun j hj => by rw [lF30 (by omega)]; exact hl j (by omega))
                refine z_iload (pc := 177) 2 gg dX11_lay_177 rfl ?_
                refine z_icmp_lt (pc := 179) 199 gg dX11_lay_179 (by decide) ⟨by omega, by omega⟩ ⟨by omega, by omega⟩ (fun h179 => ?_) (fun h179 => ?_)
                · refine z_iconst (pc := 199) gg dX11_lay_199 ?_
                  exact hret (-1) () 200 _ _ _ (Nat.le_of_ble_eq_true rfl) (Nat.le_of_ble_eq_true rfl) dX11_lay_200 rfl (by omega)
                · refine z_bipush (pc := 182) gg dX11_lay_182 (by decide +kernel) ?_
                  refine z_iload (pc := 184) 1 gg dX11_lay_184 rfl ?_
                  refine z_imul (pc := 186) gg dX11_lay_186 ?_
                  refine z_aload_n (pc := 187) 7 gg dX11_lay_187 rfl rfl ?_
                  refine z_get (pc := 188) 0 gg fl_X11_7 dX11_lay_188 rfl rfl ?_
                  refine z_bipush (pc := 191) gg dX11_lay_191 (by decide +kernel) ?_
                  refine z_iald (pc := 193) 1 6 gg dX11_lay_193 rfl (by omega) (by omega) (by decide) ?_
                  refine z_iload_n (pc := 194) 10 gg dX11_lay_194 rfl rfl ?_
                  refine z_imul (pc := 195) gg dX11_lay_195 ?_
                  have hm1 := ly_m (g := g) (a := A 6) (by omega) hal
                  refine z_icmp_le (pc := 196) 201 gg dX11_lay_196 (by decide) ⟨by omega, by omega⟩ ⟨by omega, by omega⟩ (fun h196 => ?_) (fun h196 => ?_)
                  · exfalso; omega
                  · refine z_iconst (pc := 199) gg dX11_lay_199 ?_
                    exact hret (-1) () 200 _ _ _ (Nat.le_of_ble_eq_true rfl) (Nat.le_of_ble_eq_true rfl) dX11_lay_200 rfl (by omega)
            · refine z_aload_n (pc := 149) 6 gg dX11_lay_149 rfl rfl ?_
              refine z_get (pc := 150) 0 gg fl_X11_7 dX11_lay_150 rfl rfl ?_
              refine z_iload (pc := 153) 4 gg dX11_lay_153 rfl ?_
              refine z_iald (pc := 155) 1 (10 + (3 * c.toNat)) gg dX11_lay_155 rfl (by omega) (by omega) (by decide) ?_
              refine z_iload (pc := 156) 2 gg dX11_lay_156 rfl ?_
              refine z_icmp_ge (pc := 158) 165 gg dX11_lay_158 (by decide) ⟨by omega, by omega⟩ ⟨by omega, by omega⟩ (fun h158 => ?_) (fun h158 => ?_)
              · refine z_iconst (pc := 165) gg dX11_lay_165 ?_
                refine z_istore (pc := 166) [(10, .int (zI 0)), (9, .int (zI us)), (8, .int (zI q)), (7, .int (zI co)), (6, .int (zI fa)), (5, .int (zI (10 + (3 * c)))), (4, .int (zI (10 + (3 * f)))), (0, .ref h), (1, .int (zI f)), (2, .int (zI c)), (3, .int (zI g))] gg dX11_lay_166 (Nat.le_of_ble_eq_true rfl) rfl ?_
                refine z_iload (pc := 168) 0 gg dX11_lay_168 rfl ?_
                refine z_if_ne (pc := 170) 199 gg dX11_lay_170 (by decide) ⟨by omega, by omega⟩ (fun h170 => ?_) (fun h170 => ?_)
                · refine z_iconst (pc := 199) gg dX11_lay_199 ?_
                  exact hret (-1) () 200 _ _ _ (Nat.le_of_ble_eq_true rfl) (Nat.le_of_ble_eq_true rfl) dX11_lay_200 rfl (by omega)
                · refine z_aload_n (pc := 173) 7 gg dX11_lay_173 rfl rfl ?_
                  refine z_callWi (pc := 174) (As := []) (st := []) gg (c_m_glueLeft M h a0 a1 a2 a3 a4 a5 a6 a7 a8 A hs ht bf cu fr wo wy my (by first | assumption | omega | exact ⟨by omega, by omega⟩)) yv_11_glueLeft ml_X11_55 dX11_lay_174 (by decide) (Nat.le_of_ble_eq_true rfl) (Nat.le_of_ble_eq_true rfl) (Nat.le_of_ble_eq_true rfl) rfl rfl rfl (fun z174 u174 hz174 => ?_)
                  have htb := zS_lo (f := lF 30 1 8 A) (c := 100000) (n := (A 1).toNat) (fun j hj => by rw [lF30 (by omega)]; exact hl j (by omega))
                  refine z_iload (pc := 177) 2 gg dX11_lay_177 rfl ?_
                  refine z_icmp_lt (pc := 179) 199 gg dX11_lay_179 (by decide) ⟨by omega, by omega⟩ ⟨by omega, by omega⟩ (fun h179 => ?_) (fun h179 => ?_)
                  · refine z_iconst (pc := 199) gg dX11_lay_199 ?_
                    exact hret (-1) () 200 _ _ _ (Nat.le_of_ble_eq_true rfl) (Nat.le_of_ble_eq_true rfl) dX11_lay_200 rfl (by omega)
                  · refine z_bipush (pc := 182) gg dX11_lay_182 (by decide +kernel) ?_
                    refine z_iload (pc := 184) 1 gg dX11_lay_184 rfl ?_
                    refine z_imul (pc := 186) gg dX11_lay_186 ?_
                    refine z_aload_n (pc := 187) 7 gg dX11_lay_187 rfl rfl ?_
                    refine z_get (pc := 188) 0 gg fl_X11_7 dX11_lay_188 rfl rfl ?_
                    refine z_bipush (pc := 191) gg dX11_lay_191 (by decide +kernel) ?_
                    refine z_iald (pc := 193) 1 6 gg dX11_lay_193 rfl (by omega) (by omega) (by decide) ?_
                    refine z_iload_n (pc := 194) 10 gg dX11_lay_194 rfl rfl ?_
                    refine z_imul (pc := 195) gg dX11_lay_195 ?_
                    have hm1 := ly_m (g := g) (a := A 6) (by omega) hal
                    refine z_icmp_le (pc := 196) 201 gg dX11_lay_196 (by decide) ⟨by omega, by omega⟩ ⟨by omega, by omega⟩ (fun h196 => ?_) (fun h196 => ?_)
                    · exfalso; omega
                    · refine z_iconst (pc := 199) gg dX11_lay_199 ?_
                      exact hret (-1) () 200 _ _ _ (Nat.le_of_ble_eq_true rfl) (Nat.le_of_ble_eq_true rfl) dX11_lay_200 rfl (by omega)
              · refine z_iconst (pc := 161) gg dX11_lay_161 ?_
                refine z_goto (pc := 162) 166 gg dX11_lay_162 (by decide) ?_
                refine z_istore (pc := 166) [(10, .int (zI 1)), (9, .int (zI us)), (8, .int (zI q)), (7, .int (zI co)), (6, .int (zI fa)), (5, .int (zI (10 + (3 * c)))), (4, .int (zI (10 + (3 * f)))), (0, .ref h), (1, .int (zI f)), (2, .int (zI c)), (3, .int (zI g))] gg dX11_lay_166 (Nat.le_of_ble_eq_true rfl) rfl ?_
                refine z_iload (pc := 168) 0 gg dX11_lay_168 rfl ?_
                refine z_if_ne (pc := 170) 199 gg dX11_lay_170 (by decide) ⟨by omega, by omega⟩ (fun h170 => ?_) (fun h170 => ?_)
                · refine z_iconst (pc := 199) gg dX11_lay_199 ?_
                  exact hret (-1) () 200 _ _ _ (Nat.le_of_ble_eq_true rfl) (Nat.le_of_ble_eq_true rfl) dX11_lay_200 rfl (by omega)
                · refine z_aload_n (pc := 173) 7 gg dX11_lay_173 rfl rfl ?_
                  refine z_callWi (pc := 174) (As := []) (st := []) gg (c_m_glueLeft M h a0 a1 a2 a3 a4 a5 a6 a7 a8 A hs ht bf cu fr wo wy my (by first | assumption | omega | exact ⟨by omega, by omega⟩)) yv_11_glueLeft ml_X11_55 dX11_lay_174 (by decide) (Nat.le_of_ble_eq_true rfl) (Nat.le_of_ble_eq_true rfl) (Nat.le_of_ble_eq_true rfl) rfl rfl rfl (fun z174 u174 hz174 => ?_)
                  have htb := zS_lo (f := lF 30 1 8 A) (c := 100000) (n := (A 1).toNat) (fun j hj => by rw [lF30 (by omega)]; exact hl j (by omega))
                  refine z_iload (pc := 177) 2 gg dX11_lay_177 rfl ?_
                  refine z_icmp_lt (pc := 179) 199 gg dX11_lay_179 (by decide) ⟨by omega, by omega⟩ ⟨by omega, by omega⟩ (fun h179 => ?_) (fun h179 => ?_)
                  · refine z_iconst (pc := 199) gg dX11_lay_199 ?_
                    exact hret (-1) () 200 _ _ _ (Nat.le_of_ble_eq_true rfl) (Nat.le_of_ble_eq_true rfl) dX11_lay_200 rfl (by omega)
                  · refine z_bipush (pc := 182) gg dX11_lay_182 (by decide +kernel) ?_
                    refine z_iload (pc := 184) 1 gg dX11_lay_184 rfl ?_
                    refine z_imul (pc := 186) gg dX11_lay_186 ?_
                    refine z_aload_n (pc := 187) 7 gg dX11_lay_187 rfl rfl ?_
                    refine z_get (pc := 188) 0 gg fl_X11_7 dX11_lay_188 rfl rfl ?_
                    refine z_bipush (pc := 191) gg dX11_lay_191 (by decide +kernel) ?_
                    refine z_iald (pc := 193) 1 6 gg dX11_lay_193 rfl (by omega) (by omega) (by decide) ?_
                    refine z_iload_n (pc := 194) 10 gg dX11_lay_194 rfl rfl ?_
                    refine z_imul (pc := 195) gg dX11_lay_195 ?_
                    have hm1 := ly_m (g := g) (a := A 6) (by omega) hal
                    refine z_icmp_le (pc := 196) 201 gg dX11_lay_196 (by decide) ⟨by omega, by omega⟩ ⟨by omega, by omega⟩ (fun h196 => ?_) (fun h196 => ?_)
                    · exfalso; omega
                    · refine z_iconst (pc := 199) gg dX11_lay_199 ?_
                      exact hret (-1) () 200 _ _ _ (Nat.le_of_ble_eq_true rfl) (Nat.le_of_ble_eq_true rfl) dX11_lay_200 rfl (by omega)
          · refine z_aload_n (pc := 118) 6 gg dX11_lay_118 rfl rfl ?_
            refine z_get (pc := 119) 0 gg fl_X11_7 dX11_lay_119 rfl rfl ?_
            refine z_iload (pc := 122) 5 gg dX11_lay_122 rfl ?_
            refine z_iald (pc := 124) 1 (10 + (3 * f.toNat)) gg dX11_lay_124 rfl (by omega) (by omega) (by decide) ?_
            refine z_iload_n (pc := 125) 9 gg dX11_lay_125 rfl rfl ?_
            refine z_icmp_ge (pc := 126) 133 gg dX11_lay_126 (by decide) ⟨by omega, by omega⟩ ⟨by omega, by omega⟩ (fun h126 => ?_) (fun h126 => ?_)
            · refine z_iconst (pc := 133) gg dX11_lay_133 ?_
              refine z_goto (pc := 134) 166 gg dX11_lay_134 (by decide) ?_
              refine z_istore (pc := 166) [(10, .int (zI 0)), (9, .int (zI us)), (8, .int (zI q)), (7, .int (zI co)), (6, .int (zI fa)), (5, .int (zI (10 + (3 * c)))), (4, .int (zI (10 + (3 * f)))), (0, .ref h), (1, .int (zI f)), (2, .int (zI c)), (3, .int (zI g))] gg dX11_lay_166 (Nat.le_of_ble_eq_true rfl) rfl ?_
              refine z_iload (pc := 168) 0 gg dX11_lay_168 rfl ?_
              refine z_if_ne (pc := 170) 199 gg dX11_lay_170 (by decide) ⟨by omega, by omega⟩ (fun h170 => ?_) (fun h170 => ?_)
              · refine z_iconst (pc := 199) gg dX11_lay_199 ?_
                exact hret (-1) () 200 _ _ _ (Nat.le_of_ble_eq_true rfl) (Nat.le_of_ble_eq_true rfl) dX11_lay_200 rfl (by omega)
              · refine z_aload_n (pc := 173) 7 gg dX11_lay_173 rfl rfl ?_
                refine z_callWi (pc := 174) (As := []) (st := []) gg (c_m_glueLeft M h a0 a1 a2 a3 a4 a5 a6 a7 a8 A hs ht bf cu fr wo wy my (by first | assumption | omega | exact ⟨by omega, by omega⟩)) yv_11_glueLeft ml_X11_55 dX11_lay_174 (by decide) (Nat.le_of_ble_eq_true rfl) (Nat.le_of_ble_eq_true rfl) (Nat.le_of_ble_eq_true rfl) rfl rfl rfl (fun z174 u174 hz174 => ?_)
                have htb := zS_lo (f := lF 30 1 8 A) (c := 100000) (n := (A 1).toNat) (fun j hj => by rw [lF30 (by omega)]; exact hl j (by omega))
                refine z_iload (pc := 177) 2 gg dX11_lay_177 rfl ?_
                refine z_icmp_lt (pc := 179) 199 gg dX11_lay_179 (by decide) ⟨by omega, by omega⟩ ⟨by omega, by omega⟩ (fun h179 => ?_) (fun h179 => ?_)
                · refine z_iconst (pc := 199) gg dX11_lay_199 ?_
                  exact hret (-1) () 200 _ _ _ (Nat.le_of_ble_eq_true rfl) (Nat.le_of_ble_eq_true rfl) dX11_lay_200 rfl (by omega)
                · refine z_bipush (pc := 182) gg dX11_lay_182 (by decide +kernel) ?_
                  refine z_iload (pc := 184) 1 gg dX11_lay_184 rfl ?_
                  refine z_imul (pc := 186) gg dX11_lay_186 ?_
                  refine z_aload_n (pc := 187) 7 gg dX11_lay_187 rfl rfl ?_
                  refine z_get (pc := 188) 0 gg fl_X11_7 dX11_lay_188 rfl rfl ?_
                  refine z_bipush (pc := 191) gg dX11_lay_191 (by decide +kernel) ?_
                  refine z_iald (pc := 193) 1 6 gg dX11_lay_193 rfl (by omega) (by omega) (by decide) ?_
                  refine z_iload_n (pc := 194) 10 gg dX11_lay_194 rfl rfl ?_
                  refine z_imul (pc := 195) gg dX11_lay_195 ?_
                  have hm1 := ly_m (g := g) (a := A 6) (by omega) hal
                  refine z_icmp_le (pc := 196) 201 gg dX11_lay_196 (by decide) ⟨by omega, by omega⟩ ⟨by omega, by omega⟩ (fun h196 => ?_) (fun h196 => ?_)
                  · exfalso; omega
                  · refine z_iconst (pc := 199) gg dX11_lay_199 ?_
                    exact hret (-1) () 200 _ _ _ (Nat.le_of_ble_eq_true rfl) (Nat.le_of_ble_eq_true rfl) dX11_lay_200 rfl (by omega)
            · refine z_iconst (pc := 129) gg dX11_lay_129 ?_
              refine z_goto (pc := 130) 166 gg dX11_lay_130 (by decide) ?_
              refine z_istore (pc := 166) [(10, .int (zI 1)), (9, .int (zI us)), (8, .int (zI q)), (7, .int (zI co)), (6, .int (zI fa)), (5, .int (zI (10 + (3 * c)))), (4, .int (zI (10 + (3 * f)))), (0, .ref h), (1, .int (zI f)), (2, .int (zI c)), (3, .int (zI g))] gg dX11_lay_166 (Nat.le_of_ble_eq_true rfl) rfl ?_
              refine z_iload (pc := 168) 0 gg dX11_lay_168 rfl ?_
              refine z_if_ne (pc := 170) 199 gg dX11_lay_170 (by decide) ⟨by omega, by omega⟩ (fun h170 => ?_) (fun h170 => ?_)
              · refine z_iconst (pc := 199) gg dX11_lay_199 ?_
                exact hret (-1) () 200 _ _ _ (Nat.le_of_ble_eq_true rfl) (Nat.le_of_ble_eq_true rfl) dX11_lay_200 rfl (by omega)
              · refine z_aload_n (pc := 173) 7 gg dX11_lay_173 rfl rfl ?_
                refine z_callWi (pc := 174) (As := []) (st := []) gg (c_m_glueLeft M h a0 a1 a2 a3 a4 a5 a6 a7 a8 A hs ht bf cu fr wo wy my (by first | assumption | omega | exact ⟨by omega, by omega⟩)) yv_11_glueLeft ml_X11_55 dX11_lay_174 (by decide) (Nat.le_of_ble_eq_true rfl) (Nat.le_of_ble_eq_true rfl) (Nat.le_of_ble_eq_true rfl) rfl rfl rfl (fun z174 u174 hz174 => ?_)
                have htb := zS_lo (f := lF 30 1 8 A) (c := 100000) (n := (A 1).toNat) (fun j hj => by rw [lF30 (by omega)]; exact hl j (by omega))
                refine z_iload (pc := 177) 2 gg dX11_lay_177 rfl ?_
                refine z_icmp_lt (pc := 179) 199 gg dX11_lay_179 (by decide) ⟨by omega, by omega⟩ ⟨by omega, by omega⟩ (fun h179 => ?_) (fun h179 => ?_)
                · refine z_iconst (pc := 199) gg dX11_lay_199 ?_
                  exact hret (-1) () 200 _ _ _ (Nat.le_of_ble_eq_true rfl) (Nat.le_of_ble_eq_true rfl) dX11_lay_200 rfl (by omega)
                · refine z_bipush (pc := 182) gg dX11_lay_182 (by decide +kernel) ?_
                  refine z_iload (pc := 184) 1 gg dX11_lay_184 rfl ?_
                  refine z_imul (pc := 186) gg dX11_lay_186 ?_
                  refine z_aload_n (pc := 187) 7 gg dX11_lay_187 rfl rfl ?_
                  refine z_get (pc := 188) 0 gg fl_X11_7 dX11_lay_188 rfl rfl ?_
                  refine z_bipush (pc := 191) gg dX11_lay_191 (by decide +kernel) ?_
                  refine z_iald (pc := 193) 1 6 gg dX11_lay_193 rfl (by omega) (by omega) (by decide) ?_
                  refine z_iload_n (pc := 194) 10 gg dX11_lay_194 rfl rfl ?_
                  refine z_imul (pc := 195) gg dX11_lay_195 ?_
                  have hm1 := ly_m (g := g) (a := A 6) (by omega) hal
                  refine z_icmp_le (pc := 196) 201 gg dX11_lay_196 (by decide) ⟨by omega, by omega⟩ ⟨by omega, by omega⟩ (fun h196 => ?_) (fun h196 => ?_)
                  · exfalso; omega
                  · refine z_iconst (pc := 199) gg dX11_lay_199 ?_
                    exact hret (-1) () 200 _ _ _ (Nat.le_of_ble_eq_true rfl) (Nat.le_of_ble_eq_true rfl) dX11_lay_200 rfl (by omega)
        · refine z_iconst (pc := 41) gg dX11_lay_41 ?_
          exact hret (-1) () 42 _ _ _ (Nat.le_of_ble_eq_true rfl) (Nat.le_of_ble_eq_true rfl) dX11_lay_42 rfl (by omega)
set_option maxHeartbeats 4000000 in
set_option maxRecDepth 100000 in
theorem c_m_cold (M : KM) (h a0 a1 a2 a3 a4 a5 a6 a7 a8 : Nat) (A hs ht bf cu fr wo wy my : Nat → Int)  : kCV M yX11_cold cX11_cold 2 0 0 0 [cO 11 h [.ref a0, .ref a1, .ref a2, .ref a3, .ref a4, .ref a5, .ref a6, .ref a7, .ref a8], cI M a0 1280 A, cZ M a1 3 hs, cI M a2 9 ht, cI M a3 9 bf, cI M a4 9 cu, cI M a5 32 fr, cI M a6 625 wo, cI M a7 625 wy, cI M a8 625 my] [.ref h] (fun u : Unit => True) (fun u => [cO 11 h [.ref a0, .ref a1, .ref a2, .ref a3, .ref a4, .ref a5, .ref a6, .ref a7, .ref a8], cI M a0 1280 A, cZ M a1 3 hs, cI M a2 9 (fun _ => 2000), cI M a3 9 bf, cI M a4 9 (fun _ => 0), cI M a5 32 fr, cI M a6 625 wo, cI M a7 625 wy, cI M a8 625 my]) := by
  refine kCV.of [(0, .ref h)] (by decide) (Nat.le_of_ble_eq_true rfl) rfl (fun E gg gn hret => ?_)
  refine z_iconst (pc := 0) gg dX11_cold_0 ?_
  refine z_istore_n (pc := 1) [(1, .int (zI 0)), (0, .ref h)] gg dX11_cold_1 rfl (Nat.le_of_ble_eq_true rfl) rfl ?_
  have loop2 : ∀ (k2 : Nat) (i : Int) (x y : Nat → Int), (0 ≤ i ∧ i ≤ 9) → (∀ j, j < i.toNat → x j = (2000 : Int)) → (∀ j, j < i.toNat → y j = (0 : Int)) → 9 - i.toNat < k2 → kV M E 2 0 0 [cO 11 h [.ref a0, .ref a1, .ref a2, .ref a3, .ref a4, .ref a5, .ref a6, .ref a7, .ref a8], cI M a0 1280 A, cZ M a1 3 hs, cI M a2 9 x, cI M a3 9 bf, cI M a4 9 y, cI M a5 32 fr, cI M a6 625 wo, cI M a7 625 wy, cI M a8 625 my] [(1, .int (zI i)), (0, .ref h)] 2 [] := by
    intro k2
    induction k2 with
    | zero => intro i x y hi k1 k2 hm2; exact absurd hm2 (Nat.not_lt_zero _)
    | succ k2 ih2 =>
      intro i x y hi k1 k2 hm2
      refine z_iload_n (pc := 2) 0 gg dX11_cold_2 rfl rfl ?_
      refine z_bipush (pc := 3) gg dX11_cold_3 (by decide +kernel) ?_
      refine z_icmp_ge (pc := 5) 30 gg dX11_cold_5 (by decide) ⟨by omega, by omega⟩ ⟨by omega, by omega⟩ (fun h5 => ?_) (fun h5 => ?_)
      · refine z_fun 3 (fun _ => 2000) [cO 11 h [.ref a0, .ref a1, .ref a2, .ref a3, .ref a4, .ref a5, .ref a6, .ref a7, .ref a8], cI M a0 1280 A, cZ M a1 3 hs, cI M a2 9 (fun _ => 2000), cI M a3 9 bf, cI M a4 9 y, cI M a5 32 fr, cI M a6 625 wo, cI M a7 625 wy, cI M a8 625 my] rfl (fun j hj => k1 j (by omega)) rfl ?_
        refine z_fun 5 (fun _ => 0) [cO 11 h [.ref a0, .ref a1, .ref a2, .ref a3, .ref a4, .ref a5, .ref a6, .ref a7, .ref a8], cI M a0 1280 A, cZ M a1 3 hs, cI M a2 9 (fun _ => 2000), cI M a3 9 bf, cI M a4 9 (fun _ => 0), cI M a5 32 fr, cI M a6 625 wo, cI M a7 625 wy, cI M a8 625 my] rfl (fun j hj => k2 j (by omega)) rfl ?_
        exact hret () 30 _ _ _ (Nat.le_of_ble_eq_true rfl) (Nat.le_of_ble_eq_true rfl) dX11_cold_30 trivial
      · refine z_aload_n (pc := 8) 1 gg dX11_cold_8 rfl rfl ?_
        refine z_get (pc := 9) 0 gg fl_X11_17 dX11_cold_9 rfl rfl ?_
        refine z_iload_n (pc := 12) 0 gg dX11_cold_12 rfl rfl ?_
        refine z_sipush (pc := 13) gg dX11_cold_13 (by decide +kernel) ?_
        refine z_iast (pc := 16) 3 i.toNat [cO 11 h [.ref a0, .ref a1, .ref a2, .ref a3, .ref a4, .ref a5, .ref a6, .ref a7, .ref a8], cI M a0 1280 A, cZ M a1 3 hs, cI M a2 9 (zU x i.toNat 2000), cI M a3 9 bf, cI M a4 9 y, cI M a5 32 fr, cI M a6 625 wo, cI M a7 625 wy, cI M a8 625 my] gg dX11_cold_16 rfl (by omega) (by omega) (by decide) rfl ?_
        refine z_aload_n (pc := 17) 1 gg dX11_cold_17 rfl rfl ?_
        refine z_get (pc := 18) 0 gg fl_X11_23 dX11_cold_18 rfl rfl ?_
        refine z_iload_n (pc := 21) 0 gg dX11_cold_21 rfl rfl ?_
        refine z_iconst (pc := 22) gg dX11_cold_22 ?_
        refine z_iast (pc := 23) 5 i.toNat [cO 11 h [.ref a0, .ref a1, .ref a2, .ref a3, .ref a4, .ref a5, .ref a6, .ref a7, .ref a8], cI M a0 1280 A, cZ M a1 3 hs, cI M a2 9 (zU x i.toNat 2000), cI M a3 9 bf, cI M a4 9 (zU y i.toNat 0), cI M a5 32 fr, cI M a6 625 wo, cI M a7 625 wy, cI M a8 625 my] gg dX11_cold_23 rfl (by omega) (by omega) (by decide) rfl ?_
        refine z_iinc (pc := 24) 0 [(1, .int (zI (i + 1))), (0, .ref h)] gg dX11_cold_24 rfl (Nat.le_of_ble_eq_true rfl) rfl ?_
        refine z_goto (pc := 27) 2 gg dX11_cold_27 (by decide) ?_
        exact ih2 (i + 1) (zU x i.toNat 2000) (zU y i.toNat 0) (by omega) (zU_eq (g := fun _ => 2000) (by omega) k1 rfl) (zU_eq (g := fun _ => 0) (by omega) k2 rfl) (by omega)
  exact loop2 _ 0 ht cu (by omega) (fun j hj => absurd hj (by omega)) (fun j hj => absurd hj (by omega)) (Nat.lt_succ_self _)
set_option maxHeartbeats 4000000 in
set_option maxRecDepth 100000 in
theorem c_m_tick (M : KM) (h a0 a1 a2 a3 a4 a5 a6 a7 a8 : Nat) (A hs ht bf cu fr wo wy my : Nat → Int) (y : Int) (hy : 0 ≤ y ∧ y < 4) (hT : 0 ≤ (100 * (A (40 + y.toNat))) ∧ (100 * (A (40 + y.toNat))) ≤ 25000) (hH : ∀ j, j < 9 → 0 ≤ ht j ∧ ht j ≤ 25000) : kCV M yX11_tick cX11_tick 6 0 0 0 [cO 11 h [.ref a0, .ref a1, .ref a2, .ref a3, .ref a4, .ref a5, .ref a6, .ref a7, .ref a8], cI M a0 1280 A, cZ M a1 3 hs, cI M a2 9 ht, cI M a3 9 bf, cI M a4 9 cu, cI M a5 32 fr, cI M a6 625 wo, cI M a7 625 wy, cI M a8 625 my] [.ref h, .int (zI y)] (fun u : Unit => True) (fun u => [cO 11 h [.ref a0, .ref a1, .ref a2, .ref a3, .ref a4, .ref a5, .ref a6, .ref a7, .ref a8], cI M a0 1280 A, cZ M a1 3 hs, cI M a2 9 (tkH (100 * (A (40 + y.toNat))) ht), cI M a3 9 ht, cI M a4 9 (fun s => cu s + tkC (tkH (100 * (A (40 + y.toNat))) ht s)), cI M a5 32 fr, cI M a6 625 wo, cI M a7 625 wy, cI M a8 625 my]) := by
  refine kCV.of [(0, .ref h), (1, .int (zI y))] (by decide) (Nat.le_of_ble_eq_true rfl) rfl (fun E gg gn hret => ?_)
  refine z_bipush (pc := 0) gg dX11_tick_0 (by decide +kernel) ?_
  refine z_aload_n (pc := 2) 0 gg dX11_tick_2 rfl rfl ?_
  refine z_get (pc := 3) 0 gg fl_X11_7 dX11_tick_3 rfl rfl ?_
  refine z_bipush (pc := 6) gg dX11_tick_6 (by decide +kernel) ?_
  refine z_iload_n (pc := 8) 1 gg dX11_tick_8 rfl rfl ?_
  refine z_iadd (pc := 9) gg dX11_tick_9 ?_
  refine z_iald (pc := 10) 1 (40 + y.toNat) gg dX11_tick_10 rfl (by omega) (by omega) (by decide) ?_
  refine z_imul (pc := 11) gg dX11_tick_11 ?_
  refine z_istore_n (pc := 12) [(2, .int (zI (100 * (A (40 + y.toNat))))), (0, .ref h), (1, .int (zI y))] gg dX11_tick_12 rfl (Nat.le_of_ble_eq_true rfl) rfl ?_
  refine z_iconst (pc := 13) gg dX11_tick_13 ?_
  refine z_istore_n (pc := 14) [(3, .int (zI 0)), (2, .int (zI (100 * (A (40 + y.toNat))))), (0, .ref h), (1, .int (zI y))] gg dX11_tick_14 rfl (Nat.le_of_ble_eq_true rfl) rfl ?_
  have loop15 : ∀ (k15 : Nat) (i : Int) (b : Nat → Int), (0 ≤ i ∧ i ≤ 9) → (∀ j, j < i.toNat → b j = ht j) → 9 - i.toNat < k15 → kV M E 6 0 0 [cO 11 h [.ref a0, .ref a1, .ref a2, .ref a3, .ref a4, .ref a5, .ref a6, .ref a7, .ref a8], cI M a0 1280 A, cZ M a1 3 hs, cI M a2 9 ht, cI M a3 9 b, cI M a4 9 cu, cI M a5 32 fr, cI M a6 625 wo, cI M a7 625 wy, cI M a8 625 my] [(3, .int (zI i)), (2, .int (zI (100 * (A (40 + y.toNat))))), (0, .ref h), (1, .int (zI y))] 15 [] := by
    intro k15
    induction k15 with
    | zero => intro i b hi kb hm15; exact absurd hm15 (Nat.not_lt_zero _)
    | succ k15 ih15 =>
      intro i b hi kb hm15
      refine z_iload_n (pc := 15) 0 gg dX11_tick_15 rfl rfl ?_
      refine z_bipush (pc := 16) gg dX11_tick_16 (by decide +kernel) ?_
      refine z_icmp_ge (pc := 18) 39 gg dX11_tick_18 (by decide) ⟨by omega, by omega⟩ ⟨by omega, by omega⟩ (fun h18 => ?_) (fun h18 => ?_)
      · refine z_fun 4 ht [cO 11 h [.ref a0, .ref a1, .ref a2, .ref a3, .ref a4, .ref a5, .ref a6, .ref a7, .ref a8], cI M a0 1280 A, cZ M a1 3 hs, cI M a2 9 ht, cI M a3 9 ht, cI M a4 9 cu, cI M a5 32 fr, cI M a6 625 wo, cI M a7 625 wy, cI M a8 625 my] rfl (fun j hj => kb j (by omega)) rfl ?_
        refine z_iconst (pc := 39) gg dX11_tick_39 ?_
        refine z_istore_n (pc := 40) [(3, .int (zI 0)), (2, .int (zI (100 * (A (40 + y.toNat))))), (0, .ref h), (1, .int (zI y))] gg dX11_tick_40 rfl (Nat.le_of_ble_eq_true rfl) rfl ?_
        have loop41 : ∀ (k41 : Nat) (s : Int) (x w : Nat → Int), (0 ≤ s ∧ s ≤ 9) → (∀ j, j < s.toNat → x j = tkH (100 * (A (40 + y.toNat))) ht j) → (∀ j, s.toNat ≤ j → x j = ht j) → (∀ j, j < s.toNat → w j = cu j + tkC (tkH (100 * (A (40 + y.toNat))) ht j)) → (∀ j, s.toNat ≤ j → w j = cu j) → 9 - s.toNat < k41 → kV M E 6 0 0 [cO 11 h [.ref a0, .ref a1, .ref a2, .ref a3, .ref a4, .ref a5, .ref a6, .ref a7, .ref a8], cI M a0 1280 A, cZ M a1 3 hs, cI M a2 9 x, cI M a3 9 ht, cI M a4 9 w, cI M a5 32 fr, cI M a6 625 wo, cI M a7 625 wy, cI M a8 625 my] [(3, .int (zI s)), (2, .int (zI (100 * (A (40 + y.toNat))))), (0, .ref h), (1, .int (zI y))] 41 [] := by
          intro k41
          induction k41 with
          | zero => intro s x w hs1 k1 k2 k3 k4 hm41; exact absurd hm41 (Nat.not_lt_zero _)
          | succ k41 ih41 =>
            intro s x w hs1 k1 k2 k3 k4 hm41
            refine z_iload_n (pc := 41) 0 gg dX11_tick_41 rfl rfl ?_
            refine z_bipush (pc := 42) gg dX11_tick_42 (by decide +kernel) ?_
            refine z_icmp_ge (pc := 44) 151 gg dX11_tick_44 (by decide) ⟨by omega, by omega⟩ ⟨by omega, by omega⟩ (fun h44 => ?_) (fun h44 => ?_)
            · refine z_fun 3 (tkH (100 * (A (40 + y.toNat))) ht) [cO 11 h [.ref a0, .ref a1, .ref a2, .ref a3, .ref a4, .ref a5, .ref a6, .ref a7, .ref a8], cI M a0 1280 A, cZ M a1 3 hs, cI M a2 9 (tkH (100 * (A (40 + y.toNat))) ht), cI M a3 9 ht, cI M a4 9 w, cI M a5 32 fr, cI M a6 625 wo, cI M a7 625 wy, cI M a8 625 my] rfl (fun j hj => k1 j (by omega)) rfl ?_
              refine z_fun 5 (fun s => cu s + tkC (tkH (100 * (A (40 + y.toNat))) ht s)) [cO 11 h [.ref a0, .ref a1, .ref a2, .ref a3, .ref a4, .ref a5, .ref a6, .ref a7, .ref a8], cI M a0 1280 A, cZ M a1 3 hs, cI M a2 9 (tkH (100 * (A (40 + y.toNat))) ht), cI M a3 9 ht, cI M a4 9 (fun s => cu s + tkC (tkH (100 * (A (40 + y.toNat))) ht s)), cI M a5 32 fr, cI M a6 625 wo, cI M a7 625 wy, cI M a8 625 my] rfl (fun j hj => k3 j (by omega)) rfl ?_
              exact hret () 151 _ _ _ (Nat.le_of_ble_eq_true rfl) (Nat.le_of_ble_eq_true rfl) dX11_tick_151 trivial
            · refine z_iload_n (pc := 47) 0 gg dX11_tick_47 rfl rfl ?_
              refine z_if_ne (pc := 48) 55 gg dX11_tick_48 (by decide) ⟨by omega, by omega⟩ (fun h48 => ?_) (fun h48 => ?_)
              · refine z_aload_n (pc := 55) 2 gg dX11_tick_55 rfl rfl ?_
                refine z_get (pc := 56) 0 gg fl_X11_20 dX11_tick_56 rfl rfl ?_
                refine z_iload_n (pc := 59) 0 gg dX11_tick_59 rfl rfl ?_
                refine z_iconst (pc := 60) gg dX11_tick_60 ?_
                refine z_isub (pc := 61) gg dX11_tick_61 ?_
                refine z_iald (pc := 62) 4 (s.toNat - 1) gg dX11_tick_62 rfl (by omega) (by omega) (by decide) ?_
                have hf62 := hH (s.toNat - 1) (by omega)
                refine z_istore (pc := 63) [(4, .int (zI (ht (s.toNat - 1)))), (3, .int (zI s)), (2, .int (zI (100 * (A (40 + y.toNat))))), (0, .ref h), (1, .int (zI y))] gg dX11_tick_63 (Nat.le_of_ble_eq_true rfl) rfl ?_
                refine z_iload_n (pc := 65) 1 gg dX11_tick_65 rfl rfl ?_
                refine z_bipush (pc := 66) gg dX11_tick_66 (by decide +kernel) ?_
                refine z_icmp_ne (pc := 68) 75 gg dX11_tick_68 (by decide) ⟨by omega, by omega⟩ ⟨by omega, by omega⟩ (fun h68 => ?_) (fun h68 => ?_)
                · refine z_aload_n (pc := 75) 3 gg dX11_tick_75 rfl rfl ?_
                  refine z_get (pc := 76) 0 gg fl_X11_20 dX11_tick_76 rfl rfl ?_
                  refine z_iload_n (pc := 79) 1 gg dX11_tick_79 rfl rfl ?_
                  refine z_iconst (pc := 80) gg dX11_tick_80 ?_
                  refine z_iadd (pc := 81) gg dX11_tick_81 ?_
                  refine z_iald (pc := 82) 4 (s.toNat + 1) gg dX11_tick_82 rfl (by omega) (by omega) (by decide) ?_
                  have hf82 := hH (s.toNat + 1) (by omega)
                  refine z_istore (pc := 83) [(5, .int (zI (ht (s.toNat + 1)))), (4, .int (zI (ht (s.toNat - 1)))), (3, .int (zI s)), (2, .int (zI (100 * (A (40 + y.toNat))))), (0, .ref h), (1, .int (zI y))] gg dX11_tick_83 (Nat.le_of_ble_eq_true rfl) rfl ?_
                  refine z_aload_n (pc := 85) 4 gg dX11_tick_85 rfl rfl ?_
                  refine z_get (pc := 86) 0 gg fl_X11_17 dX11_tick_86 rfl rfl ?_
                  refine z_iload_n (pc := 89) 2 gg dX11_tick_89 rfl rfl ?_
                  refine z_dup2 (pc := 90) gg dX11_tick_90 rfl rfl ?_
                  refine z_iald (pc := 91) 3 s.toNat gg dX11_tick_91 rfl (by omega) (by omega) (by decide) ?_
                  refine z_iload (pc := 92) 1 gg dX11_tick_92 rfl ?_
                  refine z_iload (pc := 94) 0 gg dX11_tick_94 rfl ?_
                  refine z_iadd (pc := 96) gg dX11_tick_96 ?_
                  refine z_iconst (pc := 97) gg dX11_tick_97 ?_
                  refine z_aload_n (pc := 98) 4 gg dX11_tick_98 rfl rfl ?_
                  refine z_get (pc := 99) 0 gg fl_X11_20 dX11_tick_99 rfl rfl ?_
                  refine z_iload_n (pc := 102) 2 gg dX11_tick_102 rfl rfl ?_
                  refine z_iald (pc := 103) 4 s.toNat gg dX11_tick_103 rfl (by omega) (by omega) (by decide) ?_
                  have hf103 := hH s.toNat (by omega)
                  refine z_imul (pc := 104) gg dX11_tick_104 ?_
                  refine z_isub (pc := 105) gg dX11_tick_105 ?_
                  refine z_bipush (pc := 106) gg dX11_tick_106 (by decide +kernel) ?_
                  refine z_idiv (pc := 108) gg dX11_tick_108 ⟨by omega, by omega⟩ ⟨by omega, by omega⟩ (by omega) ?_
                  refine z_iadd (pc := 109) gg dX11_tick_109 ?_
                  refine z_top (fun nx h_nx => ?_)
                  have e_nx : nx = tkH (100 * (A (40 + y.toNat))) ht s.toNat := by
                    rw [h_nx, k2 _ (Nat.le_refl _)]
                    first
                    | (exfalso; omega)
                    | exact tkH_of (by omega) (Or.inl ⟨by omega, rfl⟩) (Or.inl ⟨by omega, rfl⟩)
                    | exact tkH_of (by omega) (Or.inl ⟨by omega, rfl⟩) (Or.inr ⟨by omega, rfl⟩)
                    | exact tkH_of (by omega) (Or.inr ⟨by omega, rfl⟩) (Or.inl ⟨by omega, rfl⟩)
                    | exact tkH_of (by omega) (Or.inr ⟨by omega, rfl⟩) (Or.inr ⟨by omega, rfl⟩)
                  have nb := tkH_b (hx_b hT hH) (s := s.toNat) (by omega)
                  rw [← e_nx] at nb
                  refine z_iast (pc := 110) 3 s.toNat [cO 11 h [.ref a0, .ref a1, .ref a2, .ref a3, .ref a4, .ref a5, .ref a6, .ref a7, .ref a8], cI M a0 1280 A, cZ M a1 3 hs, cI M a2 9 (zU x s.toNat nx), cI M a3 9 ht, cI M a4 9 w, cI M a5 32 fr, cI M a6 625 wo, cI M a7 625 wy, cI M a8 625 my] gg dX11_tick_110 rfl (by omega) (by omega) (by decide) rfl ?_
                  refine z_aload_n (pc := 111) 4 gg dX11_tick_111 rfl rfl ?_
                  refine z_get (pc := 112) 0 gg fl_X11_17 dX11_tick_112 rfl rfl ?_
                  refine z_iload_n (pc := 115) 2 gg dX11_tick_115 rfl rfl ?_
                  refine z_iald (pc := 116) 3 s.toNat gg dX11_tick_116 rfl (by omega) (by omega) (by decide) ?_
                  rw [show ((zU x s.toNat nx) s.toNat) = nx from by rw [zU_s]]
                  refine z_sipush (pc := 117) gg dX11_tick_117 (by decide +kernel) ?_
                  refine z_icmp_le (pc := 120) 145 gg dX11_tick_120 (by decide) ⟨by omega, by omega⟩ ⟨by omega, by omega⟩ (fun h120 => ?_) (fun h120 => ?_)
                  · refine z_iinc (pc := 145) 2 [(3, .int (zI (s + 1))), (5, .int (zI (ht (s.toNat + 1)))), (4, .int (zI (ht (s.toNat - 1)))), (2, .int (zI (100 * (A (40 + y.toNat))))), (0, .ref h), (1, .int (zI y))] gg dX11_tick_145 rfl (Nat.le_of_ble_eq_true rfl) rfl ?_
                    refine z_goto (pc := 148) 41 gg dX11_tick_148 (by decide) ?_
                    refine z_lv [(3, .int (zI (s + 1))), (2, .int (zI (100 * (A (40 + y.toNat))))), (0, .ref h), (1, .int (zI y))] [0, 3, 4, 5] rfl ?_
                    exact ih41 (s + 1) (zU x s.toNat nx) w (by omega) (zU_eq (g := tkH (100 * (A (40 + y.toNat))) ht) (by omega) k1 e_nx) (fun j hj => by rw [zU_n _ _ (by omega)]; exact k2 j (by omega)) (fun j hj => by
        by_cases e : j = s.toNat
        · rw [e, k4 _ (Nat.le_refl _)]; unfold tkC; rw [if_neg (by rw [← e_nx]; omega)]; omega
        · exact k3 j (by omega)) (fun j hj => k4 j (by omega)) (by omega)
                  · refine z_aload_n (pc := 123) 4 gg dX11_tick_123 rfl rfl ?_
                    refine z_get (pc := 124) 0 gg fl_X11_23 dX11_tick_124 rfl rfl ?_
                    refine z_iload_n (pc := 127) 2 gg dX11_tick_127 rfl rfl ?_
                    refine z_dup2 (pc := 128) gg dX11_tick_128 rfl rfl ?_
                    refine z_iald (pc := 129) 5 s.toNat gg dX11_tick_129 rfl (by omega) (by omega) (by decide) ?_
                    refine z_aload_n (pc := 130) 4 gg dX11_tick_130 rfl rfl ?_
                    refine z_get (pc := 131) 0 gg fl_X11_17 dX11_tick_131 rfl rfl ?_
                    refine z_iload_n (pc := 134) 2 gg dX11_tick_134 rfl rfl ?_
                    refine z_iald (pc := 135) 3 s.toNat gg dX11_tick_135 rfl (by omega) (by omega) (by decide) ?_
                    rw [show ((zU x s.toNat nx) s.toNat) = nx from by rw [zU_s]]
                    refine z_sipush (pc := 136) gg dX11_tick_136 (by decide +kernel) ?_
                    refine z_isub (pc := 139) gg dX11_tick_139 ?_
                    refine z_bipush (pc := 140) gg dX11_tick_140 (by decide +kernel) ?_
                    refine z_idivn (pc := 142) gg dX11_tick_142 (by omega) (by omega) (by omega) (by omega) ?_
                    refine z_iadd (pc := 143) gg dX11_tick_143 ?_
                    refine z_iast (pc := 144) 5 s.toNat [cO 11 h [.ref a0, .ref a1, .ref a2, .ref a3, .ref a4, .ref a5, .ref a6, .ref a7, .ref a8], cI M a0 1280 A, cZ M a1 3 hs, cI M a2 9 (zU x s.toNat nx), cI M a3 9 ht, cI M a4 9 (zU w s.toNat ((w s.toNat) + ((nx - 8000) / 100))), cI M a5 32 fr, cI M a6 625 wo, cI M a7 625 wy, cI M a8 625 my] gg dX11_tick_144 rfl (by omega) (by omega) (by decide) rfl ?_
                    refine z_iinc (pc := 145) 2 [(3, .int (zI (s + 1))), (5, .int (zI (ht (s.toNat + 1)))), (4, .int (zI (ht (s.toNat - 1)))), (2, .int (zI (100 * (A (40 + y.toNat))))), (0, .ref h), (1, .int (zI y))] gg dX11_tick_145 rfl (Nat.le_of_ble_eq_true rfl) rfl ?_
                    refine z_goto (pc := 148) 41 gg dX11_tick_148 (by decide) ?_
                    refine z_lv [(3, .int (zI (s + 1))), (2, .int (zI (100 * (A (40 + y.toNat))))), (0, .ref h), (1, .int (zI y))] [0, 3, 4, 5] rfl ?_
                    exact ih41 (s + 1) (zU x s.toNat nx) (zU w s.toNat ((w s.toNat) + ((nx - 8000) / 100))) (by omega) (zU_eq (g := tkH (100 * (A (40 + y.toNat))) ht) (by omega) k1 e_nx) (fun j hj => by rw [zU_n _ _ (by omega)]; exact k2 j (by omega)) (fun j hj => by
        by_cases e : j = s.toNat
        · rw [e, zU_s, k4 _ (Nat.le_refl _)]; unfold tkC; rw [if_pos (by rw [← e_nx]; omega), ← e_nx]
        · rw [zU_n _ _ e]; exact k3 j (by omega)) (fun j hj => by rw [zU_n _ _ (by omega)]; exact k4 j (by omega)) (by omega)
                · refine z_iload_n (pc := 71) 2 gg dX11_tick_71 rfl rfl ?_
                  refine z_goto (pc := 72) 83 gg dX11_tick_72 (by decide) ?_
                  refine z_istore (pc := 83) [(5, .int (zI (100 * (A (40 + y.toNat))))), (4, .int (zI (ht (s.toNat - 1)))), (3, .int (zI s)), (2, .int (zI (100 * (A (40 + y.toNat))))), (0, .ref h), (1, .int (zI y))] gg dX11_tick_83 (Nat.le_of_ble_eq_true rfl) rfl ?_
                  refine z_aload_n (pc := 85) 4 gg dX11_tick_85 rfl rfl ?_
                  refine z_get (pc := 86) 0 gg fl_X11_17 dX11_tick_86 rfl rfl ?_
                  refine z_iload_n (pc := 89) 2 gg dX11_tick_89 rfl rfl ?_
                  refine z_dup2 (pc := 90) gg dX11_tick_90 rfl rfl ?_
                  refine z_iald (pc := 91) 3 s.toNat gg dX11_tick_91 rfl (by omega) (by omega) (by decide) ?_
                  refine z_iload (pc := 92) 1 gg dX11_tick_92 rfl ?_
                  refine z_iload (pc := 94) 0 gg dX11_tick_94 rfl ?_
                  refine z_iadd (pc := 96) gg dX11_tick_96 ?_
                  refine z_iconst (pc := 97) gg dX11_tick_97 ?_
                  refine z_aload_n (pc := 98) 4 gg dX11_tick_98 rfl rfl ?_
                  refine z_get (pc := 99) 0 gg fl_X11_20 dX11_tick_99 rfl rfl ?_
                  refine z_iload_n (pc := 102) 2 gg dX11_tick_102 rfl rfl ?_
                  refine z_iald (pc := 103) 4 s.toNat gg dX11_tick_103 rfl (by omega) (by omega) (by decide) ?_
                  have hf103 := hH s.toNat (by omega)
                  refine z_imul (pc := 104) gg dX11_tick_104 ?_
                  refine z_isub (pc := 105) gg dX11_tick_105 ?_
                  refine z_bipush (pc := 106) gg dX11_tick_106 (by decide +kernel) ?_
                  refine z_idiv (pc := 108) gg dX11_tick_108 ⟨by omega, by omega⟩ ⟨by omega, by omega⟩ (by omega) ?_
                  refine z_iadd (pc := 109) gg dX11_tick_109 ?_
                  refine z_top (fun nx h_nx => ?_)
                  have e_nx : nx = tkH (100 * (A (40 + y.toNat))) ht s.toNat := by
                    rw [h_nx, k2 _ (Nat.le_refl _)]
                    first
                    | (exfalso; omega)
                    | exact tkH_of (by omega) (Or.inl ⟨by omega, rfl⟩) (Or.inl ⟨by omega, rfl⟩)
                    | exact tkH_of (by omega) (Or.inl ⟨by omega, rfl⟩) (Or.inr ⟨by omega, rfl⟩)
                    | exact tkH_of (by omega) (Or.inr ⟨by omega, rfl⟩) (Or.inl ⟨by omega, rfl⟩)
                    | exact tkH_of (by omega) (Or.inr ⟨by omega, rfl⟩) (Or.inr ⟨by omega, rfl⟩)
                  have nb := tkH_b (hx_b hT hH) (s := s.toNat) (by omega)
                  rw [← e_nx] at nb
                  refine z_iast (pc := 110) 3 s.toNat [cO 11 h [.ref a0, .ref a1, .ref a2, .ref a3, .ref a4, .ref a5, .ref a6, .ref a7, .ref a8], cI M a0 1280 A, cZ M a1 3 hs, cI M a2 9 (zU x s.toNat nx), cI M a3 9 ht, cI M a4 9 w, cI M a5 32 fr, cI M a6 625 wo, cI M a7 625 wy, cI M a8 625 my] gg dX11_tick_110 rfl (by omega) (by omega) (by decide) rfl ?_
                  refine z_aload_n (pc := 111) 4 gg dX11_tick_111 rfl rfl ?_
                  refine z_get (pc := 112) 0 gg fl_X11_17 dX11_tick_112 rfl rfl ?_
                  refine z_iload_n (pc := 115) 2 gg dX11_tick_115 rfl rfl ?_
                  refine z_iald (pc := 116) 3 s.toNat gg dX11_tick_116 rfl (by omega) (by omega) (by decide) ?_
                  rw [show ((zU x s.toNat nx) s.toNat) = nx from by rw [zU_s]]
                  refine z_sipush (pc := 117) gg dX11_tick_117 (by decide +kernel) ?_
                  refine z_icmp_le (pc := 120) 145 gg dX11_tick_120 (by decide) ⟨by omega, by omega⟩ ⟨by omega, by omega⟩ (fun h120 => ?_) (fun h120 => ?_)
                  · refine z_iinc (pc := 145) 2 [(3, .int (zI (s + 1))), (5, .int (zI (100 * (A (40 + y.toNat))))), (4, .int (zI (ht (s.toNat - 1)))), (2, .int (zI (100 * (A (40 + y.toNat))))), (0, .ref h), (1, .int (zI y))] gg dX11_tick_145 rfl (Nat.le_of_ble_eq_true rfl) rfl ?_
                    refine z_goto (pc := 148) 41 gg dX11_tick_148 (by decide) ?_
                    refine z_lv [(3, .int (zI (s + 1))), (2, .int (zI (100 * (A (40 + y.toNat))))), (0, .ref h), (1, .int (zI y))] [0, 3, 4, 5] rfl ?_
                    exact ih41 (s + 1) (zU x s.toNat nx) w (by omega) (zU_eq (g := tkH (100 * (A (40 + y.toNat))) ht) (by omega) k1 e_nx) (fun j hj => by rw [zU_n _ _ (by omega)]; exact k2 j (by omega)) (fun j hj => by
        by_cases e : j = s.toNat
        · rw [e, k4 _ (Nat.le_refl _)]; unfold tkC; rw [if_neg (by rw [← e_nx]; omega)]; omega
        · exact k3 j (by omega)) (fun j hj => k4 j (by omega)) (by omega)
                  · refine z_aload_n (pc := 123) 4 gg dX11_tick_123 rfl rfl ?_
                    refine z_get (pc := 124) 0 gg fl_X11_23 dX11_tick_124 rfl rfl ?_
                    refine z_iload_n (pc := 127) 2 gg dX11_tick_127 rfl rfl ?_
                    refine z_dup2 (pc := 128) gg dX11_tick_128 rfl rfl ?_
                    refine z_iald (pc := 129) 5 s.toNat gg dX11_tick_129 rfl (by omega) (by omega) (by decide) ?_
                    refine z_aload_n (pc := 130) 4 gg dX11_tick_130 rfl rfl ?_
                    refine z_get (pc := 131) 0 gg fl_X11_17 dX11_tick_131 rfl rfl ?_
                    refine z_iload_n (pc := 134) 2 gg dX11_tick_134 rfl rfl ?_
                    refine z_iald (pc := 135) 3 s.toNat gg dX11_tick_135 rfl (by omega) (by omega) (by decide) ?_
                    rw [show ((zU x s.toNat nx) s.toNat) = nx from by rw [zU_s]]
                    refine z_sipush (pc := 136) gg dX11_tick_136 (by decide +kernel) ?_
                    refine z_isub (pc := 139) gg dX11_tick_139 ?_
                    refine z_bipush (pc := 140) gg dX11_tick_140 (by decide +kernel) ?_
                    refine z_idivn (pc := 142) gg dX11_tick_142 (by omega) (by omega) (by omega) (by omega) ?_
                    refine z_iadd (pc := 143) gg dX11_tick_143 ?_
                    refine z_iast (pc := 144) 5 s.toNat [cO 11 h [.ref a0, .ref a1, .ref a2, .ref a3, .ref a4, .ref a5, .ref a6, .ref a7, .ref a8], cI M a0 1280 A, cZ M a1 3 hs, cI M a2 9 (zU x s.toNat nx), cI M a3 9 ht, cI M a4 9 (zU w s.toNat ((w s.toNat) + ((nx - 8000) / 100))), cI M a5 32 fr, cI M a6 625 wo, cI M a7 625 wy, cI M a8 625 my] gg dX11_tick_144 rfl (by omega) (by omega) (by decide) rfl ?_
                    refine z_iinc (pc := 145) 2 [(3, .int (zI (s + 1))), (5, .int (zI (100 * (A (40 + y.toNat))))), (4, .int (zI (ht (s.toNat - 1)))), (2, .int (zI (100 * (A (40 + y.toNat))))), (0, .ref h), (1, .int (zI y))] gg dX11_tick_145 rfl (Nat.le_of_ble_eq_true rfl) rfl ?_
                    refine z_goto (pc := 148) 41 gg dX11_tick_148 (by decide) ?_
                    refine z_lv [(3, .int (zI (s + 1))), (2, .int (zI (100 * (A (40 + y.toNat))))), (0, .ref h), (1, .int (zI y))] [0, 3, 4, 5] rfl ?_
                    exact ih41 (s + 1) (zU x s.toNat nx) (zU w s.toNat ((w s.toNat) + ((nx - 8000) / 100))) (by omega) (zU_eq (g := tkH (100 * (A (40 + y.toNat))) ht) (by omega) k1 e_nx) (fun j hj => by rw [zU_n _ _ (by omega)]; exact k2 j (by omega)) (fun j hj => by
        by_cases e : j = s.toNat
        · rw [e, zU_s, k4 _ (Nat.le_refl _)]; unfold tkC; rw [if_pos (by rw [← e_nx]; omega), ← e_nx]
        · rw [zU_n _ _ e]; exact k3 j (by omega)) (fun j hj => by rw [zU_n _ _ (by omega)]; exact k4 j (by omega)) (by omega)
              · refine z_iload_n (pc := 51) 1 gg dX11_tick_51 rfl rfl ?_
                refine z_goto (pc := 52) 63 gg dX11_tick_52 (by decide) ?_
                refine z_istore (pc := 63) [(4, .int (zI (100 * (A (40 + y.toNat))))), (3, .int (zI s)), (2, .int (zI (100 * (A (40 + y.toNat))))), (0, .ref h), (1, .int (zI y))] gg dX11_tick_63 (Nat.le_of_ble_eq_true rfl) rfl ?_
                refine z_iload_n (pc := 65) 1 gg dX11_tick_65 rfl rfl ?_
                refine z_bipush (pc := 66) gg dX11_tick_66 (by decide +kernel) ?_
                refine z_icmp_ne (pc := 68) 75 gg dX11_tick_68 (by decide) ⟨by omega, by omega⟩ ⟨by omega, by omega⟩ (fun h68 => ?_) (fun h68 => ?_)
                · refine z_aload_n (pc := 75) 3 gg dX11_tick_75 rfl rfl ?_
                  refine z_get (pc := 76) 0 gg fl_X11_20 dX11_tick_76 rfl rfl ?_
                  refine z_iload_n (pc := 79) 1 gg dX11_tick_79 rfl rfl ?_
                  refine z_iconst (pc := 80) gg dX11_tick_80 ?_
                  refine z_iadd (pc := 81) gg dX11_tick_81 ?_
                  refine z_iald (pc := 82) 4 (s.toNat + 1) gg dX11_tick_82 rfl (by omega) (by omega) (by decide) ?_
                  have hf82 := hH (s.toNat + 1) (by omega)
                  refine z_istore (pc := 83) [(5, .int (zI (ht (s.toNat + 1)))), (4, .int (zI (100 * (A (40 + y.toNat))))), (3, .int (zI s)), (2, .int (zI (100 * (A (40 + y.toNat))))), (0, .ref h), (1, .int (zI y))] gg dX11_tick_83 (Nat.le_of_ble_eq_true rfl) rfl ?_
                  refine z_aload_n (pc := 85) 4 gg dX11_tick_85 rfl rfl ?_
                  refine z_get (pc := 86) 0 gg fl_X11_17 dX11_tick_86 rfl rfl ?_
                  refine z_iload_n (pc := 89) 2 gg dX11_tick_89 rfl rfl ?_
                  refine z_dup2 (pc := 90) gg dX11_tick_90 rfl rfl ?_
                  refine z_iald (pc := 91) 3 s.toNat gg dX11_tick_91 rfl (by omega) (by omega) (by decide) ?_
                  refine z_iload (pc := 92) 1 gg dX11_tick_92 rfl ?_
                  refine z_iload (pc := 94) 0 gg dX11_tick_94 rfl ?_
                  refine z_iadd (pc := 96) gg dX11_tick_96 ?_
                  refine z_iconst (pc := 97) gg dX11_tick_97 ?_
                  refine z_aload_n (pc := 98) 4 gg dX11_tick_98 rfl rfl ?_
                  refine z_get (pc := 99) 0 gg fl_X11_20 dX11_tick_99 rfl rfl ?_
                  refine z_iload_n (pc := 102) 2 gg dX11_tick_102 rfl rfl ?_
                  refine z_iald (pc := 103) 4 s.toNat gg dX11_tick_103 rfl (by omega) (by omega) (by decide) ?_
                  have hf103 := hH s.toNat (by omega)
                  refine z_imul (pc := 104) gg dX11_tick_104 ?_
                  refine z_isub (pc := 105) gg dX11_tick_105 ?_
                  refine z_bipush (pc := 106) gg dX11_tick_106 (by decide +kernel) ?_
                  refine z_idiv (pc := 108) gg dX11_tick_108 ⟨by omega, by omega⟩ ⟨by omega, by omega⟩ (by omega) ?_
                  refine z_iadd (pc := 109) gg dX11_tick_109 ?_
                  refine z_top (fun nx h_nx => ?_)
                  have e_nx : nx = tkH (100 * (A (40 + y.toNat))) ht s.toNat := by
                    rw [h_nx, k2 _ (Nat.le_refl _)]
                    first
                    | (exfalso; omega)
                    | exact tkH_of (by omega) (Or.inl ⟨by omega, rfl⟩) (Or.inl ⟨by omega, rfl⟩)
                    | exact tkH_of (by omega) (Or.inl ⟨by omega, rfl⟩) (Or.inr ⟨by omega, rfl⟩)
                    | exact tkH_of (by omega) (Or.inr ⟨by omega, rfl⟩) (Or.inl ⟨by omega, rfl⟩)
                    | exact tkH_of (by omega) (Or.inr ⟨by omega, rfl⟩) (Or.inr ⟨by omega, rfl⟩)
                  have nb := tkH_b (hx_b hT hH) (s := s.toNat) (by omega)
                  rw [← e_nx] at nb
                  refine z_iast (pc := 110) 3 s.toNat [cO 11 h [.ref a0, .ref a1, .ref a2, .ref a3, .ref a4, .ref a5, .ref a6, .ref a7, .ref a8], cI M a0 1280 A, cZ M a1 3 hs, cI M a2 9 (zU x s.toNat nx), cI M a3 9 ht, cI M a4 9 w, cI M a5 32 fr, cI M a6 625 wo, cI M a7 625 wy, cI M a8 625 my] gg dX11_tick_110 rfl (by omega) (by omega) (by decide) rfl ?_
                  refine z_aload_n (pc := 111) 4 gg dX11_tick_111 rfl rfl ?_
                  refine z_get (pc := 112) 0 gg fl_X11_17 dX11_tick_112 rfl rfl ?_
                  refine z_iload_n (pc := 115) 2 gg dX11_tick_115 rfl rfl ?_
                  refine z_iald (pc := 116) 3 s.toNat gg dX11_tick_116 rfl (by omega) (by omega) (by decide) ?_
                  rw [show ((zU x s.toNat nx) s.toNat) = nx from by rw [zU_s]]
                  refine z_sipush (pc := 117) gg dX11_tick_117 (by decide +kernel) ?_
                  refine z_icmp_le (pc := 120) 145 gg dX11_tick_120 (by decide) ⟨by omega, by omega⟩ ⟨by omega, by omega⟩ (fun h120 => ?_) (fun h120 => ?_)
                  · refine z_iinc (pc := 145) 2 [(3, .int (zI (s + 1))), (5, .int (zI (ht (s.toNat + 1)))), (4, .int (zI (100 * (A (40 + y.toNat))))), (2, .int (zI (100 * (A (40 + y.toNat))))), (0, .ref h), (1, .int (zI y))] gg dX11_tick_145 rfl (Nat.le_of_ble_eq_true rfl) rfl ?_
                    refine z_goto (pc := 148) 41 gg dX11_tick_148 (by decide) ?_
                    refine z_lv [(3, .int (zI (s + 1))), (2, .int (zI (100 * (A (40 + y.toNat))))), (0, .ref h), (1, .int (zI y))] [0, 3, 4, 5] rfl ?_
                    exact ih41 (s + 1) (zU x s.toNat nx) w (by omega) (zU_eq (g := tkH (100 * (A (40 + y.toNat))) ht) (by omega) k1 e_nx) (fun j hj => by rw [zU_n _ _ (by omega)]; exact k2 j (by omega)) (fun j hj => by
        by_cases e : j = s.toNat
        · rw [e, k4 _ (Nat.le_refl _)]; unfold tkC; rw [if_neg (by rw [← e_nx]; omega)]; omega
        · exact k3 j (by omega)) (fun j hj => k4 j (by omega)) (by omega)
                  · refine z_aload_n (pc := 123) 4 gg dX11_tick_123 rfl rfl ?_
                    refine z_get (pc := 124) 0 gg fl_X11_23 dX11_tick_124 rfl rfl ?_
                    refine z_iload_n (pc := 127) 2 gg dX11_tick_127 rfl rfl ?_
                    refine z_dup2 (pc := 128) gg dX11_tick_128 rfl rfl ?_
                    refine z_iald (pc := 129) 5 s.toNat gg dX11_tick_129 rfl (by omega) (by omega) (by decide) ?_
                    refine z_aload_n (pc := 130) 4 gg dX11_tick_130 rfl rfl ?_
                    refine z_get (pc := 131) 0 gg fl_X11_17 dX11_tick_131 rfl rfl ?_
                    refine z_iload_n (pc := 134) 2 gg dX11_tick_134 rfl rfl ?_
                    refine z_iald (pc := 135) 3 s.toNat gg dX11_tick_135 rfl (by omega) (by omega) (by decide) ?_
                    rw [show ((zU x s.toNat nx) s.toNat) = nx from by rw [zU_s]]
                    refine z_sipush (pc := 136) gg dX11_tick_136 (by decide +kernel) ?_
                    refine z_isub (pc := 139) gg dX11_tick_139 ?_
                    refine z_bipush (pc := 140) gg dX11_tick_140 (by decide +kernel) ?_
                    refine z_idivn (pc := 142) gg dX11_tick_142 (by omega) (by omega) (by omega) (by omega) ?_
                    refine z_iadd (pc := 143) gg dX11_tick_143 ?_
                    refine z_iast (pc := 144) 5 s.toNat [cO 11 h [.ref a0, .ref a1, .ref a2, .ref a3, .ref a4, .ref a5, .ref a6, .ref a7, .ref a8], cI M a0 1280 A, cZ M a1 3 hs, cI M a2 9 (zU x s.toNat nx), cI M a3 9 ht, cI M a4 9 (zU w s.toNat ((w s.toNat) + ((nx - 8000) / 100))), cI M a5 32 fr, cI M a6 625 wo, cI M a7 625 wy, cI M a8 625 my] gg dX11_tick_144 rfl (by omega) (by omega) (by decide) rfl ?_
                    refine z_iinc (pc := 145) 2 [(3, .int (zI (s + 1))), (5, .int (zI (ht (s.toNat + 1)))), (4, .int (zI (100 * (A (40 + y.toNat))))), (2, .int (zI (100 * (A (40 + y.toNat))))), (0, .ref h), (1, .int (zI y))] gg dX11_tick_145 rfl (Nat.le_of_ble_eq_true rfl) rfl ?_
                    refine z_goto (pc := 148) 41 gg dX11_tick_148 (by decide) ?_
                    refine z_lv [(3, .int (zI (s + 1))), (2, .int (zI (100 * (A (40 + y.toNat))))), (0, .ref h), (1, .int (zI y))] [0, 3, 4, 5] rfl ?_
                    exact ih41 (s + 1) (zU x s.toNat nx) (zU w s.toNat ((w s.toNat) + ((nx - 8000) / 100))) (by omega) (zU_eq (g := tkH (100 * (A (40 + y.toNat))) ht) (by omega) k1 e_nx) (fun j hj => by rw [zU_n _ _ (by omega)]; exact k2 j (by omega)) (fun j hj => by
        by_cases e : j = s.toNat
        · rw [e, zU_s, k4 _ (Nat.le_refl _)]; unfold tkC; rw [if_pos (by rw [← e_nx]; omega), ← e_nx]
        · rw [zU_n _ _ e]; exact k3 j (by omega)) (fun j hj => by rw [zU_n _ _ (by omega)]; exact k4 j (by omega)) (by omega)
                · refine z_iload_n (pc := 71) 2 gg dX11_tick_71 rfl rfl ?_
                  refine z_goto (pc := 72) 83 gg dX11_tick_72 (by decide) ?_
                  refine z_istore (pc := 83) [(5, .int (zI (100 * (A (40 + y.toNat))))), (4, .int (zI (100 * (A (40 + y.toNat))))), (3, .int (zI s)), (2, .int (zI (100 * (A (40 + y.toNat))))), (0, .ref h), (1, .int (zI y))] gg dX11_tick_83 (Nat.le_of_ble_eq_true rfl) rfl ?_
                  refine z_aload_n (pc := 85) 4 gg dX11_tick_85 rfl rfl ?_
                  refine z_get (pc := 86) 0 gg fl_X11_17 dX11_tick_86 rfl rfl ?_
                  refine z_iload_n (pc := 89) 2 gg dX11_tick_89 rfl rfl ?_
                  refine z_dup2 (pc := 90) gg dX11_tick_90 rfl rfl ?_
                  refine z_iald (pc := 91) 3 s.toNat gg dX11_tick_91 rfl (by omega) (by omega) (by decide) ?_
                  refine z_iload (pc := 92) 1 gg dX11_tick_92 rfl ?_
                  refine z_iload (pc := 94) 0 gg dX11_tick_94 rfl ?_
                  refine z_iadd (pc := 96) gg dX11_tick_96 ?_
                  refine z_iconst (pc := 97) gg dX11_tick_97 ?_
                  refine z_aload_n (pc := 98) 4 gg dX11_tick_98 rfl rfl ?_
                  refine z_get (pc := 99) 0 gg fl_X11_20 dX11_tick_99 rfl rfl ?_
                  refine z_iload_n (pc := 102) 2 gg dX11_tick_102 rfl rfl ?_
                  refine z_iald (pc := 103) 4 s.toNat gg dX11_tick_103 rfl (by omega) (by omega) (by decide) ?_
                  have hf103 := hH s.toNat (by omega)
                  refine z_imul (pc := 104) gg dX11_tick_104 ?_
                  refine z_isub (pc := 105) gg dX11_tick_105 ?_
                  refine z_bipush (pc := 106) gg dX11_tick_106 (by decide +kernel) ?_
                  refine z_idiv (pc := 108) gg dX11_tick_108 ⟨by omega, by omega⟩ ⟨by omega, by omega⟩ (by omega) ?_
                  refine z_iadd (pc := 109) gg dX11_tick_109 ?_
                  refine z_top (fun nx h_nx => ?_)
                  have e_nx : nx = tkH (100 * (A (40 + y.toNat))) ht s.toNat := by
                    rw [h_nx, k2 _ (Nat.le_refl _)]
                    first
                    | (exfalso; omega)
                    | exact tkH_of (by omega) (Or.inl ⟨by omega, rfl⟩) (Or.inl ⟨by omega, rfl⟩)
                    | exact tkH_of (by omega) (Or.inl ⟨by omega, rfl⟩) (Or.inr ⟨by omega, rfl⟩)
                    | exact tkH_of (by omega) (Or.inr ⟨by omega, rfl⟩) (Or.inl ⟨by omega, rfl⟩)
                    | exact tkH_of (by omega) (Or.inr ⟨by omega, rfl⟩) (Or.inr ⟨by omega, rfl⟩)
                  have nb := tkH_b (hx_b hT hH) (s := s.toNat) (by omega)
                  rw [← e_nx] at nb
                  refine z_iast (pc := 110) 3 s.toNat [cO 11 h [.ref a0, .ref a1, .ref a2, .ref a3, .ref a4, .ref a5, .ref a6, .ref a7, .ref a8], cI M a0 1280 A, cZ M a1 3 hs, cI M a2 9 (zU x s.toNat nx), cI M a3 9 ht, cI M a4 9 w, cI M a5 32 fr, cI M a6 625 wo, cI M a7 625 wy, cI M a8 625 my] gg dX11_tick_110 rfl (by omega) (by omega) (by decide) rfl ?_
                  refine z_aload_n (pc := 111) 4 gg dX11_tick_111 rfl rfl ?_
                  refine z_get (pc := 112) 0 gg fl_X11_17 dX11_tick_112 rfl rfl ?_
                  refine z_iload_n (pc := 115) 2 gg dX11_tick_115 rfl rfl ?_
                  refine z_iald (pc := 116) 3 s.toNat gg dX11_tick_116 rfl (by omega) (by omega) (by decide) ?_
                  rw [show ((zU x s.toNat nx) s.toNat) = nx from by rw [zU_s]]
                  refine z_sipush (pc := 117) gg dX11_tick_117 (by decide +kernel) ?_
                  refine z_icmp_le (pc := 120) 145 gg dX11_tick_120 (by decide) ⟨by omega, by omega⟩ ⟨by omega, by omega⟩ (fun h120 => ?_) (fun h120 => ?_)
                  · refine z_iinc (pc := 145) 2 [(3, .int (zI (s + 1))), (5, .int (zI (100 * (A (40 + y.toNat))))), (4, .int (zI (100 * (A (40 + y.toNat))))), (2, .int (zI (100 * (A (40 + y.toNat))))), (0, .ref h), (1, .int (zI y))] gg dX11_tick_145 rfl (Nat.le_of_ble_eq_true rfl) rfl ?_
                    refine z_goto (pc := 148) 41 gg dX11_tick_148 (by decide) ?_
                    refine z_lv [(3, .int (zI (s + 1))), (2, .int (zI (100 * (A (40 + y.toNat))))), (0, .ref h), (1, .int (zI y))] [0, 3, 4, 5] rfl ?_
                    exact ih41 (s + 1) (zU x s.toNat nx) w (by omega) (zU_eq (g := tkH (100 * (A (40 + y.toNat))) ht) (by omega) k1 e_nx) (fun j hj => by rw [zU_n _ _ (by omega)]; exact k2 j (by omega)) (fun j hj => by
        by_cases e : j = s.toNat
        · rw [e, k4 _ (Nat.le_refl _)]; unfold tkC; rw [if_neg (by rw [← e_nx]; omega)]; omega
        · exact k3 j (by omega)) (fun j hj => k4 j (by omega)) (by omega)
                  · refine z_aload_n (pc := 123) 4 gg dX11_tick_123 rfl rfl ?_
                    refine z_get (pc := 124) 0 gg fl_X11_23 dX11_tick_124 rfl rfl ?_
                    refine z_iload_n (pc := 127) 2 gg dX11_tick_127 rfl rfl ?_
                    refine z_dup2 (pc := 128) gg dX11_tick_128 rfl rfl ?_
                    refine z_iald (pc := 129) 5 s.toNat gg dX11_tick_129 rfl (by omega) (by omega) (by decide) ?_
                    refine z_aload_n (pc := 130) 4 gg dX11_tick_130 rfl rfl ?_
                    refine z_get (pc := 131) 0 gg fl_X11_17 dX11_tick_131 rfl rfl ?_
                    refine z_iload_n (pc := 134) 2 gg dX11_tick_134 rfl rfl ?_
                    refine z_iald (pc := 135) 3 s.toNat gg dX11_tick_135 rfl (by omega) (by omega) (by decide) ?_
                    rw [show ((zU x s.toNat nx) s.toNat) = nx from by rw [zU_s]]
                    refine z_sipush (pc := 136) gg dX11_tick_136 (by decide +kernel) ?_
                    refine z_isub (pc := 139) gg dX11_tick_139 ?_
                    refine z_bipush (pc := 140) gg dX11_tick_140 (by decide +kernel) ?_
                    refine z_idivn (pc := 142) gg dX11_tick_142 (by omega) (by omega) (by omega) (by omega) ?_
                    refine z_iadd (pc := 143) gg dX11_tick_143 ?_
                    refine z_iast (pc := 144) 5 s.toNat [cO 11 h [.ref a0, .ref a1, .ref a2, .ref a3, .ref a4, .ref a5, .ref a6, .ref a7, .ref a8], cI M a0 1280 A, cZ M a1 3 hs, cI M a2 9 (zU x s.toNat nx), cI M a3 9 ht, cI M a4 9 (zU w s.toNat ((w s.toNat) + ((nx - 8000) / 100))), cI M a5 32 fr, cI M a6 625 wo, cI M a7 625 wy, cI M a8 625 my] gg dX11_tick_144 rfl (by omega) (by omega) (by decide) rfl ?_
                    refine z_iinc (pc := 145) 2 [(3, .int (zI (s + 1))), (5, .int (zI (100 * (A (40 + y.toNat))))), (4, .int (zI (100 * (A (40 + y.toNat))))), (2, .int (zI (100 * (A (40 + y.toNat))))), (0, .ref h), (1, .int (zI y))] gg dX11_tick_145 rfl (Nat.le_of_ble_eq_true rfl) rfl ?_
                    refine z_goto (pc := 148) 41 gg dX11_tick_148 (by decide) ?_
                    refine z_lv [(3, .int (zI (s + 1))), (2, .int (zI (100 * (A (40 + y.toNat))))), (0, .ref h), (1, .int (zI y))] [0, 3, 4, 5] rfl ?_
                    exact ih41 (s + 1) (zU x s.toNat nx) (zU w s.toNat ((w s.toNat) + ((nx - 8000) / 100))) (by omega) (zU_eq (g := tkH (100 * (A (40 + y.toNat))) ht) (by omega) k1 e_nx) (fun j hj => by rw [zU_n _ _ (by omega)]; exact k2 j (by omega)) (fun j hj => by
        by_cases e : j = s.toNat
        · rw [e, zU_s, k4 _ (Nat.le_refl _)]; unfold tkC; rw [if_pos (by rw [← e_nx]; omega), ← e_nx]
        · rw [zU_n _ _ e]; exact k3 j (by omega)) (fun j hj => by rw [zU_n _ _ (by omega)]; exact k4 j (by omega)) (by omega)
        exact loop41 _ 0 ht cu (by omega) (fun j hj => absurd hj (by omega)) (fun j _ => rfl) (fun j hj => absurd hj (by omega)) (fun j _ => rfl) (Nat.lt_succ_self _)
      · refine z_aload_n (pc := 21) 2 gg dX11_tick_21 rfl rfl ?_
        refine z_get (pc := 22) 0 gg fl_X11_20 dX11_tick_22 rfl rfl ?_
        refine z_iload_n (pc := 25) 0 gg dX11_tick_25 rfl rfl ?_
        refine z_aload_n (pc := 26) 2 gg dX11_tick_26 rfl rfl ?_
        refine z_get (pc := 27) 0 gg fl_X11_17 dX11_tick_27 rfl rfl ?_
        refine z_iload_n (pc := 30) 0 gg dX11_tick_30 rfl rfl ?_
        refine z_iald (pc := 31) 3 i.toNat gg dX11_tick_31 rfl (by omega) (by omega) (by decide) ?_
        have hf31 := hH i.toNat (by omega)
        refine z_iast (pc := 32) 4 i.toNat [cO 11 h [.ref a0, .ref a1, .ref a2, .ref a3, .ref a4, .ref a5, .ref a6, .ref a7, .ref a8], cI M a0 1280 A, cZ M a1 3 hs, cI M a2 9 ht, cI M a3 9 (zU b i.toNat (ht i.toNat)), cI M a4 9 cu, cI M a5 32 fr, cI M a6 625 wo, cI M a7 625 wy, cI M a8 625 my] gg dX11_tick_32 rfl (by omega) (by omega) (by decide) rfl ?_
        refine z_iinc (pc := 33) 0 [(3, .int (zI (i + 1))), (2, .int (zI (100 * (A (40 + y.toNat))))), (0, .ref h), (1, .int (zI y))] gg dX11_tick_33 rfl (Nat.le_of_ble_eq_true rfl) rfl ?_
        refine z_goto (pc := 36) 15 gg dX11_tick_36 (by decide) ?_
        exact ih15 (i + 1) (zU b i.toNat (ht i.toNat)) (by omega) (zU_ext (by omega) kb) (by omega)
  exact loop15 _ 0 bf (by omega) (fun j hj => absurd hj (by omega)) (Nat.lt_succ_self _)
set_option maxHeartbeats 4000000 in
set_option maxRecDepth 100000 in
theorem c_m_steam (M : KM) (h a0 a1 a2 a3 a4 a5 a6 a7 a8 : Nat) (A hs ht bf cu fr wo wy my : Nat → Int) (x s : Int) (hx0 : 0 ≤ x ∧ x < 24) (hs0 : 0 ≤ s ∧ s < 9) (hD : 0 ≤ (A ((50 + (8 * x.toNat)) + 2)) ∧ (A ((50 + (8 * x.toNat)) + 2)) ≤ 20) (hH : ∀ j, j < 9 → 0 ≤ ht j ∧ ht j ≤ 25000) : kCI M yX11_steam cX11_steam 3 .int 0 0 0 [cO 11 h [.ref a0, .ref a1, .ref a2, .ref a3, .ref a4, .ref a5, .ref a6, .ref a7, .ref a8], cI M a0 1280 A, cZ M a1 3 hs, cI M a2 9 ht, cI M a3 9 bf, cI M a4 9 cu, cI M a5 32 fr, cI M a6 625 wo, cI M a7 625 wy, cI M a8 625 my] [.ref h, .int (zI x), .int (zI s)] (fun z (u : Unit) => z = stm (ht s.toNat) (A ((50 + (8 * x.toNat)) + 2))) (fun u => [cO 11 h [.ref a0, .ref a1, .ref a2, .ref a3, .ref a4, .ref a5, .ref a6, .ref a7, .ref a8], cI M a0 1280 A, cZ M a1 3 hs, cI M a2 9 ht, cI M a3 9 bf, cI M a4 9 cu, cI M a5 32 fr, cI M a6 625 wo, cI M a7 625 wy, cI M a8 625 my]) := by
  refine kCI.of [(0, .ref h), (1, .int (zI x)), (2, .int (zI s))] (by decide) (Nat.le_of_ble_eq_true rfl) rfl (fun E gg hret => ?_)
  have hb2 := hH s.toNat (by omega)
  refine z_aload_n (pc := 0) 0 gg dX11_steam_0 rfl rfl ?_
  refine z_get (pc := 1) 0 gg fl_X11_17 dX11_steam_1 rfl rfl ?_
  refine z_iload_n (pc := 4) 2 gg dX11_steam_4 rfl rfl ?_
  refine z_iald (pc := 5) 3 s.toNat gg dX11_steam_5 rfl (by omega) (by omega) (by decide) ?_
  refine z_sipush (pc := 6) gg dX11_steam_6 (by decide +kernel) ?_
  refine z_icmp_le (pc := 9) 43 gg dX11_steam_9 (by decide) ⟨by omega, by omega⟩ ⟨by omega, by omega⟩ (fun h9 => ?_) (fun h9 => ?_)
  · refine z_iconst (pc := 43) gg dX11_steam_43 ?_
    exact hret 0 () 44 _ _ _ (Nat.le_of_ble_eq_true rfl) (Nat.le_of_ble_eq_true rfl) dX11_steam_44 rfl (by unfold stm; rw [if_neg (by omega)])
  · refine z_aload_n (pc := 12) 0 gg dX11_steam_12 rfl rfl ?_
    refine z_get (pc := 13) 0 gg fl_X11_17 dX11_steam_13 rfl rfl ?_
    refine z_iload_n (pc := 16) 2 gg dX11_steam_16 rfl rfl ?_
    refine z_iald (pc := 17) 3 s.toNat gg dX11_steam_17 rfl (by omega) (by omega) (by decide) ?_
    refine z_sipush (pc := 18) gg dX11_steam_18 (by decide +kernel) ?_
    refine z_isub (pc := 21) gg dX11_steam_21 ?_
    refine z_aload_n (pc := 22) 0 gg dX11_steam_22 rfl rfl ?_
    refine z_get (pc := 23) 0 gg fl_X11_7 dX11_steam_23 rfl rfl ?_
    refine z_bipush (pc := 26) gg dX11_steam_26 (by decide +kernel) ?_
    refine z_bipush (pc := 28) gg dX11_steam_28 (by decide +kernel) ?_
    refine z_iload_n (pc := 30) 1 gg dX11_steam_30 rfl rfl ?_
    refine z_imul (pc := 31) gg dX11_steam_31 ?_
    refine z_iadd (pc := 32) gg dX11_steam_32 ?_
    refine z_iconst (pc := 33) gg dX11_steam_33 ?_
    refine z_iadd (pc := 34) gg dX11_steam_34 ?_
    refine z_iald (pc := 35) 1 ((50 + (8 * x.toNat)) + 2) gg dX11_steam_35 rfl (by omega) (by omega) (by decide) ?_
    have m1 : 0 ≤ (ht s.toNat - 10000) * (A ((50 + (8 * x.toNat)) + 2)) := Int.mul_nonneg (by omega) hD.1
    have m2 : (ht s.toNat - 10000) * (A ((50 + (8 * x.toNat)) + 2)) ≤ 15000 * 20 := Int.mul_le_mul (by omega) hD.2 hD.1 (by omega)
    refine z_imul (pc := 36) gg dX11_steam_36 ?_
    refine z_bipush (pc := 37) gg dX11_steam_37 (by decide +kernel) ?_
    refine z_idivn (pc := 39) gg dX11_steam_39 (by omega) (by omega) (by omega) (by omega) ?_
    refine z_goto (pc := 40) 44 gg dX11_steam_40 (by decide) ?_
    exact hret ((((ht s.toNat) - 10000) * (A ((50 + (8 * x.toNat)) + 2))) / 100) () 44 _ _ _ (Nat.le_of_ble_eq_true rfl) (Nat.le_of_ble_eq_true rfl) dX11_steam_44 rfl (by unfold stm; rw [if_pos (by omega)])
set_option maxHeartbeats 4000000 in
set_option maxRecDepth 100000 in
theorem c_m_mayOpen (M : KM) (h a0 a1 a2 a3 a4 a5 a6 a7 a8 : Nat) (A hs ht bf cu fr wo wy my : Nat → Int) (x : Int) (hx0 : 0 ≤ x ∧ x < 24) (hD : 0 ≤ (A ((50 + (8 * x.toNat)) + 2)) ∧ (A ((50 + (8 * x.toNat)) + 2)) ≤ 20) (hH : ∀ j, j < 9 → 0 ≤ ht j ∧ ht j ≤ 25000) (hC : ∀ j, j < 9 → 0 ≤ cu j ∧ cu j ≤ 1000000) (h7 : 1 ≤ A 7 ∧ A 7 ≤ 5000) : kCI M yX11_mayOpen cX11_mayOpen 4 .boolean 1 0 0 [cO 11 h [.ref a0, .ref a1, .ref a2, .ref a3, .ref a4, .ref a5, .ref a6, .ref a7, .ref a8], cI M a0 1280 A, cZ M a1 3 hs, cI M a2 9 ht, cI M a3 9 bf, cI M a4 9 cu, cI M a5 32 fr, cI M a6 625 wo, cI M a7 625 wy, cI M a8 625 my] [.ref h, .int (zI x)] (fun z (u : Unit) => (z = 1 ∧ opn ht cu (A 7) (A ((50 + (8 * x.toNat)) + 2))) ∨ (z = 0 ∧ ¬ opn ht cu (A 7) (A ((50 + (8 * x.toNat)) + 2)))) (fun u => [cO 11 h [.ref a0, .ref a1, .ref a2, .ref a3, .ref a4, .ref a5, .ref a6, .ref a7, .ref a8], cI M a0 1280 A, cZ M a1 3 hs, cI M a2 9 ht, cI M a3 9 bf, cI M a4 9 cu, cI M a5 32 fr, cI M a6 625 wo, cI M a7 625 wy, cI M a8 625 my]) := by
  refine kCI.of [(0, .ref h), (1, .int (zI x))] (by decide) (Nat.le_of_ble_eq_true rfl) rfl (fun E gg hret => ?_)
  refine z_iconst (pc := 0) gg dX11_mayOpen_0 ?_
  refine z_istore_n (pc := 1) [(2, .int (zI 1)), (0, .ref h), (1, .int (zI x))] gg dX11_mayOpen_1 rfl (Nat.le_of_ble_eq_true rfl) rfl ?_
  refine z_iconst (pc := 2) gg dX11_mayOpen_2 ?_
  refine z_istore_n (pc := 3) [(3, .int (zI 0)), (2, .int (zI 1)), (0, .ref h), (1, .int (zI x))] gg dX11_mayOpen_3 rfl (Nat.le_of_ble_eq_true rfl) rfl ?_
  have loop4 : ∀ (k4 : Nat) (i m : Int), (0 ≤ i ∧ i ≤ 9) → (m = 0 ∨ m = 1) → (m = 1 → ∀ s, s < i.toNat → A 7 ≤ cu s ∧ stm (ht s) (A ((50 + (8 * x.toNat)) + 2)) ≤ cu s) → (m = 0 → ¬ opn ht cu (A 7) (A ((50 + (8 * x.toNat)) + 2))) → 9 - i.toNat < k4 → kV M E 4 0 0 [cO 11 h [.ref a0, .ref a1, .ref a2, .ref a3, .ref a4, .ref a5, .ref a6, .ref a7, .ref a8], cI M a0 1280 A, cZ M a1 3 hs, cI M a2 9 ht, cI M a3 9 bf, cI M a4 9 cu, cI M a5 32 fr, cI M a6 625 wo, cI M a7 625 wy, cI M a8 625 my] [(3, .int (zI i)), (2, .int (zI m)), (0, .ref h), (1, .int (zI x))] 4 [] := by
    intro k4
    induction k4 with
    | zero => intro i m hi hm01 ko kn hm4; exact absurd hm4 (Nat.not_lt_zero _)
    | succ k4 ih4 =>
      intro i m hi hm01 ko kn hm4
      refine z_iload_n (pc := 4) 0 gg dX11_mayOpen_4 rfl rfl ?_
      refine z_bipush (pc := 5) gg dX11_mayOpen_5 (by decide +kernel) ?_
      refine z_icmp_ge (pc := 7) 57 gg dX11_mayOpen_7 (by decide) ⟨by omega, by omega⟩ ⟨by omega, by omega⟩ (fun h7 => ?_) (fun h7 => ?_)
      · refine z_iload_n (pc := 57) 1 gg dX11_mayOpen_57 rfl rfl ?_
        exact hret m () 58 _ _ _ (Nat.le_of_ble_eq_true rfl) (Nat.le_of_ble_eq_true rfl) dX11_mayOpen_58 (zB01 (by omega)) (by
      rcases hm01 with e | e
      · exact Or.inr ⟨e, kn e⟩
      · exact Or.inl ⟨e, fun s hs => ko e s (by omega)⟩)
      · refine z_iload_n (pc := 10) 1 gg dX11_mayOpen_10 rfl rfl ?_
        refine z_if_eq (pc := 11) 49 gg dX11_mayOpen_11 (by decide) ⟨by omega, by omega⟩ (fun h11 => ?_) (fun h11 => ?_)
        · refine z_iconst (pc := 49) gg dX11_mayOpen_49 ?_
          refine z_istore_n (pc := 50) [(2, .int (zI 0)), (3, .int (zI i)), (0, .ref h), (1, .int (zI x))] gg dX11_mayOpen_50 rfl (Nat.le_of_ble_eq_true rfl) rfl ?_
          refine z_iinc (pc := 51) 1 [(3, .int (zI (i + 1))), (2, .int (zI 0)), (0, .ref h), (1, .int (zI x))] gg dX11_mayOpen_51 rfl (Nat.le_of_ble_eq_true rfl) rfl ?_
          refine z_goto (pc := 54) 4 gg dX11_mayOpen_54 (by decide) ?_
          exact ih4 (i + 1) 0 (by omega) (by omega) (fun e => absurd e (by omega)) (fun _ => by first | exact kn (by omega) | exact fun ho => by have := ho i.toNat (by omega); omega) (by omega)
        · refine z_aload_n (pc := 14) 2 gg dX11_mayOpen_14 rfl rfl ?_
          refine z_get (pc := 15) 0 gg fl_X11_23 dX11_mayOpen_15 rfl rfl ?_
          refine z_iload_n (pc := 18) 0 gg dX11_mayOpen_18 rfl rfl ?_
          refine z_iald (pc := 19) 5 i.toNat gg dX11_mayOpen_19 rfl (by omega) (by omega) (by decide) ?_
          have hf19 := hC i.toNat (by omega)
          refine z_aload_n (pc := 20) 2 gg dX11_mayOpen_20 rfl rfl ?_
          refine z_get (pc := 21) 0 gg fl_X11_7 dX11_mayOpen_21 rfl rfl ?_
          refine z_bipush (pc := 24) gg dX11_mayOpen_24 (by decide +kernel) ?_
          refine z_iald (pc := 26) 1 7 gg dX11_mayOpen_26 rfl (by omega) (by omega) (by decide) ?_
          refine z_icmp_lt (pc := 27) 49 gg dX11_mayOpen_27 (by decide) ⟨by omega, by omega⟩ ⟨by omega, by omega⟩ (fun h27 => ?_) (fun h27 => ?_)
          · refine z_iconst (pc := 49) gg dX11_mayOpen_49 ?_
            refine z_istore_n (pc := 50) [(2, .int (zI 0)), (3, .int (zI i)), (0, .ref h), (1, .int (zI x))] gg dX11_mayOpen_50 rfl (Nat.le_of_ble_eq_true rfl) rfl ?_
            refine z_iinc (pc := 51) 1 [(3, .int (zI (i + 1))), (2, .int (zI 0)), (0, .ref h), (1, .int (zI x))] gg dX11_mayOpen_51 rfl (Nat.le_of_ble_eq_true rfl) rfl ?_
            refine z_goto (pc := 54) 4 gg dX11_mayOpen_54 (by decide) ?_
            exact ih4 (i + 1) 0 (by omega) (by omega) (fun e => absurd e (by omega)) (fun _ => by first | exact kn (by omega) | exact fun ho => by have := ho i.toNat (by omega); omega) (by omega)
          · refine z_aload_n (pc := 30) 2 gg dX11_mayOpen_30 rfl rfl ?_
            refine z_iload_n (pc := 31) 3 gg dX11_mayOpen_31 rfl rfl ?_
            refine z_iload_n (pc := 32) 0 gg dX11_mayOpen_32 rfl rfl ?_
            refine z_callWi (pc := 33) (As := [.int (zI x), .int (zI i)]) (st := []) gg (c_m_steam M h a0 a1 a2 a3 a4 a5 a6 a7 a8 A hs ht bf cu fr wo wy my x i (by first | assumption | omega | exact ⟨by omega, by omega⟩) (by first | assumption | omega | exact ⟨by omega, by omega⟩) hD hH) yv_11_steam ml_X11_62 dX11_mayOpen_33 (by decide) (Nat.le_of_ble_eq_true rfl) (Nat.le_of_ble_eq_true rfl) (Nat.le_of_ble_eq_true rfl) rfl rfl rfl (fun z33 u33 hz33 => ?_)
            have sb := stm_b (hH i.toNat (by omega)).2 hD
            rw [← hz33] at sb
            refine z_aload_n (pc := 36) 2 gg dX11_mayOpen_36 rfl rfl ?_
            refine z_get (pc := 37) 0 gg fl_X11_23 dX11_mayOpen_37 rfl rfl ?_
            refine z_iload_n (pc := 40) 0 gg dX11_mayOpen_40 rfl rfl ?_
            refine z_iald (pc := 41) 5 i.toNat gg dX11_mayOpen_41 rfl (by omega) (by omega) (by decide) ?_
            have hf41 := hC i.toNat (by omega)
            refine z_icmp_gt (pc := 42) 49 gg dX11_mayOpen_42 (by decide) ⟨by omega, by omega⟩ ⟨by omega, by omega⟩ (fun h42 => ?_) (fun h42 => ?_)
            · refine z_iconst (pc := 49) gg dX11_mayOpen_49 ?_
              refine z_istore_n (pc := 50) [(2, .int (zI 0)), (3, .int (zI i)), (0, .ref h), (1, .int (zI x))] gg dX11_mayOpen_50 rfl (Nat.le_of_ble_eq_true rfl) rfl ?_
              refine z_iinc (pc := 51) 1 [(3, .int (zI (i + 1))), (2, .int (zI 0)), (0, .ref h), (1, .int (zI x))] gg dX11_mayOpen_51 rfl (Nat.le_of_ble_eq_true rfl) rfl ?_
              refine z_goto (pc := 54) 4 gg dX11_mayOpen_54 (by decide) ?_
              exact ih4 (i + 1) 0 (by omega) (by omega) (fun e => absurd e (by omega)) (fun _ => by first | exact kn (by omega) | exact fun ho => by have := ho i.toNat (by omega); omega) (by omega)
            · refine z_iconst (pc := 45) gg dX11_mayOpen_45 ?_
              refine z_goto (pc := 46) 50 gg dX11_mayOpen_46 (by decide) ?_
              refine z_istore_n (pc := 50) [(2, .int (zI 1)), (3, .int (zI i)), (0, .ref h), (1, .int (zI x))] gg dX11_mayOpen_50 rfl (Nat.le_of_ble_eq_true rfl) rfl ?_
              refine z_iinc (pc := 51) 1 [(3, .int (zI (i + 1))), (2, .int (zI 1)), (0, .ref h), (1, .int (zI x))] gg dX11_mayOpen_51 rfl (Nat.le_of_ble_eq_true rfl) rfl ?_
              refine z_goto (pc := 54) 4 gg dX11_mayOpen_54 (by decide) ?_
              exact ih4 (i + 1) 1 (by omega) (by omega) (fun _ s hs => by
        by_cases e : s = i.toNat
        · rw [e]; exact ⟨by omega, by omega⟩
        · exact ko (by omega) s (by omega)) (fun e => absurd e (by omega)) (by omega)
  exact loop4 _ 0 1 (by omega) (by omega) (fun _ j hj => absurd hj (by omega)) (fun e => absurd e (by omega)) (Nat.lt_succ_self _)
set_option maxHeartbeats 4000000 in
set_option maxRecDepth 100000 in
theorem c_m_time (M : KM) (h a0 a1 a2 a3 a4 a5 a6 a7 a8 : Nat) (A hs ht bf cu fr wo wy my : Nat → Int) (x y : Int) (h2 : 0 ≤ A 2 ∧ A 2 ≤ 24) (h3 : 0 ≤ A 3 ∧ A 3 ≤ 4) (hP : ∀ j, j < (A 3).toNat → 100 ≤ A (40 + j) ∧ A (40 + j) ≤ 250) (hDa : ∀ j, j < (A 2).toNat → 0 ≤ A ((50 + (8 * j)) + 2) ∧ A ((50 + (8 * j)) + 2) ≤ 20) (h7 : 1 ≤ A 7 ∧ A 7 ≤ 5000) (hxr : zR x) (hyr : zR y) : kCI M yX11_time cX11_time 4 .int 2 0 0 [cO 11 h [.ref a0, .ref a1, .ref a2, .ref a3, .ref a4, .ref a5, .ref a6, .ref a7, .ref a8], cI M a0 1280 A, cZ M a1 3 hs, cI M a2 9 ht, cI M a3 9 bf, cI M a4 9 cu, cI M a5 32 fr, cI M a6 625 wo, cI M a7 625 wy, cI M a8 625 my] [.ref h, .int (zI x), .int (zI y)] (fun z (u : (Nat → Int) × (Nat → Int) × (Nat → Int)) => (0 ≤ x ∧ x < A 2 ∧ 0 ≤ y ∧ y < A 3 ∧ isT (100 * (A (40 + y.toNat))) (A 7) (A ((50 + (8 * x.toNat)) + 2)) z) ∨ ((x < 0 ∨ A 2 ≤ x ∨ y < 0 ∨ A 3 ≤ y) ∧ z = -1)) (fun u => [cO 11 h [.ref a0, .ref a1, .ref a2, .ref a3, .ref a4, .ref a5, .ref a6, .ref a7, .ref a8], cI M a0 1280 A, cZ M a1 3 hs, cI M a2 9 u.1, cI M a3 9 u.2.1, cI M a4 9 u.2.2, cI M a5 32 fr, cI M a6 625 wo, cI M a7 625 wy, cI M a8 625 my]) := by
  refine kCI.of [(0, .ref h), (1, .int (zI x)), (2, .int (zI y))] (by decide) (Nat.le_of_ble_eq_true rfl) rfl (fun E gg hret => ?_)
  have r1_hxr := hxr.1
  have r2_hxr := hxr.2
  have r1_hyr := hyr.1
  have r2_hyr := hyr.2
  refine z_aload_n (pc := 0) 0 gg dX11_time_0 rfl rfl ?_
  refine z_iload_n (pc := 1) 1 gg dX11_time_1 rfl rfl ?_
  refine z_iconst (pc := 2) gg dX11_time_2 ?_
  refine z_callWi (pc := 3) (As := [.int (zI x), .int (zI 2)]) (st := []) gg (c_mOf M h a0 a1 a2 a3 a4 a5 a6 a7 a8 A hs ht bf cu fr wo wy my x 2 (by first | assumption | omega | exact ⟨by omega, by omega⟩) (by first | assumption | omega | exact ⟨by omega, by omega⟩) (by first | assumption | omega | exact ⟨by omega, by omega⟩)) yv_11_isOf ml_X11_42 dX11_time_3 (by decide) (Nat.le_of_ble_eq_true rfl) (Nat.le_of_ble_eq_true rfl) (Nat.le_of_ble_eq_true rfl) rfl rfl rfl (fun z3 u3 hz3 => ?_)
  refine z_if_eq (pc := 6) 18 gg dX11_time_6 (by decide) ⟨by omega, by omega⟩ (fun h6 => ?_) (fun h6 => ?_)
  · refine z_iconst (pc := 18) gg dX11_time_18 ?_
    exact hret (-1) (ht, bf, cu) 19 _ _ _ (Nat.le_of_ble_eq_true rfl) (Nat.le_of_ble_eq_true rfl) dX11_time_19 rfl (Or.inr ⟨by omega, rfl⟩)
  · refine z_aload_n (pc := 9) 0 gg dX11_time_9 rfl rfl ?_
    refine z_iload_n (pc := 10) 2 gg dX11_time_10 rfl rfl ?_
    refine z_iconst (pc := 11) gg dX11_time_11 ?_
    refine z_callWi (pc := 12) (As := [.int (zI y), .int (zI 3)]) (st := []) gg (c_mOf M h a0 a1 a2 a3 a4 a5 a6 a7 a8 A hs ht bf cu fr wo wy my y 3 (by first | assumption | omega | exact ⟨by omega, by omega⟩) (by first | assumption | omega | exact ⟨by omega, by omega⟩) (by first | assumption | omega | exact ⟨by omega, by omega⟩)) yv_11_isOf ml_X11_42 dX11_time_12 (by decide) (Nat.le_of_ble_eq_true rfl) (Nat.le_of_ble_eq_true rfl) (Nat.le_of_ble_eq_true rfl) rfl rfl rfl (fun z12 u12 hz12 => ?_)
    refine z_if_ne (pc := 15) 20 gg dX11_time_15 (by decide) ⟨by omega, by omega⟩ (fun h15 => ?_) (fun h15 => ?_)
    · have hd1 := hDa x.toNat (by omega)
      have hp1 := hP y.toNat (by omega)
      have hTb : 0 ≤ (100 * (A (40 + y.toNat))) ∧ (100 * (A (40 + y.toNat))) ≤ 25000 := by omega
      refine z_aload_n (pc := 20) 0 gg dX11_time_20 rfl rfl ?_
      refine z_callWv (pc := 21) (As := []) (st := []) gg (c_m_cold M h a0 a1 a2 a3 a4 a5 a6 a7 a8 A hs ht bf cu fr wo wy my ) yv_11_cold ml_X11_66 dX11_time_21 (by decide) (Nat.le_of_ble_eq_true rfl) (Nat.le_of_ble_eq_true rfl) (Nat.le_of_ble_eq_true rfl) rfl rfl rfl (fun u21 hz21 => ?_)
      refine z_iconst (pc := 24) gg dX11_time_24 ?_
      refine z_istore_n (pc := 25) [(3, .int (zI 1)), (0, .ref h), (1, .int (zI x)), (2, .int (zI y))] gg dX11_time_25 rfl (Nat.le_of_ble_eq_true rfl) rfl ?_
      have loop26 : ∀ (k26 : Nat) (k : Int) (f1 f2 f3 : Nat → Int), (1 ≤ k ∧ k ≤ 401) → (f1 = sH (100 * (A (40 + y.toNat))) (k.toNat - 1)) → (f2 = sC (100 * (A (40 + y.toNat))) (k.toNat - 1)) → (∀ t, 1 ≤ t → t < k.toNat → ¬ opn (sH (100 * (A (40 + y.toNat))) t) (sC (100 * (A (40 + y.toNat))) t) (A 7) (A ((50 + (8 * x.toNat)) + 2))) → 401 - k.toNat < k26 → kV M E 4 0 0 [cO 11 h [.ref a0, .ref a1, .ref a2, .ref a3, .ref a4, .ref a5, .ref a6, .ref a7, .ref a8], cI M a0 1280 A, cZ M a1 3 hs, cI M a2 9 f1, cI M a3 9 f3, cI M a4 9 f2, cI M a5 32 fr, cI M a6 625 wo, cI M a7 625 wy, cI M a8 625 my] [(3, .int (zI k)), (0, .ref h), (1, .int (zI x)), (2, .int (zI y))] 26 [] := by
        intro k26
        induction k26 with
        | zero => intro k f1 f2 f3 hk k1 k2 k3 hm26; exact absurd hm26 (Nat.not_lt_zero _)
        | succ k26 ih26 =>
          intro k f1 f2 f3 hk k1 k2 k3 hm26
          refine z_iload_n (pc := 26) 0 gg dX11_time_26 rfl rfl ?_
          refine z_sipush (pc := 27) gg dX11_time_27 (by decide +kernel) ?_
          refine z_icmp_gt (pc := 30) 54 gg dX11_time_30 (by decide) ⟨by omega, by omega⟩ ⟨by omega, by omega⟩ (fun h30 => ?_) (fun h30 => ?_)
          · refine z_iconst (pc := 54) gg dX11_time_54 ?_
            exact hret (-1) (f1, f3, f2) 55 _ _ _ (Nat.le_of_ble_eq_true rfl) (Nat.le_of_ble_eq_true rfl) dX11_time_55 rfl (Or.inl ⟨by omega, by omega, by omega, by omega, Or.inl ⟨rfl, fun t a b => k3 t a (by omega)⟩⟩)
          · refine z_aload_n (pc := 33) 1 gg dX11_time_33 rfl rfl ?_
            refine z_iload_n (pc := 34) 3 gg dX11_time_34 rfl rfl ?_
            refine z_callWv (pc := 35) (As := [.int (zI y)]) (st := []) gg (c_m_tick M h a0 a1 a2 a3 a4 a5 a6 a7 a8 A hs f1 f3 f2 fr wo wy my y (by first | assumption | omega | exact ⟨by omega, by omega⟩) hTb (by rw [k1]; exact sH_b hTb _)) yv_11_tick ml_X11_69 dX11_time_35 (by decide) (Nat.le_of_ble_eq_true rfl) (Nat.le_of_ble_eq_true rfl) (Nat.le_of_ble_eq_true rfl) rfl rfl rfl (fun u35 hz35 => ?_)
            have hx1 : tkH (100 * (A (40 + y.toNat))) f1 = sH (100 * (A (40 + y.toNat))) k.toNat := by rw [k1]; rw [show k.toNat = (k.toNat - 1) + 1 by omega]; rfl
            have hx2 : (fun s => f2 s + tkC (tkH (100 * (A (40 + y.toNat))) f1 s)) = sC (100 * (A (40 + y.toNat))) k.toNat := by rw [hx1, k2]; rw [show k.toNat = (k.toNat - 1) + 1 by omega]; rfl
            refine z_aload_n (pc := 38) 1 gg dX11_time_38 rfl rfl ?_
            refine z_iload_n (pc := 39) 2 gg dX11_time_39 rfl rfl ?_
            refine z_callWi (pc := 40) (As := [.int (zI x)]) (st := []) gg (c_m_mayOpen M h a0 a1 a2 a3 a4 a5 a6 a7 a8 A hs (tkH (100 * (A (40 + y.toNat))) f1) f1 (fun s => f2 s + tkC (tkH (100 * (A (40 + y.toNat))) f1 s)) fr wo wy my x (by first | assumption | omega | exact ⟨by omega, by omega⟩) hd1 (by rw [hx1]; exact sH_b hTb _) (fun j hj => by have e9 : f2 j + tkC (tkH (100 * (A (40 + y.toNat))) f1 j) = sC (100 * (A (40 + y.toNat))) k.toNat j := congrFun hx2 j; have := sC_b hTb k.toNat j hj; omega) (by first | assumption | omega | exact ⟨by omega, by omega⟩)) yv_11_mayOpen ml_X11_73 dX11_time_40 (by decide) (Nat.le_of_ble_eq_true rfl) (Nat.le_of_ble_eq_true rfl) (Nat.le_of_ble_eq_true rfl) rfl rfl rfl (fun z40 u40 hz40 => ?_)
            refine z_if_eq (pc := 43) 48 gg dX11_time_43 (by decide) ⟨by omega, by omega⟩ (fun h43 => ?_) (fun h43 => ?_)
            · refine z_iinc (pc := 48) 0 [(3, .int (zI (k + 1))), (0, .ref h), (1, .int (zI x)), (2, .int (zI y))] gg dX11_time_48 rfl (Nat.le_of_ble_eq_true rfl) rfl ?_
              refine z_goto (pc := 51) 26 gg dX11_time_51 (by decide) ?_
              exact ih26 (k + 1) (tkH (100 * (A (40 + y.toNat))) f1) (fun s => f2 s + tkC (tkH (100 * (A (40 + y.toNat))) f1 s)) f1 (by omega) (by rw [hx1]; congr 1; omega) (by rw [hx2]; congr 1; omega) (fun t a b => by
        by_cases e : t = k.toNat
        · rw [e, ← hx1, ← hx2]; rcases hz40 with q | q
          · omega
          · exact q.2
        · exact k3 t a (by omega)) (by omega)
            · refine z_iload_n (pc := 46) 0 gg dX11_time_46 rfl rfl ?_
              exact hret k ((tkH (100 * (A (40 + y.toNat))) f1), f1, (fun s => f2 s + tkC (tkH (100 * (A (40 + y.toNat))) f1 s))) 47 _ _ _ (Nat.le_of_ble_eq_true rfl) (Nat.le_of_ble_eq_true rfl) dX11_time_47 rfl (Or.inl ⟨by omega, by omega, by omega, by omega, Or.inr ⟨by omega, by omega, by rw [← hx1, ← hx2]; rcases hz40 with q | q; exact q.2; omega, k3⟩⟩)
      exact loop26 _ 1 (fun _ => 2000) (fun _ => 0) bf (by omega) rfl rfl (fun t a b => absurd b (by have : (1 : Int).toNat = 1 := rfl; omega)) (Nat.lt_succ_self _)
    · refine z_iconst (pc := 18) gg dX11_time_18 ?_
      exact hret (-1) (ht, bf, cu) 19 _ _ _ (Nat.le_of_ble_eq_true rfl) (Nat.le_of_ble_eq_true rfl) dX11_time_19 rfl (Or.inr ⟨by omega, rfl⟩)
set_option maxHeartbeats 4000000 in
set_option maxRecDepth 100000 in
theorem c_m_fastest (M : KM) (h a0 a1 a2 a3 a4 a5 a6 a7 a8 : Nat) (A hs ht bf cu fr wo wy my : Nat → Int) (x : Int) (h2 : 0 ≤ A 2 ∧ A 2 ≤ 24) (h3 : 0 ≤ A 3 ∧ A 3 ≤ 4) (hP : ∀ j, j < (A 3).toNat → 100 ≤ A (40 + j) ∧ A (40 + j) ≤ 250) (hDa : ∀ j, j < (A 2).toNat → 0 ≤ A ((50 + (8 * j)) + 2) ∧ A ((50 + (8 * j)) + 2) ≤ 20) (h7 : 1 ≤ A 7 ∧ A 7 ≤ 5000) (hxr : zR x) : kCI M yX11_fastest cX11_fastest 6 .int 3 0 0 [cO 11 h [.ref a0, .ref a1, .ref a2, .ref a3, .ref a4, .ref a5, .ref a6, .ref a7, .ref a8], cI M a0 1280 A, cZ M a1 3 hs, cI M a2 9 ht, cI M a3 9 bf, cI M a4 9 cu, cI M a5 32 fr, cI M a6 625 wo, cI M a7 625 wy, cI M a8 625 my] [.ref h, .int (zI x)] (fun z (u : (Nat → Int) × (Nat → Int) × (Nat → Int)) => (0 ≤ x ∧ x < A 2 ∧ ∃ tf : Nat → Int, (∀ p, p < (A 3).toNat → isT (100 * (A (40 + p))) (A 7) (A ((50 + (8 * x.toNat)) + 2)) (tf p)) ∧ z = (faS tf (A 3).toNat).1) ∨ ((x < 0 ∨ A 2 ≤ x) ∧ z = -1)) (fun u => [cO 11 h [.ref a0, .ref a1, .ref a2, .ref a3, .ref a4, .ref a5, .ref a6, .ref a7, .ref a8], cI M a0 1280 A, cZ M a1 3 hs, cI M a2 9 u.1, cI M a3 9 u.2.1, cI M a4 9 u.2.2, cI M a5 32 fr, cI M a6 625 wo, cI M a7 625 wy, cI M a8 625 my]) := by
  refine kCI.of [(0, .ref h), (1, .int (zI x))] (by decide) (Nat.le_of_ble_eq_true rfl) rfl (fun E gg hret => ?_)
  have r1_hxr := hxr.1
  have r2_hxr := hxr.2
  refine z_iconst (pc := 0) gg dX11_fastest_0 ?_
  refine z_istore_n (pc := 1) [(2, .int (zI (-1))), (0, .ref h), (1, .int (zI x))] gg dX11_fastest_1 rfl (Nat.le_of_ble_eq_true rfl) rfl ?_
  refine z_sipush (pc := 2) gg dX11_fastest_2 (by decide +kernel) ?_
  refine z_istore_n (pc := 5) [(3, .int (zI 401)), (2, .int (zI (-1))), (0, .ref h), (1, .int (zI x))] gg dX11_fastest_5 rfl (Nat.le_of_ble_eq_true rfl) rfl ?_
  refine z_iconst (pc := 6) gg dX11_fastest_6 ?_
  refine z_istore (pc := 7) [(4, .int (zI 0)), (3, .int (zI 401)), (2, .int (zI (-1))), (0, .ref h), (1, .int (zI x))] gg dX11_fastest_7 (Nat.le_of_ble_eq_true rfl) rfl ?_
  have loop9 : ∀ (k9 : Nat) (i b l : Int) (f1 f2 f3 tf : Nat → Int), (0 ≤ i ∧ i ≤ A 3) → (b = (faS tf i.toNat).1) → (l = (faS tf i.toNat).2) → (∀ p, p < i.toNat → (0 ≤ x ∧ x < A 2 ∧ isT (100 * (A (40 + p))) (A 7) (A ((50 + (8 * x.toNat)) + 2)) (tf p)) ∨ ((x < 0 ∨ A 2 ≤ x) ∧ tf p = -1)) → (A 3).toNat - i.toNat < k9 → kV M E 6 0 0 [cO 11 h [.ref a0, .ref a1, .ref a2, .ref a3, .ref a4, .ref a5, .ref a6, .ref a7, .ref a8], cI M a0 1280 A, cZ M a1 3 hs, cI M a2 9 f1, cI M a3 9 f2, cI M a4 9 f3, cI M a5 32 fr, cI M a6 625 wo, cI M a7 625 wy, cI M a8 625 my] [(4, .int (zI i)), (3, .int (zI l)), (2, .int (zI b)), (0, .ref h), (1, .int (zI x))] 9 [] := by
    intro k9
    induction k9 with
    | zero => intro i b l f1 f2 f3 tf hi hb hl ht0 hm9; exact absurd hm9 (Nat.not_lt_zero _)
    | succ k9 ih9 =>
      intro i b l f1 f2 f3 tf hi hb hl ht0 hm9
      have hfb := faS_b (f := tf) (n := i.toNat) (fun p hp => by
        rcases ht0 p hp with ⟨_, _, q⟩ | ⟨_, q⟩
        · exact isT_b q
        · exact Or.inl q)
      rw [← hb, ← hl] at hfb
      refine z_iload (pc := 9) 0 gg dX11_fastest_9 rfl ?_
      refine z_aload_n (pc := 11) 3 gg dX11_fastest_11 rfl rfl ?_
      refine z_get (pc := 12) 0 gg fl_X11_7 dX11_fastest_12 rfl rfl ?_
      refine z_iconst (pc := 15) gg dX11_fastest_15 ?_
      refine z_iald (pc := 16) 1 3 gg dX11_fastest_16 rfl (by omega) (by omega) (by decide) ?_
      refine z_icmp_ge (pc := 17) 55 gg dX11_fastest_17 (by decide) ⟨by omega, by omega⟩ ⟨by omega, by omega⟩ (fun h17 => ?_) (fun h17 => ?_)
      · refine z_iload_n (pc := 55) 2 gg dX11_fastest_55 rfl rfl ?_
        exact hret b (f1, f2, f3) 56 _ _ _ (Nat.le_of_ble_eq_true rfl) (Nat.le_of_ble_eq_true rfl) dX11_fastest_56 rfl (by
      rw [show i.toNat = (A 3).toNat by omega] at hb ht0
      by_cases c : 0 ≤ x ∧ x < A 2
      · refine Or.inl ⟨c.1, c.2, tf, fun p hp => ?_, hb⟩
        rcases ht0 p hp with ⟨_, _, q⟩ | ⟨q, _⟩
        · exact q
        · omega
      · refine Or.inr ⟨by omega, ?_⟩
        rw [hb, faS_no (n := 0) (m := (A 3).toNat) (by omega) (fun p a b2 => by
            rcases ht0 p b2 with ⟨_, _, _⟩ | ⟨_, q⟩
            · omega
            · exact q)]
        rfl)
      · refine z_aload_n (pc := 20) 3 gg dX11_fastest_20 rfl rfl ?_
        refine z_iload_n (pc := 21) 4 gg dX11_fastest_21 rfl rfl ?_
        refine z_iload (pc := 22) 0 gg dX11_fastest_22 rfl ?_
        refine z_callWi (pc := 24) (As := [.int (zI x), .int (zI i)]) (st := []) gg (c_m_time M h a0 a1 a2 a3 a4 a5 a6 a7 a8 A hs f1 f2 f3 fr wo wy my x i h2 h3 hP hDa h7 (by first | assumption | omega | exact ⟨by omega, by omega⟩) (by first | assumption | omega | exact ⟨by omega, by omega⟩)) yv_11_time ml_X11_77 dX11_fastest_24 (by decide) (Nat.le_of_ble_eq_true rfl) (Nat.le_of_ble_eq_true rfl) (Nat.le_of_ble_eq_true rfl) rfl rfl rfl (fun z24 u24 hz24 => ?_)
        have hz9 : z24 = -1 ∨ (1 ≤ z24 ∧ z24 ≤ 400) := by
          rcases hz24 with ⟨_, _, _, _, q⟩ | ⟨_, q⟩
          · exact isT_b q
          · exact Or.inl q
        refine z_istore (pc := 27) [(5, .int (zI z24)), (4, .int (zI i)), (3, .int (zI l)), (2, .int (zI b)), (0, .ref h), (1, .int (zI x))] gg dX11_fastest_27 (Nat.le_of_ble_eq_true rfl) rfl ?_
        refine z_iload (pc := 29) 0 gg dX11_fastest_29 rfl ?_
        refine z_if_lt (pc := 31) 49 gg dX11_fastest_31 (by decide) ⟨by omega, by omega⟩ (fun h31 => ?_) (fun h31 => ?_)
        · refine z_iinc (pc := 49) 1 [(4, .int (zI (i + 1))), (5, .int (zI z24)), (3, .int (zI l)), (2, .int (zI b)), (0, .ref h), (1, .int (zI x))] gg dX11_fastest_49 rfl (Nat.le_of_ble_eq_true rfl) rfl ?_
          refine z_goto (pc := 52) 9 gg dX11_fastest_52 (by decide) ?_
          refine z_lv [(4, .int (zI (i + 1))), (3, .int (zI l)), (2, .int (zI b)), (0, .ref h), (1, .int (zI x))] [0, 2, 3, 4, 5] rfl ?_
          have hcg : faS (zU tf i.toNat z24) i.toNat = faS tf i.toNat := faS_cong (fun p hp => by rw [zU_n _ _ (by omega)])
          have hst : faS (zU tf i.toNat z24) (i + 1).toNat = if z24 = -1 ∨ l ≤ z24 then faS tf i.toNat else (i, z24) := by
            rw [show (i + 1).toNat = i.toNat + 1 by omega]
            show (if zU tf i.toNat z24 i.toNat = -1 ∨ (faS (zU tf i.toNat z24) i.toNat).2 ≤ zU tf i.toNat z24 i.toNat then _ else (((i.toNat : Nat) : Int), zU tf i.toNat z24 i.toNat)) = _
            rw [zU_s, hcg, ← hl, show ((i.toNat : Nat) : Int) = i by omega]
          exact ih9 (i + 1) b l u24.1 u24.2.1 u24.2.2 (zU tf i.toNat z24) (by omega) (by rw [hst, if_pos (by omega)]; exact hb) (by rw [hst, if_pos (by omega)]; exact hl) (fun p hp => by
          by_cases e : p = i.toNat
          · rw [e, zU_s]
            rcases hz24 with ⟨q1, q2, q3, q4, q5⟩ | ⟨q1, q2⟩
            · exact Or.inl ⟨q1, q2, q5⟩
            · exact Or.inr ⟨by omega, q2⟩
          · rw [zU_n _ _ e]; exact ht0 p (by omega)) (by omega)
        · refine z_iload (pc := 34) 0 gg dX11_fastest_34 rfl ?_
          refine z_iload_n (pc := 36) 2 gg dX11_fastest_36 rfl rfl ?_
          refine z_icmp_lt (pc := 37) 43 gg dX11_fastest_37 (by decide) ⟨by omega, by omega⟩ ⟨by omega, by omega⟩ (fun h37 => ?_) (fun h37 => ?_)
          · refine z_iload (pc := 43) 0 gg dX11_fastest_43 rfl ?_
            refine z_istore_n (pc := 45) [(3, .int (zI z24)), (5, .int (zI z24)), (4, .int (zI i)), (2, .int (zI b)), (0, .ref h), (1, .int (zI x))] gg dX11_fastest_45 rfl (Nat.le_of_ble_eq_true rfl) rfl ?_
            refine z_iload (pc := 46) 2 gg dX11_fastest_46 rfl ?_
            refine z_istore_n (pc := 48) [(2, .int (zI i)), (3, .int (zI z24)), (5, .int (zI z24)), (4, .int (zI i)), (0, .ref h), (1, .int (zI x))] gg dX11_fastest_48 rfl (Nat.le_of_ble_eq_true rfl) rfl ?_
            refine z_iinc (pc := 49) 3 [(4, .int (zI (i + 1))), (2, .int (zI i)), (3, .int (zI z24)), (5, .int (zI z24)), (0, .ref h), (1, .int (zI x))] gg dX11_fastest_49 rfl (Nat.le_of_ble_eq_true rfl) rfl ?_
            refine z_goto (pc := 52) 9 gg dX11_fastest_52 (by decide) ?_
            refine z_lv [(4, .int (zI (i + 1))), (3, .int (zI z24)), (2, .int (zI i)), (0, .ref h), (1, .int (zI x))] [0, 2, 1, 4, 5] rfl ?_
            have hcg : faS (zU tf i.toNat z24) i.toNat = faS tf i.toNat := faS_cong (fun p hp => by rw [zU_n _ _ (by omega)])
            have hst : faS (zU tf i.toNat z24) (i + 1).toNat = if z24 = -1 ∨ l ≤ z24 then faS tf i.toNat else (i, z24) := by
              rw [show (i + 1).toNat = i.toNat + 1 by omega]
              show (if zU tf i.toNat z24 i.toNat = -1 ∨ (faS (zU tf i.toNat z24) i.toNat).2 ≤ zU tf i.toNat z24 i.toNat then _ else (((i.toNat : Nat) : Int), zU tf i.toNat z24 i.toNat)) = _
              rw [zU_s, hcg, ← hl, show ((i.toNat : Nat) : Int) = i by omega]
            exact ih9 (i + 1) i z24 u24.1 u24.2.1 u24.2.2 (zU tf i.toNat z24) (by omega) (by rw [hst, if_neg (by omega)]) (by rw [hst, if_neg (by omega)]) (fun p hp => by
          by_cases e : p = i.toNat
          · rw [e, zU_s]
            rcases hz24 with ⟨q1, q2, q3, q4, q5⟩ | ⟨q1, q2⟩
            · exact Or.inl ⟨q1, q2, q5⟩
            · exact Or.inr ⟨by omega, q2⟩
          · rw [zU_n _ _ e]; exact ht0 p (by omega)) (by omega)
          · refine z_goto (pc := 40) 49 gg dX11_fastest_40 (by decide) ?_
            refine z_iinc (pc := 49) 1 [(4, .int (zI (i + 1))), (5, .int (zI z24)), (3, .int (zI l)), (2, .int (zI b)), (0, .ref h), (1, .int (zI x))] gg dX11_fastest_49 rfl (Nat.le_of_ble_eq_true rfl) rfl ?_
            refine z_goto (pc := 52) 9 gg dX11_fastest_52 (by decide) ?_
            refine z_lv [(4, .int (zI (i + 1))), (3, .int (zI l)), (2, .int (zI b)), (0, .ref h), (1, .int (zI x))] [0, 2, 3, 4, 5] rfl ?_
            have hcg : faS (zU tf i.toNat z24) i.toNat = faS tf i.toNat := faS_cong (fun p hp => by rw [zU_n _ _ (by omega)])
            have hst : faS (zU tf i.toNat z24) (i + 1).toNat = if z24 = -1 ∨ l ≤ z24 then faS tf i.toNat else (i, z24) := by
              rw [show (i + 1).toNat = i.toNat + 1 by omega]
              show (if zU tf i.toNat z24 i.toNat = -1 ∨ (faS (zU tf i.toNat z24) i.toNat).2 ≤ zU tf i.toNat z24 i.toNat then _ else (((i.toNat : Nat) : Int), zU tf i.toNat z24 i.toNat)) = _
              rw [zU_s, hcg, ← hl, show ((i.toNat : Nat) : Int) = i by omega]
            exact ih9 (i + 1) b l u24.1 u24.2.1 u24.2.2 (zU tf i.toNat z24) (by omega) (by rw [hst, if_pos (by omega)]; exact hb) (by rw [hst, if_pos (by omega)]; exact hl) (fun p hp => by
          by_cases e : p = i.toNat
          · rw [e, zU_s]
            rcases hz24 with ⟨q1, q2, q3, q4, q5⟩ | ⟨q1, q2⟩
            · exact Or.inl ⟨q1, q2, q5⟩
            · exact Or.inr ⟨by omega, q2⟩
          · rw [zU_n _ _ e]; exact ht0 p (by omega)) (by omega)
  exact loop9 _ 0 (-1) 401 ht bf cu (fun _ => 0) (by omega) rfl rfl (fun p hp => absurd hp (by omega)) (Nat.lt_succ_self _)
set_option maxHeartbeats 4000000 in
set_option maxRecDepth 100000 in
theorem c_m_press (M : KM) (h a0 a1 a2 a3 a4 a5 a6 a7 a8 : Nat) (A hs ht bf cu fr wo wy my : Nat → Int) (x y : Int) (h2 : 0 ≤ A 2 ∧ A 2 ≤ 24) (h3 : 0 ≤ A 3 ∧ A 3 ≤ 4) (hP : ∀ j, j < (A 3).toNat → 100 ≤ A (40 + j) ∧ A (40 + j) ≤ 250) (hDa : ∀ j, j < (A 2).toNat → 0 ≤ A ((50 + (8 * j)) + 2) ∧ A ((50 + (8 * j)) + 2) ≤ 20) (h7 : 1 ≤ A 7 ∧ A 7 ≤ 5000) (h77 : ∀ j, j < (A 2).toNat → -1 ≤ A ((50 + (8 * j)) + 7) ∧ A ((50 + (8 * j)) + 7) ≤ 400) (hxr : zR x) (hyr : zR y) : kCI M yX11_press cX11_press 4 .boolean 3 0 0 [cO 11 h [.ref a0, .ref a1, .ref a2, .ref a3, .ref a4, .ref a5, .ref a6, .ref a7, .ref a8], cI M a0 1280 A, cZ M a1 3 hs, cI M a2 9 ht, cI M a3 9 bf, cI M a4 9 cu, cI M a5 32 fr, cI M a6 625 wo, cI M a7 625 wy, cI M a8 625 my] [.ref h, .int (zI x), .int (zI y)] (fun z (u : (Nat → Int) × (Nat → Int) × (Nat → Int) × (Nat → Int)) => (∃ tt, 0 ≤ x ∧ x < A 2 ∧ 0 ≤ y ∧ y < A 3 ∧ isT (100 * (A (40 + y.toNat))) (A 7) (A ((50 + (8 * x.toNat)) + 2)) tt ∧ ((tt ≠ -1 ∧ A ((50 + (8 * x.toNat)) + 7) = -1 ∧ z = 1 ∧ u.1 = zU A ((50 + (8 * x.toNat)) + 7) tt) ∨ ((tt = -1 ∨ A ((50 + (8 * x.toNat)) + 7) ≠ -1) ∧ z = 0 ∧ u.1 = A))) ∨ ((x < 0 ∨ A 2 ≤ x ∨ y < 0 ∨ A 3 ≤ y) ∧ z = 0 ∧ u.1 = A)) (fun u => [cO 11 h [.ref a0, .ref a1, .ref a2, .ref a3, .ref a4, .ref a5, .ref a6, .ref a7, .ref a8], cI M a0 1280 u.1, cZ M a1 3 hs, cI M a2 9 u.2.1, cI M a3 9 u.2.2.1, cI M a4 9 u.2.2.2, cI M a5 32 fr, cI M a6 625 wo, cI M a7 625 wy, cI M a8 625 my]) := by
  refine kCI.of [(0, .ref h), (1, .int (zI x)), (2, .int (zI y))] (by decide) (Nat.le_of_ble_eq_true rfl) rfl (fun E gg hret => ?_)
  refine z_aload_n (pc := 0) 0 gg dX11_press_0 rfl rfl ?_
  refine z_iload_n (pc := 1) 1 gg dX11_press_1 rfl rfl ?_
  refine z_iload_n (pc := 2) 2 gg dX11_press_2 rfl rfl ?_
  refine z_callWi (pc := 3) (As := [.int (zI x), .int (zI y)]) (st := []) gg (c_m_time M h a0 a1 a2 a3 a4 a5 a6 a7 a8 A hs ht bf cu fr wo wy my x y h2 h3 hP hDa h7 (by first | assumption | omega | exact ⟨by omega, by omega⟩) (by first | assumption | omega | exact ⟨by omega, by omega⟩)) yv_11_time ml_X11_77 dX11_press_3 (by decide) (Nat.le_of_ble_eq_true rfl) (Nat.le_of_ble_eq_true rfl) (Nat.le_of_ble_eq_true rfl) rfl rfl rfl (fun z3 u3 hz3 => ?_)
  have hz9 : z3 = -1 ∨ (1 ≤ z3 ∧ z3 ≤ 400) := by
    rcases hz3 with ⟨_, _, _, _, q⟩ | ⟨_, q⟩
    · exact isT_b q
    · exact Or.inl q
  refine z_istore_n (pc := 6) [(3, .int (zI z3)), (0, .ref h), (1, .int (zI x)), (2, .int (zI y))] gg dX11_press_6 rfl (Nat.le_of_ble_eq_true rfl) rfl ?_
  refine z_iload_n (pc := 7) 0 gg dX11_press_7 rfl rfl ?_
  refine z_if_lt (pc := 8) 29 gg dX11_press_8 (by decide) ⟨by omega, by omega⟩ (fun h8 => ?_) (fun h8 => ?_)
  · refine z_iconst (pc := 29) gg dX11_press_29 ?_
    exact hret 0 (A, u3) 30 _ _ _ (Nat.le_of_ble_eq_true rfl) (Nat.le_of_ble_eq_true rfl) dX11_press_30 (zB01 (by omega)) (by
    rcases hz3 with ⟨q1, q2, q3, q4, q5⟩ | ⟨q1, q2⟩
    · exact Or.inl ⟨z3, q1, q2, q3, q4, q5, Or.inr ⟨by omega, rfl, rfl⟩⟩
    · exact Or.inr ⟨q1, rfl, rfl⟩)
  · have hxv : 0 ≤ x ∧ x < A 2 := by
      rcases hz3 with ⟨q1, q2, _, _, q⟩ | ⟨_, q⟩
      · exact ⟨q1, q2⟩
      · omega
    have h7x := h77 x.toNat (by omega)
    refine z_aload_n (pc := 11) 1 gg dX11_press_11 rfl rfl ?_
    refine z_get (pc := 12) 0 gg fl_X11_7 dX11_press_12 rfl rfl ?_
    refine z_bipush (pc := 15) gg dX11_press_15 (by decide +kernel) ?_
    refine z_bipush (pc := 17) gg dX11_press_17 (by decide +kernel) ?_
    refine z_iload_n (pc := 19) 2 gg dX11_press_19 rfl rfl ?_
    refine z_imul (pc := 20) gg dX11_press_20 ?_
    refine z_iadd (pc := 21) gg dX11_press_21 ?_
    refine z_bipush (pc := 22) gg dX11_press_22 (by decide +kernel) ?_
    refine z_iadd (pc := 24) gg dX11_press_24 ?_
    refine z_iald (pc := 25) 1 ((50 + (8 * x.toNat)) + 7) gg dX11_press_25 rfl (by omega) (by omega) (by decide) ?_
    refine z_if_lt (pc := 26) 31 gg dX11_press_26 (by decide) ⟨by omega, by omega⟩ (fun h26 => ?_) (fun h26 => ?_)
    · refine z_aload_n (pc := 31) 1 gg dX11_press_31 rfl rfl ?_
      refine z_get (pc := 32) 0 gg fl_X11_7 dX11_press_32 rfl rfl ?_
      refine z_bipush (pc := 35) gg dX11_press_35 (by decide +kernel) ?_
      refine z_bipush (pc := 37) gg dX11_press_37 (by decide +kernel) ?_
      refine z_iload_n (pc := 39) 2 gg dX11_press_39 rfl rfl ?_
      refine z_imul (pc := 40) gg dX11_press_40 ?_
      refine z_iadd (pc := 41) gg dX11_press_41 ?_
      refine z_bipush (pc := 42) gg dX11_press_42 (by decide +kernel) ?_
      refine z_iadd (pc := 44) gg dX11_press_44 ?_
      refine z_iload_n (pc := 45) 0 gg dX11_press_45 rfl rfl ?_
      refine z_iast (pc := 46) 1 ((50 + (8 * x.toNat)) + 7) [cO 11 h [.ref a0, .ref a1, .ref a2, .ref a3, .ref a4, .ref a5, .ref a6, .ref a7, .ref a8], cI M a0 1280 (zU A ((50 + (8 * x.toNat)) + 7) z3), cZ M a1 3 hs, cI M a2 9 u3.1, cI M a3 9 u3.2.1, cI M a4 9 u3.2.2, cI M a5 32 fr, cI M a6 625 wo, cI M a7 625 wy, cI M a8 625 my] gg dX11_press_46 rfl (by omega) (by omega) (by decide) rfl ?_
      refine z_iconst (pc := 47) gg dX11_press_47 ?_
      exact hret 1 (zU A ((50 + (8 * x.toNat)) + 7) z3, u3) 48 _ _ _ (Nat.le_of_ble_eq_true rfl) (Nat.le_of_ble_eq_true rfl) dX11_press_48 (zB01 (by omega)) (by
    rcases hz3 with ⟨q1, q2, q3, q4, q5⟩ | ⟨q1, q2⟩
    · exact Or.inl ⟨z3, q1, q2, q3, q4, q5, Or.inl ⟨by omega, by omega, rfl, rfl⟩⟩
    · omega)
    · refine z_iconst (pc := 29) gg dX11_press_29 ?_
      exact hret 0 (A, u3) 30 _ _ _ (Nat.le_of_ble_eq_true rfl) (Nat.le_of_ble_eq_true rfl) dX11_press_30 (zB01 (by omega)) (by
    rcases hz3 with ⟨q1, q2, q3, q4, q5⟩ | ⟨q1, q2⟩
    · exact Or.inl ⟨z3, q1, q2, q3, q4, q5, Or.inr ⟨by omega, rfl, rfl⟩⟩
    · exact Or.inr ⟨q1, rfl, rfl⟩)
set_option maxHeartbeats 4000000 in
set_option maxRecDepth 100000 in
theorem c_m_shell (M : KM) (h a0 a1 a2 a3 a4 a5 a6 a7 a8 : Nat) (A hs ht bf cu fr wo wy my : Nat → Int) (x y k s w : Int) (h2 : 0 ≤ A 2 ∧ A 2 ≤ 24) (h3 : 0 ≤ A 3 ∧ A 3 ≤ 4) (hP : ∀ j, j < (A 3).toNat → 100 ≤ A (40 + j) ∧ A (40 + j) ≤ 250) (hDa : ∀ j, j < (A 2).toNat → 0 ≤ A ((50 + (8 * j)) + 2) ∧ A ((50 + (8 * j)) + 2) ≤ 20) (h7 : 1 ≤ A 7 ∧ A 7 ≤ 5000) (hxr : zR x) (hyr : zR y) (hk : zR k) (hsr : zR s) (hw : zR w) : kCI M yX11_shell cX11_shell 7 .int 2 0 0 [cO 11 h [.ref a0, .ref a1, .ref a2, .ref a3, .ref a4, .ref a5, .ref a6, .ref a7, .ref a8], cI M a0 1280 A, cZ M a1 3 hs, cI M a2 9 ht, cI M a3 9 bf, cI M a4 9 cu, cI M a5 32 fr, cI M a6 625 wo, cI M a7 625 wy, cI M a8 625 my] [.ref h, .int (zI x), .int (zI y), .int (zI k), .int (zI s), .int (zI w)] (fun z (u : (Nat → Int) × (Nat → Int) × (Nat → Int)) => ((0 ≤ x ∧ x < A 2 ∧ 0 ≤ y ∧ y < A 3 ∧ 0 ≤ k ∧ k ≤ 400 ∧ 0 ≤ s ∧ s < 9 ∧ 0 ≤ w ∧ w ≤ 2) ∧ z = if w = 0 then sH (100 * (A (40 + y.toNat))) k.toNat s.toNat else if w = 1 then sC (100 * (A (40 + y.toNat))) k.toNat s.toNat else stm (sH (100 * (A (40 + y.toNat))) k.toNat s.toNat) (A ((50 + (8 * x.toNat)) + 2))) ∨ ((x < 0 ∨ A 2 ≤ x ∨ y < 0 ∨ A 3 ≤ y ∨ k < 0 ∨ 400 < k ∨ s < 0 ∨ 9 ≤ s ∨ w < 0 ∨ 2 < w) ∧ z = -1)) (fun u => [cO 11 h [.ref a0, .ref a1, .ref a2, .ref a3, .ref a4, .ref a5, .ref a6, .ref a7, .ref a8], cI M a0 1280 A, cZ M a1 3 hs, cI M a2 9 u.1, cI M a3 9 u.2.1, cI M a4 9 u.2.2, cI M a5 32 fr, cI M a6 625 wo, cI M a7 625 wy, cI M a8 625 my]) := by
  refine kCI.of [(0, .ref h), (1, .int (zI x)), (2, .int (zI y)), (3, .int (zI k)), (4, .int (zI s)), (5, .int (zI w))] (by decide) (Nat.le_of_ble_eq_true rfl) rfl (fun E gg hret => ?_)
  have r1_hxr := hxr.1
  have r2_hxr := hxr.2
  have r1_hyr := hyr.1
  have r2_hyr := hyr.2
  have r1_hk := hk.1
  have r2_hk := hk.2
  have r1_hsr := hsr.1
  have r2_hsr := hsr.2
  have r1_hw := hw.1
  have r2_hw := hw.2
  refine z_aload_n (pc := 0) 0 gg dX11_shell_0 rfl rfl ?_
  refine z_iload_n (pc := 1) 1 gg dX11_shell_1 rfl rfl ?_
  refine z_iconst (pc := 2) gg dX11_shell_2 ?_
  refine z_callWi (pc := 3) (As := [.int (zI x), .int (zI 2)]) (st := []) gg (c_mOf M h a0 a1 a2 a3 a4 a5 a6 a7 a8 A hs ht bf cu fr wo wy my x 2 (by first | assumption | omega | exact ⟨by omega, by omega⟩) (by first | assumption | omega | exact ⟨by omega, by omega⟩) (by first | assumption | omega | exact ⟨by omega, by omega⟩)) yv_11_isOf ml_X11_42 dX11_shell_3 (by decide) (Nat.le_of_ble_eq_true rfl) (Nat.le_of_ble_eq_true rfl) (Nat.le_of_ble_eq_true rfl) rfl rfl rfl (fun z3 u3 hz3 => ?_)
  refine z_if_eq (pc := 6) 50 gg dX11_shell_6 (by decide) ⟨by omega, by omega⟩ (fun h6 => ?_) (fun h6 => ?_)
  · refine z_iconst (pc := 50) gg dX11_shell_50 ?_
    exact hret (-1) (ht, bf, cu) 51 _ _ _ (Nat.le_of_ble_eq_true rfl) (Nat.le_of_ble_eq_true rfl) dX11_shell_51 rfl (Or.inr ⟨by omega, rfl⟩)
  · refine z_aload_n (pc := 9) 0 gg dX11_shell_9 rfl rfl ?_
    refine z_iload_n (pc := 10) 2 gg dX11_shell_10 rfl rfl ?_
    refine z_iconst (pc := 11) gg dX11_shell_11 ?_
    refine z_callWi (pc := 12) (As := [.int (zI y), .int (zI 3)]) (st := []) gg (c_mOf M h a0 a1 a2 a3 a4 a5 a6 a7 a8 A hs ht bf cu fr wo wy my y 3 (by first | assumption | omega | exact ⟨by omega, by omega⟩) (by first | assumption | omega | exact ⟨by omega, by omega⟩) (by first | assumption | omega | exact ⟨by omega, by omega⟩)) yv_11_isOf ml_X11_42 dX11_shell_12 (by decide) (Nat.le_of_ble_eq_true rfl) (Nat.le_of_ble_eq_true rfl) (Nat.le_of_ble_eq_true rfl) rfl rfl rfl (fun z12 u12 hz12 => ?_)
    refine z_if_eq (pc := 15) 50 gg dX11_shell_15 (by decide) ⟨by omega, by omega⟩ (fun h15 => ?_) (fun h15 => ?_)
    · refine z_iconst (pc := 50) gg dX11_shell_50 ?_
      exact hret (-1) (ht, bf, cu) 51 _ _ _ (Nat.le_of_ble_eq_true rfl) (Nat.le_of_ble_eq_true rfl) dX11_shell_51 rfl (Or.inr ⟨by omega, rfl⟩)
    · refine z_iload_n (pc := 18) 3 gg dX11_shell_18 rfl rfl ?_
      refine z_iconst (pc := 19) gg dX11_shell_19 ?_
      refine z_sipush (pc := 20) gg dX11_shell_20 (by decide +kernel) ?_
      refine z_callS (pc := 23) (As := [.int (zI k), .int (zI 0), .int (zI 400)]) (st := []) gg (c_mIn M k (0 : Int) (400 : Int) (by first | assumption | omega | exact ⟨by omega, by omega⟩) (by first | assumption | omega | exact ⟨by omega, by omega⟩) (by first | assumption | omega | exact ⟨by omega, by omega⟩)) ys_11_isIn ml_X11_38 dX11_shell_23 (by decide) (Nat.le_of_ble_eq_true rfl) (Nat.le_of_ble_eq_true rfl) (Nat.le_of_ble_eq_true rfl) rfl rfl (fun z23 u23 hz23 => ?_)
      refine z_if_eq (pc := 26) 50 gg dX11_shell_26 (by decide) ⟨by omega, by omega⟩ (fun h26 => ?_) (fun h26 => ?_)
      · refine z_iconst (pc := 50) gg dX11_shell_50 ?_
        exact hret (-1) (ht, bf, cu) 51 _ _ _ (Nat.le_of_ble_eq_true rfl) (Nat.le_of_ble_eq_true rfl) dX11_shell_51 rfl (Or.inr ⟨by omega, rfl⟩)
      · refine z_iload (pc := 29) 4 gg dX11_shell_29 rfl ?_
        refine z_iconst (pc := 31) gg dX11_shell_31 ?_
        refine z_bipush (pc := 32) gg dX11_shell_32 (by decide +kernel) ?_
        refine z_callS (pc := 34) (As := [.int (zI s), .int (zI 0), .int (zI 8)]) (st := []) gg (c_mIn M s (0 : Int) (8 : Int) (by first | assumption | omega | exact ⟨by omega, by omega⟩) (by first | assumption | omega | exact ⟨by omega, by omega⟩) (by first | assumption | omega | exact ⟨by omega, by omega⟩)) ys_11_isIn ml_X11_38 dX11_shell_34 (by decide) (Nat.le_of_ble_eq_true rfl) (Nat.le_of_ble_eq_true rfl) (Nat.le_of_ble_eq_true rfl) rfl rfl (fun z34 u34 hz34 => ?_)
        refine z_if_eq (pc := 37) 50 gg dX11_shell_37 (by decide) ⟨by omega, by omega⟩ (fun h37 => ?_) (fun h37 => ?_)
        · refine z_iconst (pc := 50) gg dX11_shell_50 ?_
          exact hret (-1) (ht, bf, cu) 51 _ _ _ (Nat.le_of_ble_eq_true rfl) (Nat.le_of_ble_eq_true rfl) dX11_shell_51 rfl (Or.inr ⟨by omega, rfl⟩)
        · refine z_iload (pc := 40) 5 gg dX11_shell_40 rfl ?_
          refine z_iconst (pc := 42) gg dX11_shell_42 ?_
          refine z_iconst (pc := 43) gg dX11_shell_43 ?_
          refine z_callS (pc := 44) (As := [.int (zI w), .int (zI 0), .int (zI 2)]) (st := []) gg (c_mIn M w (0 : Int) (2 : Int) (by first | assumption | omega | exact ⟨by omega, by omega⟩) (by first | assumption | omega | exact ⟨by omega, by omega⟩) (by first | assumption | omega | exact ⟨by omega, by omega⟩)) ys_11_isIn ml_X11_38 dX11_shell_44 (by decide) (Nat.le_of_ble_eq_true rfl) (Nat.le_of_ble_eq_true rfl) (Nat.le_of_ble_eq_true rfl) rfl rfl (fun z44 u44 hz44 => ?_)
          refine z_if_ne (pc := 47) 52 gg dX11_shell_47 (by decide) ⟨by omega, by omega⟩ (fun h47 => ?_) (fun h47 => ?_)
          · have hd1 := hDa x.toNat (by omega)
            have hp1 := hP y.toNat (by omega)
            have hTb : 0 ≤ (100 * (A (40 + y.toNat))) ∧ (100 * (A (40 + y.toNat))) ≤ 25000 := by omega
            refine z_aload_n (pc := 52) 0 gg dX11_shell_52 rfl rfl ?_
            refine z_callWv (pc := 53) (As := []) (st := []) gg (c_m_cold M h a0 a1 a2 a3 a4 a5 a6 a7 a8 A hs ht bf cu fr wo wy my ) yv_11_cold ml_X11_66 dX11_shell_53 (by decide) (Nat.le_of_ble_eq_true rfl) (Nat.le_of_ble_eq_true rfl) (Nat.le_of_ble_eq_true rfl) rfl rfl rfl (fun u53 hz53 => ?_)
            refine z_iconst (pc := 56) gg dX11_shell_56 ?_
            refine z_istore (pc := 57) [(6, .int (zI 0)), (0, .ref h), (1, .int (zI x)), (2, .int (zI y)), (3, .int (zI k)), (4, .int (zI s)), (5, .int (zI w))] gg dX11_shell_57 (Nat.le_of_ble_eq_true rfl) rfl ?_
            have loop59 : ∀ (k59 : Nat) (i : Int) (f1 f2 f3 : Nat → Int), (0 ≤ i ∧ i ≤ k) → (f1 = sH (100 * (A (40 + y.toNat))) i.toNat) → (f2 = sC (100 * (A (40 + y.toNat))) i.toNat) → 400 - i.toNat < k59 → kV M E 7 0 0 [cO 11 h [.ref a0, .ref a1, .ref a2, .ref a3, .ref a4, .ref a5, .ref a6, .ref a7, .ref a8], cI M a0 1280 A, cZ M a1 3 hs, cI M a2 9 f1, cI M a3 9 f3, cI M a4 9 f2, cI M a5 32 fr, cI M a6 625 wo, cI M a7 625 wy, cI M a8 625 my] [(6, .int (zI i)), (0, .ref h), (1, .int (zI x)), (2, .int (zI y)), (3, .int (zI k)), (4, .int (zI s)), (5, .int (zI w))] 59 [] := by
              intro k59
              induction k59 with
              | zero => intro i f1 f2 f3 hi k1 k2 hm59; exact absurd hm59 (Nat.not_lt_zero _)
              | succ k59 ih59 =>
                intro i f1 f2 f3 hi k1 k2 hm59
                refine z_iload (pc := 59) 0 gg dX11_shell_59 rfl ?_
                refine z_iload_n (pc := 61) 4 gg dX11_shell_61 rfl rfl ?_
                refine z_icmp_ge (pc := 62) 76 gg dX11_shell_62 (by decide) ⟨by omega, by omega⟩ ⟨by omega, by omega⟩ (fun h62 => ?_) (fun h62 => ?_)
                · have ek : i.toNat = k.toNat := by omega
                  rw [ek] at k1 k2
                  refine z_iload (pc := 76) 6 gg dX11_shell_76 rfl ?_
                  refine z_if_ne (pc := 78) 91 gg dX11_shell_78 (by decide) ⟨by omega, by omega⟩ (fun h78 => ?_) (fun h78 => ?_)
                  · refine z_iload (pc := 91) 6 gg dX11_shell_91 rfl ?_
                    refine z_iconst (pc := 93) gg dX11_shell_93 ?_
                    refine z_icmp_ne (pc := 94) 107 gg dX11_shell_94 (by decide) ⟨by omega, by omega⟩ ⟨by omega, by omega⟩ (fun h94 => ?_) (fun h94 => ?_)
                    · refine z_aload_n (pc := 107) 1 gg dX11_shell_107 rfl rfl ?_
                      refine z_iload_n (pc := 108) 2 gg dX11_shell_108 rfl rfl ?_
                      refine z_iload (pc := 109) 5 gg dX11_shell_109 rfl ?_
                      refine z_callWi (pc := 111) (As := [.int (zI x), .int (zI s)]) (st := []) gg (c_m_steam M h a0 a1 a2 a3 a4 a5 a6 a7 a8 A hs f1 f3 f2 fr wo wy my x s (by first | assumption | omega | exact ⟨by omega, by omega⟩) (by first | assumption | omega | exact ⟨by omega, by omega⟩) hd1 (by rw [k1]; exact sH_b hTb _)) yv_11_steam ml_X11_62 dX11_shell_111 (by decide) (Nat.le_of_ble_eq_true rfl) (Nat.le_of_ble_eq_true rfl) (Nat.le_of_ble_eq_true rfl) rfl rfl rfl (fun z111 u111 hz111 => ?_)
                      exact hret z111 (f1, f3, f2) 114 _ _ _ (Nat.le_of_ble_eq_true rfl) (Nat.le_of_ble_eq_true rfl) dX11_shell_114 rfl (Or.inl ⟨⟨by omega, by omega, by omega, by omega, by omega, by omega, by omega, by omega, by omega, by omega⟩, by rw [if_neg (by omega), if_neg (by omega), hz111, k1]⟩)
                    · refine z_aload_n (pc := 97) 1 gg dX11_shell_97 rfl rfl ?_
                      refine z_get (pc := 98) 0 gg fl_X11_23 dX11_shell_98 rfl rfl ?_
                      refine z_iload (pc := 101) 5 gg dX11_shell_101 rfl ?_
                      refine z_iald (pc := 103) 5 s.toNat gg dX11_shell_103 rfl (by omega) (by omega) (by decide) ?_
                      refine z_goto (pc := 104) 114 gg dX11_shell_104 (by decide) ?_
                      exact hret (f2 s.toNat) (f1, f3, f2) 114 _ _ _ (Nat.le_of_ble_eq_true rfl) (Nat.le_of_ble_eq_true rfl) dX11_shell_114 rfl (Or.inl ⟨⟨by omega, by omega, by omega, by omega, by omega, by omega, by omega, by omega, by omega, by omega⟩, by rw [if_neg (by omega), if_pos (by omega), k2]⟩)
                  · refine z_aload_n (pc := 81) 1 gg dX11_shell_81 rfl rfl ?_
                    refine z_get (pc := 82) 0 gg fl_X11_17 dX11_shell_82 rfl rfl ?_
                    refine z_iload (pc := 85) 5 gg dX11_shell_85 rfl ?_
                    refine z_iald (pc := 87) 3 s.toNat gg dX11_shell_87 rfl (by omega) (by omega) (by decide) ?_
                    refine z_goto (pc := 88) 114 gg dX11_shell_88 (by decide) ?_
                    exact hret (f1 s.toNat) (f1, f3, f2) 114 _ _ _ (Nat.le_of_ble_eq_true rfl) (Nat.le_of_ble_eq_true rfl) dX11_shell_114 rfl (Or.inl ⟨⟨by omega, by omega, by omega, by omega, by omega, by omega, by omega, by omega, by omega, by omega⟩, by rw [if_pos (by omega), k1]⟩)
                · refine z_aload_n (pc := 65) 1 gg dX11_shell_65 rfl rfl ?_
                  refine z_iload_n (pc := 66) 3 gg dX11_shell_66 rfl rfl ?_
                  refine z_callWv (pc := 67) (As := [.int (zI y)]) (st := []) gg (c_m_tick M h a0 a1 a2 a3 a4 a5 a6 a7 a8 A hs f1 f3 f2 fr wo wy my y (by first | assumption | omega | exact ⟨by omega, by omega⟩) hTb (by rw [k1]; exact sH_b hTb _)) yv_11_tick ml_X11_69 dX11_shell_67 (by decide) (Nat.le_of_ble_eq_true rfl) (Nat.le_of_ble_eq_true rfl) (Nat.le_of_ble_eq_true rfl) rfl rfl rfl (fun u67 hz67 => ?_)
                  refine z_iinc (pc := 70) 0 [(6, .int (zI (i + 1))), (0, .ref h), (1, .int (zI x)), (2, .int (zI y)), (3, .int (zI k)), (4, .int (zI s)), (5, .int (zI w))] gg dX11_shell_70 rfl (Nat.le_of_ble_eq_true rfl) rfl ?_
                  refine z_goto (pc := 73) 59 gg dX11_shell_73 (by decide) ?_
                  exact ih59 (i + 1) (tkH (100 * (A (40 + y.toNat))) f1) (fun s => f2 s + tkC (tkH (100 * (A (40 + y.toNat))) f1 s)) f1 (by omega) (by rw [k1, show (i + 1).toNat = i.toNat + 1 by omega]; rfl) (by rw [k1, k2, show (i + 1).toNat = i.toNat + 1 by omega]; rfl) (by omega)
            exact loop59 _ 0 (fun _ => 2000) (fun _ => 0) bf (by omega) rfl rfl (Nat.lt_succ_self _)
          · refine z_iconst (pc := 50) gg dX11_shell_50 ?_
            exact hret (-1) (ht, bf, cu) 51 _ _ _ (Nat.le_of_ble_eq_true rfl) (Nat.le_of_ble_eq_true rfl) dX11_shell_51 rfl (Or.inr ⟨by omega, rfl⟩)
set_option maxHeartbeats 4000000 in
set_option maxRecDepth 100000 in
theorem c_m_count (M : KM) (h a0 a1 a2 a3 a4 a5 a6 a7 a8 : Nat) (A hs ht bf cu fr wo wy my : Nat → Int) (x : Int) (h0 : 0 ≤ A 0 ∧ A 0 ≤ 6) (h1 : 0 ≤ A 1 ∧ A 1 ≤ 8) (h2 : 0 ≤ A 2 ∧ A 2 ≤ 24) (h3 : 0 ≤ A 3 ∧ A 3 ≤ 4) (h4 : 0 ≤ A 4 ∧ A 4 ≤ 6) (h77 : ∀ j, j < (A 2).toNat → -1 ≤ A ((50 + (8 * j)) + 7) ∧ A ((50 + (8 * j)) + 7) ≤ 400) (hx : zR x) : kCI M yX11_count cX11_count 5 .int 2 0 0 [cO 11 h [.ref a0, .ref a1, .ref a2, .ref a3, .ref a4, .ref a5, .ref a6, .ref a7, .ref a8], cI M a0 1280 A, cZ M a1 3 hs, cI M a2 9 ht, cI M a3 9 bf, cI M a4 9 cu, cI M a5 32 fr, cI M a6 625 wo, cI M a7 625 wy, cI M a8 625 my] [.ref h, .int (zI x)] (fun z (u : Unit) => z = ctF (A 0).toNat (A 1).toNat (A 2).toNat (A 3).toNat (A 4).toNat (lF 10 3 6 A) (lF 30 1 8 A) (lF 50 1 192 A) x) (fun u => [cO 11 h [.ref a0, .ref a1, .ref a2, .ref a3, .ref a4, .ref a5, .ref a6, .ref a7, .ref a8], cI M a0 1280 A, cZ M a1 3 hs, cI M a2 9 ht, cI M a3 9 bf, cI M a4 9 cu, cI M a5 32 fr, cI M a6 625 wo, cI M a7 625 wy, cI M a8 625 my]) := by
  refine kCI.of [(0, .ref h), (1, .int (zI x))] (by decide) (Nat.le_of_ble_eq_true rfl) rfl (fun E gg hret => ?_)
  have r1_hx := hx.1
  have r2_hx := hx.2
  refine z_iconst (pc := 0) gg dX11_count_0 ?_
  refine z_istore_n (pc := 1) [(2, .int (zI 0)), (0, .ref h), (1, .int (zI x))] gg dX11_count_1 rfl (Nat.le_of_ble_eq_true rfl) rfl ?_
  refine z_iconst (pc := 2) gg dX11_count_2 ?_
  refine z_istore_n (pc := 3) [(3, .int (zI 0)), (2, .int (zI 0)), (0, .ref h), (1, .int (zI x))] gg dX11_count_3 rfl (Nat.le_of_ble_eq_true rfl) rfl ?_
  refine z_iconst (pc := 4) gg dX11_count_4 ?_
  refine z_istore (pc := 5) [(4, .int (zI 0)), (3, .int (zI 0)), (2, .int (zI 0)), (0, .ref h), (1, .int (zI x))] gg dX11_count_5 (Nat.le_of_ble_eq_true rfl) rfl ?_
  have loop7 : ∀ (k7 : Nat) (i s : Int), (0 ≤ i ∧ i ≤ A 0) → (s = zS (lF 10 3 6 A) i.toNat) → (A 0).toNat - i.toNat < k7 → kV M E 5 0 0 [cO 11 h [.ref a0, .ref a1, .ref a2, .ref a3, .ref a4, .ref a5, .ref a6, .ref a7, .ref a8], cI M a0 1280 A, cZ M a1 3 hs, cI M a2 9 ht, cI M a3 9 bf, cI M a4 9 cu, cI M a5 32 fr, cI M a6 625 wo, cI M a7 625 wy, cI M a8 625 my] [(4, .int (zI i)), (3, .int (zI 0)), (2, .int (zI s)), (0, .ref h), (1, .int (zI x))] 7 [] := by
    intro k7
    induction k7 with
    | zero => intro i s hi hs0 hm7; exact absurd hm7 (Nat.not_lt_zero _)
    | succ k7 ih7 =>
      intro i s hi hs0 hm7
      refine z_iload (pc := 7) 0 gg dX11_count_7 rfl ?_
      refine z_aload_n (pc := 9) 3 gg dX11_count_9 rfl rfl ?_
      refine z_get (pc := 10) 0 gg fl_X11_7 dX11_count_10 rfl rfl ?_
      refine z_iconst (pc := 13) gg dX11_count_13 ?_
      refine z_iald (pc := 14) 1 0 gg dX11_count_14 rfl (by omega) (by omega) (by decide) ?_
      refine z_icmp_ge (pc := 15) 39 gg dX11_count_15 (by decide) ⟨by omega, by omega⟩ ⟨by omega, by omega⟩ (fun h15 => ?_) (fun h15 => ?_)
      · have en0 : i.toNat = (A 0).toNat := by omega
        refine z_iconst (pc := 39) gg dX11_count_39 ?_
        refine z_istore (pc := 40) [(4, .int (zI 0)), (3, .int (zI 0)), (2, .int (zI s)), (0, .ref h), (1, .int (zI x))] gg dX11_count_40 (Nat.le_of_ble_eq_true rfl) rfl ?_
        have loop42 : ∀ (k42 : Nat) (m w : Int), (0 ≤ m ∧ m ≤ A 2) → (w = zS (fun m => if lF 50 1 192 A (m * 8 + 7) = -1 then 0 else 1) m.toNat) → (A 2).toNat - m.toNat < k42 → kV M E 5 0 0 [cO 11 h [.ref a0, .ref a1, .ref a2, .ref a3, .ref a4, .ref a5, .ref a6, .ref a7, .ref a8], cI M a0 1280 A, cZ M a1 3 hs, cI M a2 9 ht, cI M a3 9 bf, cI M a4 9 cu, cI M a5 32 fr, cI M a6 625 wo, cI M a7 625 wy, cI M a8 625 my] [(4, .int (zI m)), (3, .int (zI w)), (2, .int (zI s)), (0, .ref h), (1, .int (zI x))] 42 [] := by
          intro k42
          induction k42 with
          | zero => intro m w hm hw0 hm42; exact absurd hm42 (Nat.not_lt_zero _)
          | succ k42 ih42 =>
            intro m w hm hw0 hm42
            refine z_iload (pc := 42) 0 gg dX11_count_42 rfl ?_
            refine z_aload_n (pc := 44) 3 gg dX11_count_44 rfl rfl ?_
            refine z_get (pc := 45) 0 gg fl_X11_7 dX11_count_45 rfl rfl ?_
            refine z_iconst (pc := 48) gg dX11_count_48 ?_
            refine z_iald (pc := 49) 1 2 gg dX11_count_49 rfl (by omega) (by omega) (by decide) ?_
            refine z_icmp_ge (pc := 50) 86 gg dX11_count_50 (by decide) ⟨by omega, by omega⟩ ⟨by omega, by omega⟩ (fun h50 => ?_) (fun h50 => ?_)
            · have en2 : m.toNat = (A 2).toNat := by omega
              refine z_iload_n (pc := 86) 4 gg dX11_count_86 rfl rfl ?_
              refine z_iconst (pc := 87) gg dX11_count_87 ?_
              refine z_iconst (pc := 88) gg dX11_count_88 ?_
              refine z_callS (pc := 89) (As := [.int (zI x), .int (zI 0), .int (zI 4)]) (st := []) gg (c_mIn M x (0 : Int) (4 : Int) (by first | assumption | omega | exact ⟨by omega, by omega⟩) (by first | assumption | omega | exact ⟨by omega, by omega⟩) (by first | assumption | omega | exact ⟨by omega, by omega⟩)) ys_11_isIn ml_X11_38 dX11_count_89 (by decide) (Nat.le_of_ble_eq_true rfl) (Nat.le_of_ble_eq_true rfl) (Nat.le_of_ble_eq_true rfl) rfl rfl (fun z89 u89 hz89 => ?_)
              refine z_if_eq (pc := 92) 102 gg dX11_count_92 (by decide) ⟨by omega, by omega⟩ (fun h92 => ?_) (fun h92 => ?_)
              · refine z_iload_n (pc := 102) 4 gg dX11_count_102 rfl rfl ?_
                refine z_bipush (pc := 103) gg dX11_count_103 (by decide +kernel) ?_
                refine z_bipush (pc := 105) gg dX11_count_105 (by decide +kernel) ?_
                refine z_callS (pc := 107) (As := [.int (zI x), .int (zI 10), .int (zI 15)]) (st := []) gg (c_mIn M x (10 : Int) (15 : Int) (by first | assumption | omega | exact ⟨by omega, by omega⟩) (by first | assumption | omega | exact ⟨by omega, by omega⟩) (by first | assumption | omega | exact ⟨by omega, by omega⟩)) ys_11_isIn ml_X11_38 dX11_count_107 (by decide) (Nat.le_of_ble_eq_true rfl) (Nat.le_of_ble_eq_true rfl) (Nat.le_of_ble_eq_true rfl) rfl rfl (fun z107 u107 hz107 => ?_)
                refine z_if_eq (pc := 110) 144 gg dX11_count_110 (by decide) ⟨by omega, by omega⟩ (fun h110 => ?_) (fun h110 => ?_)
                · refine z_iload_n (pc := 144) 4 gg dX11_count_144 rfl rfl ?_
                  refine z_bipush (pc := 145) gg dX11_count_145 (by decide +kernel) ?_
                  refine z_bipush (pc := 147) gg dX11_count_147 (by decide +kernel) ?_
                  refine z_callS (pc := 149) (As := [.int (zI x), .int (zI 20), .int (zI 27)]) (st := []) gg (c_mIn M x (20 : Int) (27 : Int) (by first | assumption | omega | exact ⟨by omega, by omega⟩) (by first | assumption | omega | exact ⟨by omega, by omega⟩) (by first | assumption | omega | exact ⟨by omega, by omega⟩)) ys_11_isIn ml_X11_38 dX11_count_149 (by decide) (Nat.le_of_ble_eq_true rfl) (Nat.le_of_ble_eq_true rfl) (Nat.le_of_ble_eq_true rfl) rfl rfl (fun z149 u149 hz149 => ?_)
                  refine z_if_eq (pc := 152) 184 gg dX11_count_152 (by decide) ⟨by omega, by omega⟩ (fun h152 => ?_) (fun h152 => ?_)
                  · refine z_iload_n (pc := 184) 4 gg dX11_count_184 rfl rfl ?_
                    refine z_iconst (pc := 185) gg dX11_count_185 ?_
                    refine z_icmp_ne (pc := 186) 193 gg dX11_count_186 (by decide) ⟨by omega, by omega⟩ ⟨by omega, by omega⟩ (fun h186 => ?_) (fun h186 => ?_)
                    · refine z_iload_n (pc := 193) 4 gg dX11_count_193 rfl rfl ?_
                      refine z_bipush (pc := 194) gg dX11_count_194 (by decide +kernel) ?_
                      refine z_icmp_ne (pc := 196) 206 gg dX11_count_196 (by decide) ⟨by omega, by omega⟩ ⟨by omega, by omega⟩ (fun h196 => ?_) (fun h196 => ?_)
                      · refine z_iload_n (pc := 206) 4 gg dX11_count_206 rfl rfl ?_
                        refine z_bipush (pc := 207) gg dX11_count_207 (by decide +kernel) ?_
                        refine z_icmp_ne (pc := 209) 216 gg dX11_count_209 (by decide) ⟨by omega, by omega⟩ ⟨by omega, by omega⟩ (fun h209 => ?_) (fun h209 => ?_)
                        · refine z_iconst (pc := 216) gg dX11_count_216 ?_
                          exact hret (-1) () 217 _ _ _ (Nat.le_of_ble_eq_true rfl) (Nat.le_of_ble_eq_true rfl) dX11_count_217 rfl (by unfold ctF; rw [if_neg (by omega), if_neg (by omega), if_neg (by omega), if_neg (by omega), if_neg (by omega), if_neg (by omega), if_neg (by omega), if_neg (by omega), if_neg (by omega), if_neg (by omega)])
                        · refine z_iload_n (pc := 212) 1 gg dX11_count_212 rfl rfl ?_
                          refine z_goto (pc := 213) 217 gg dX11_count_213 (by decide) ?_
                          exact hret w () 217 _ _ _ (Nat.le_of_ble_eq_true rfl) (Nat.le_of_ble_eq_true rfl) dX11_count_217 rfl (by unfold ctF; rw [if_neg (by omega), if_neg (by omega), if_neg (by omega), if_neg (by omega), if_neg (by omega), if_neg (by omega), if_neg (by omega), if_pos (by omega), hw0, en2]; rfl)
                      · refine z_aload_n (pc := 199) 3 gg dX11_count_199 rfl rfl ?_
                        refine z_callWi (pc := 200) (As := []) (st := []) gg (c_m_glueLeft M h a0 a1 a2 a3 a4 a5 a6 a7 a8 A hs ht bf cu fr wo wy my (by first | assumption | omega | exact ⟨by omega, by omega⟩)) yv_11_glueLeft ml_X11_55 dX11_count_200 (by decide) (Nat.le_of_ble_eq_true rfl) (Nat.le_of_ble_eq_true rfl) (Nat.le_of_ble_eq_true rfl) rfl rfl rfl (fun z200 u200 hz200 => ?_)
                        refine z_goto (pc := 203) 217 gg dX11_count_203 (by decide) ?_
                        exact hret z200 () 217 _ _ _ (Nat.le_of_ble_eq_true rfl) (Nat.le_of_ble_eq_true rfl) dX11_count_217 rfl (by unfold ctF; rw [if_neg (by omega), if_neg (by omega), if_neg (by omega), if_neg (by omega), if_neg (by omega), if_neg (by omega), if_pos (by omega), hz200])
                    · refine z_iload_n (pc := 189) 2 gg dX11_count_189 rfl rfl ?_
                      refine z_goto (pc := 190) 217 gg dX11_count_190 (by decide) ?_
                      exact hret s () 217 _ _ _ (Nat.le_of_ble_eq_true rfl) (Nat.le_of_ble_eq_true rfl) dX11_count_217 rfl (by unfold ctF; rw [if_neg (by omega), if_neg (by omega), if_neg (by omega), if_neg (by omega), if_neg (by omega), if_pos (by omega), hs0, en0])
                  · refine z_aload_n (pc := 155) 3 gg dX11_count_155 rfl rfl ?_
                    refine z_iload_n (pc := 156) 4 gg dX11_count_156 rfl rfl ?_
                    refine z_bipush (pc := 157) gg dX11_count_157 (by decide +kernel) ?_
                    refine z_isub (pc := 159) gg dX11_count_159 ?_
                    refine z_iconst (pc := 160) gg dX11_count_160 ?_
                    refine z_callWi (pc := 161) (As := [.int (zI (x - 20)), .int (zI 1)]) (st := []) gg (c_mOf M h a0 a1 a2 a3 a4 a5 a6 a7 a8 A hs ht bf cu fr wo wy my (x - 20) 1 (by first | assumption | omega | exact ⟨by omega, by omega⟩) (by first | assumption | omega | exact ⟨by omega, by omega⟩) (by first | assumption | omega | exact ⟨by omega, by omega⟩)) yv_11_isOf ml_X11_42 dX11_count_161 (by decide) (Nat.le_of_ble_eq_true rfl) (Nat.le_of_ble_eq_true rfl) (Nat.le_of_ble_eq_true rfl) rfl rfl rfl (fun z161 u161 hz161 => ?_)
                    refine z_if_eq (pc := 164) 182 gg dX11_count_164 (by decide) ⟨by omega, by omega⟩ (fun h164 => ?_) (fun h164 => ?_)
                    · refine z_iconst (pc := 182) gg dX11_count_182 ?_
                      exact hret (-1) () 183 _ _ _ (Nat.le_of_ble_eq_true rfl) (Nat.le_of_ble_eq_true rfl) dX11_count_183 rfl (by unfold ctF; rw [if_neg (by omega), if_neg (by omega), if_neg (by omega), if_neg (by omega), if_neg (by omega), if_neg (by omega), if_neg (by omega), if_neg (by omega), if_neg (by omega), if_pos (by omega), if_neg (by omega)])
                    · refine z_aload_n (pc := 167) 3 gg dX11_count_167 rfl rfl ?_
                      refine z_get (pc := 168) 0 gg fl_X11_7 dX11_count_168 rfl rfl ?_
                      refine z_bipush (pc := 171) gg dX11_count_171 (by decide +kernel) ?_
                      refine z_iload_n (pc := 173) 4 gg dX11_count_173 rfl rfl ?_
                      refine z_iadd (pc := 174) gg dX11_count_174 ?_
                      refine z_bipush (pc := 175) gg dX11_count_175 (by decide +kernel) ?_
                      refine z_isub (pc := 177) gg dX11_count_177 ?_
                      refine z_iald (pc := 178) 1 ((30 + x.toNat) - 20) gg dX11_count_178 rfl (by omega) (by omega) (by decide) ?_
                      refine z_goto (pc := 179) 183 gg dX11_count_179 (by decide) ?_
                      exact hret (A ((30 + x.toNat) - 20)) () 183 _ _ _ (Nat.le_of_ble_eq_true rfl) (Nat.le_of_ble_eq_true rfl) dX11_count_183 rfl (by unfold ctF; rw [if_neg (by omega), if_neg (by omega), if_neg (by omega), if_neg (by omega), if_neg (by omega), if_neg (by omega), if_neg (by omega), if_neg (by omega), if_neg (by omega), if_pos (by omega), if_pos (by omega), lF30 (by omega), show 30 + (x - 20).toNat = 30 + x.toNat - 20 by omega])
                · refine z_aload_n (pc := 113) 3 gg dX11_count_113 rfl rfl ?_
                  refine z_iload_n (pc := 114) 4 gg dX11_count_114 rfl rfl ?_
                  refine z_bipush (pc := 115) gg dX11_count_115 (by decide +kernel) ?_
                  refine z_isub (pc := 117) gg dX11_count_117 ?_
                  refine z_iconst (pc := 118) gg dX11_count_118 ?_
                  refine z_callWi (pc := 119) (As := [.int (zI (x - 10)), .int (zI 0)]) (st := []) gg (c_mOf M h a0 a1 a2 a3 a4 a5 a6 a7 a8 A hs ht bf cu fr wo wy my (x - 10) 0 (by first | assumption | omega | exact ⟨by omega, by omega⟩) (by first | assumption | omega | exact ⟨by omega, by omega⟩) (by first | assumption | omega | exact ⟨by omega, by omega⟩)) yv_11_isOf ml_X11_42 dX11_count_119 (by decide) (Nat.le_of_ble_eq_true rfl) (Nat.le_of_ble_eq_true rfl) (Nat.le_of_ble_eq_true rfl) rfl rfl rfl (fun z119 u119 hz119 => ?_)
                  refine z_if_eq (pc := 122) 142 gg dX11_count_122 (by decide) ⟨by omega, by omega⟩ (fun h122 => ?_) (fun h122 => ?_)
                  · refine z_iconst (pc := 142) gg dX11_count_142 ?_
                    exact hret (-1) () 143 _ _ _ (Nat.le_of_ble_eq_true rfl) (Nat.le_of_ble_eq_true rfl) dX11_count_143 rfl (by unfold ctF; rw [if_neg (by omega), if_neg (by omega), if_neg (by omega), if_neg (by omega), if_neg (by omega), if_neg (by omega), if_neg (by omega), if_neg (by omega), if_pos (by omega), if_neg (by omega)])
                  · refine z_aload_n (pc := 125) 3 gg dX11_count_125 rfl rfl ?_
                    refine z_get (pc := 126) 0 gg fl_X11_7 dX11_count_126 rfl rfl ?_
                    refine z_bipush (pc := 129) gg dX11_count_129 (by decide +kernel) ?_
                    refine z_iconst (pc := 131) gg dX11_count_131 ?_
                    refine z_iload_n (pc := 132) 4 gg dX11_count_132 rfl rfl ?_
                    refine z_bipush (pc := 133) gg dX11_count_133 (by decide +kernel) ?_
                    refine z_isub (pc := 135) gg dX11_count_135 ?_
                    refine z_imul (pc := 136) gg dX11_count_136 ?_
                    refine z_iadd (pc := 137) gg dX11_count_137 ?_
                    refine z_iald (pc := 138) 1 (10 + (3 * (x.toNat - 10))) gg dX11_count_138 rfl (by omega) (by omega) (by decide) ?_
                    refine z_goto (pc := 139) 143 gg dX11_count_139 (by decide) ?_
                    exact hret (A (10 + (3 * (x.toNat - 10)))) () 143 _ _ _ (Nat.le_of_ble_eq_true rfl) (Nat.le_of_ble_eq_true rfl) dX11_count_143 rfl (by unfold ctF; rw [if_neg (by omega), if_neg (by omega), if_neg (by omega), if_neg (by omega), if_neg (by omega), if_neg (by omega), if_neg (by omega), if_neg (by omega), if_pos (by omega), if_pos (by omega), lF_at (by omega), show (x - 10).toNat = x.toNat - 10 by omega])
              · refine z_aload_n (pc := 95) 3 gg dX11_count_95 rfl rfl ?_
                refine z_get (pc := 96) 0 gg fl_X11_7 dX11_count_96 rfl rfl ?_
                refine z_iload_n (pc := 99) 4 gg dX11_count_99 rfl rfl ?_
                refine z_iald (pc := 100) 1 x.toNat gg dX11_count_100 rfl (by omega) (by omega) (by decide) ?_
                exact hret (A x.toNat) () 101 _ _ _ (Nat.le_of_ble_eq_true rfl) (Nat.le_of_ble_eq_true rfl) dX11_count_101 rfl (by
      rcases (show x = 0 ∨ x = 1 ∨ x = 2 ∨ x = 3 ∨ x = 4 by omega) with rfl | rfl | rfl | rfl | rfl
      · show A 0 = ((A 0).toNat : Int); omega
      · show A 1 = ((A 1).toNat : Int); omega
      · show A 2 = ((A 2).toNat : Int); omega
      · show A 3 = ((A 3).toNat : Int); omega
      · show A 4 = ((A 4).toNat : Int); omega)
            · have h7m := h77 m.toNat (by omega)
              refine z_iload_n (pc := 53) 1 gg dX11_count_53 rfl rfl ?_
              refine z_aload_n (pc := 54) 3 gg dX11_count_54 rfl rfl ?_
              refine z_get (pc := 55) 0 gg fl_X11_7 dX11_count_55 rfl rfl ?_
              refine z_bipush (pc := 58) gg dX11_count_58 (by decide +kernel) ?_
              refine z_bipush (pc := 60) gg dX11_count_60 (by decide +kernel) ?_
              refine z_iload (pc := 62) 0 gg dX11_count_62 rfl ?_
              refine z_imul (pc := 64) gg dX11_count_64 ?_
              refine z_iadd (pc := 65) gg dX11_count_65 ?_
              refine z_bipush (pc := 66) gg dX11_count_66 (by decide +kernel) ?_
              refine z_iadd (pc := 68) gg dX11_count_68 ?_
              refine z_iald (pc := 69) 1 ((50 + (8 * m.toNat)) + 7) gg dX11_count_69 rfl (by omega) (by omega) (by decide) ?_
              refine z_if_lt (pc := 70) 77 gg dX11_count_70 (by decide) ⟨by omega, by omega⟩ (fun h70 => ?_) (fun h70 => ?_)
              · refine z_iconst (pc := 77) gg dX11_count_77 ?_
                refine z_iadd (pc := 78) gg dX11_count_78 ?_
                refine z_istore_n (pc := 79) [(3, .int (zI (w + 0))), (4, .int (zI m)), (2, .int (zI s)), (0, .ref h), (1, .int (zI x))] gg dX11_count_79 rfl (Nat.le_of_ble_eq_true rfl) rfl ?_
                refine z_iinc (pc := 80) 1 [(4, .int (zI (m + 1))), (3, .int (zI (w + 0))), (2, .int (zI s)), (0, .ref h), (1, .int (zI x))] gg dX11_count_80 rfl (Nat.le_of_ble_eq_true rfl) rfl ?_
                refine z_goto (pc := 83) 42 gg dX11_count_83 (by decide) ?_
                exact ih42 (m + 1) (w + 0) (by omega) (by rw [zS_step (by omega), ← hw0, lF50 (by omega) (by omega), if_pos (by omega)]) (by omega)
              · refine z_iconst (pc := 73) gg dX11_count_73 ?_
                refine z_goto (pc := 74) 78 gg dX11_count_74 (by decide) ?_
                refine z_iadd (pc := 78) gg dX11_count_78 ?_
                refine z_istore_n (pc := 79) [(3, .int (zI (w + 1))), (4, .int (zI m)), (2, .int (zI s)), (0, .ref h), (1, .int (zI x))] gg dX11_count_79 rfl (Nat.le_of_ble_eq_true rfl) rfl ?_
                refine z_iinc (pc := 80) 1 [(4, .int (zI (m + 1))), (3, .int (zI (w + 1))), (2, .int (zI s)), (0, .ref h), (1, .int (zI x))] gg dX11_count_80 rfl (Nat.le_of_ble_eq_true rfl) rfl ?_
                refine z_goto (pc := 83) 42 gg dX11_count_83 (by decide) ?_
                exact ih42 (m + 1) (w + 1) (by omega) (by rw [zS_step (by omega), ← hw0, lF50 (by omega) (by omega), if_neg (by omega)]) (by omega)
        exact loop42 _ 0 0 (by omega) rfl (Nat.lt_succ_self _)
      · refine z_iload_n (pc := 18) 2 gg dX11_count_18 rfl rfl ?_
        refine z_aload_n (pc := 19) 3 gg dX11_count_19 rfl rfl ?_
        refine z_get (pc := 20) 0 gg fl_X11_7 dX11_count_20 rfl rfl ?_
        refine z_bipush (pc := 23) gg dX11_count_23 (by decide +kernel) ?_
        refine z_iconst (pc := 25) gg dX11_count_25 ?_
        refine z_iload (pc := 26) 0 gg dX11_count_26 rfl ?_
        refine z_imul (pc := 28) gg dX11_count_28 ?_
        refine z_iadd (pc := 29) gg dX11_count_29 ?_
        refine z_iald (pc := 30) 1 (10 + (3 * i.toNat)) gg dX11_count_30 rfl (by omega) (by omega) (by decide) ?_
        refine z_iadd (pc := 31) gg dX11_count_31 ?_
        refine z_istore_n (pc := 32) [(2, .int (zI (s + (A (10 + (3 * i.toNat)))))), (4, .int (zI i)), (3, .int (zI 0)), (0, .ref h), (1, .int (zI x))] gg dX11_count_32 rfl (Nat.le_of_ble_eq_true rfl) rfl ?_
        refine z_iinc (pc := 33) 1 [(4, .int (zI (i + 1))), (2, .int (zI (s + (A (10 + (3 * i.toNat)))))), (3, .int (zI 0)), (0, .ref h), (1, .int (zI x))] gg dX11_count_33 rfl (Nat.le_of_ble_eq_true rfl) rfl ?_
        refine z_goto (pc := 36) 7 gg dX11_count_36 (by decide) ?_
        refine z_lv [(4, .int (zI (i + 1))), (3, .int (zI 0)), (2, .int (zI (s + (A (10 + (3 * i.toNat)))))), (0, .ref h), (1, .int (zI x))] [0, 2, 1, 3, 4] rfl ?_
        exact ih7 (i + 1) (s + (A (10 + (3 * i.toNat)))) (by omega) (by rw [zS_step (by omega), hs0, lF_at (by omega)]) (by omega)
  exact loop7 _ 0 0 (by omega) rfl (Nat.lt_succ_self _)
