set_option maxHeartbeats 4000000 in
set_option maxRecDepth 100000 in
theorem c_count (M : KM) (h t im hh sr ct tb tl tm tp td ts : Nat) (ag al an aw : Int) (b2 b3 b4 nb : Nat) (fg fd fu : Nat → Int) (l2 nl : Nat) (lg : Nat → Int) (m2 nm : Nat) (F : Nat → Int) (p2 np : Nat) (ph : Nat → Int) (s2 s3 s4 ns : Nat) (sw sh sv : Nat → Int) (x : Int) (hb : nb ≤ 6) (hl : nl ≤ 8) (hm : nm ≤ 24) (hf : ∀ j, j < 6 → 0 ≤ fg j ∧ fg j ≤ 1000000) (hg : ∀ j, j < 8 → 0 ≤ lg j ∧ lg j ≤ 100000) (hF : ∀ j, j < 192 → zR (F j)) (hx : zR x) : kCI M yX10_count cX10_count 2 .int 4 0 0 [cO 10 h [.ref t, .ref im, .ref hh, .ref sr, .ref ct], cO 9 t [.ref tb, .ref tl, .ref tm, .ref tp, .ref td, .ref ts, .int (zI ag), .int (zI al), .int (zI an), .int (zI aw)], cO 0 tb [.int (zI (nb : Int)), .ref b2, .ref b3, .ref b4], cI M b2 6 fg, cI M b3 6 fd, cZ M b4 6 fu, cO 4 tl [.int (zI (nl : Int)), .ref l2], cI M l2 8 lg, cO 5 tm [.int (zI (nm : Int)), .ref m2], cI M m2 192 F, cO 6 tp [.int (zI (np : Int)), .ref p2], cI M p2 4 ph, cO 8 ts [.int (zI (ns : Int)), .ref s2, .ref s3, .ref s4], cI M s2 6 sw, cI M s3 6 sh, cI M s4 6 sv] [.ref h, .int (zI x)] (fun z (u : Unit) => z = ctF nb nl nm np ns fg lg F x) (fun u => [cO 10 h [.ref t, .ref im, .ref hh, .ref sr, .ref ct], cO 9 t [.ref tb, .ref tl, .ref tm, .ref tp, .ref td, .ref ts, .int (zI ag), .int (zI al), .int (zI an), .int (zI aw)], cO 0 tb [.int (zI (nb : Int)), .ref b2, .ref b3, .ref b4], cI M b2 6 fg, cI M b3 6 fd, cZ M b4 6 fu, cO 4 tl [.int (zI (nl : Int)), .ref l2], cI M l2 8 lg, cO 5 tm [.int (zI (nm : Int)), .ref m2], cI M m2 192 F, cO 6 tp [.int (zI (np : Int)), .ref p2], cI M p2 4 ph, cO 8 ts [.int (zI (ns : Int)), .ref s2, .ref s3, .ref s4], cI M s2 6 sw, cI M s3 6 sh, cI M s4 6 sv]) := by
  refine kCI.of [(0, .ref h), (1, .int (zI x))] (by decide) (Nat.le_of_ble_eq_true rfl) rfl (fun E gg hret => ?_)
  have r1_hx := hx.1
  have r2_hx := hx.2
  refine z_iload_n (pc := 0) 1 gg dX10_count_0 rfl rfl ?_
  refine z_bipush (pc := 1) gg dX10_count_1 (by decide +kernel) ?_
  refine z_icmp_lt (pc := 3) 27 gg dX10_count_3 (by decide) ⟨by omega, by omega⟩ ⟨by omega, by omega⟩ (fun h3 => ?_) (fun h3 => ?_)
  · refine z_iload_n (pc := 27) 1 gg dX10_count_27 rfl rfl ?_
    refine z_bipush (pc := 28) gg dX10_count_28 (by decide +kernel) ?_
    refine z_icmp_lt (pc := 30) 54 gg dX10_count_30 (by decide) ⟨by omega, by omega⟩ ⟨by omega, by omega⟩ (fun h30 => ?_) (fun h30 => ?_)
    · rcases (show x = 0 ∨ x = 1 ∨ x = 2 ∨ x = 3 ∨ x = 4 ∨ x = 5 ∨ x = 6 ∨ x = 7 ∨ x < 0 ∨ 7 < x by omega) with rfl | rfl | rfl | rfl | rfl | rfl | rfl | rfl | hx8
      · refine z_iload_n (pc := 54) 1 gg dX10_count_54 rfl rfl ?_
        refine z_tabIn (pc := 55) (a := 0) 100 gg dX10_count_55 ⟨by decide, by decide⟩ (by decide) (by decide) rfl (by decide) ?_
        refine z_aload_n (pc := 100) 0 gg dX10_count_100 rfl rfl ?_
        refine z_get (pc := 101) 0 gg fl_X10_10 dX10_count_101 rfl rfl ?_
        refine z_get (pc := 104) 1 gg fl_X10_41 dX10_count_104 rfl rfl ?_
        refine z_get (pc := 107) 2 gg fl_X10_209 dX10_count_107 rfl rfl ?_
        exact hret (nb : Int) () 110 _ _ _ (Nat.le_of_ble_eq_true rfl) (Nat.le_of_ble_eq_true rfl) dX10_count_110 rfl rfl
      · refine z_iload_n (pc := 54) 1 gg dX10_count_54 rfl rfl ?_
        refine z_tabIn (pc := 55) (a := 1) 111 gg dX10_count_55 ⟨by decide, by decide⟩ (by decide) (by decide) rfl (by decide) ?_
        refine z_aload_n (pc := 111) 0 gg dX10_count_111 rfl rfl ?_
        refine z_get (pc := 112) 0 gg fl_X10_10 dX10_count_112 rfl rfl ?_
        refine z_get (pc := 115) 1 gg fl_X10_55 dX10_count_115 rfl rfl ?_
        refine z_get (pc := 118) 6 gg fl_X10_212 dX10_count_118 rfl rfl ?_
        exact hret (nl : Int) () 121 _ _ _ (Nat.le_of_ble_eq_true rfl) (Nat.le_of_ble_eq_true rfl) dX10_count_121 rfl rfl
      · refine z_iload_n (pc := 54) 1 gg dX10_count_54 rfl rfl ?_
        refine z_tabIn (pc := 55) (a := 2) 122 gg dX10_count_55 ⟨by decide, by decide⟩ (by decide) (by decide) rfl (by decide) ?_
        refine z_aload_n (pc := 122) 0 gg dX10_count_122 rfl rfl ?_
        refine z_get (pc := 123) 0 gg fl_X10_10 dX10_count_123 rfl rfl ?_
        refine z_get (pc := 126) 1 gg fl_X10_71 dX10_count_126 rfl rfl ?_
        refine z_get (pc := 129) 8 gg fl_X10_213 dX10_count_129 rfl rfl ?_
        exact hret (nm : Int) () 132 _ _ _ (Nat.le_of_ble_eq_true rfl) (Nat.le_of_ble_eq_true rfl) dX10_count_132 rfl rfl
      · refine z_iload_n (pc := 54) 1 gg dX10_count_54 rfl rfl ?_
        refine z_tabIn (pc := 55) (a := 3) 133 gg dX10_count_55 ⟨by decide, by decide⟩ (by decide) (by decide) rfl (by decide) ?_
        refine z_aload_n (pc := 133) 0 gg dX10_count_133 rfl rfl ?_
        refine z_get (pc := 134) 0 gg fl_X10_10 dX10_count_134 rfl rfl ?_
        refine z_get (pc := 137) 1 gg fl_X10_126 dX10_count_137 rfl rfl ?_
        refine z_get (pc := 140) 10 gg fl_X10_214 dX10_count_140 rfl rfl ?_
        exact hret (np : Int) () 143 _ _ _ (Nat.le_of_ble_eq_true rfl) (Nat.le_of_ble_eq_true rfl) dX10_count_143 rfl rfl
      · refine z_iload_n (pc := 54) 1 gg dX10_count_54 rfl rfl ?_
        refine z_tabIn (pc := 55) (a := 4) 144 gg dX10_count_55 ⟨by decide, by decide⟩ (by decide) (by decide) rfl (by decide) ?_
        refine z_aload_n (pc := 144) 0 gg dX10_count_144 rfl rfl ?_
        refine z_get (pc := 145) 0 gg fl_X10_10 dX10_count_145 rfl rfl ?_
        refine z_get (pc := 148) 1 gg fl_X10_179 dX10_count_148 rfl rfl ?_
        refine z_get (pc := 151) 12 gg fl_X10_215 dX10_count_151 rfl rfl ?_
        exact hret (ns : Int) () 154 _ _ _ (Nat.le_of_ble_eq_true rfl) (Nat.le_of_ble_eq_true rfl) dX10_count_154 rfl rfl
      · refine z_iload_n (pc := 54) 1 gg dX10_count_54 rfl rfl ?_
        refine z_tabIn (pc := 55) (a := 5) 155 gg dX10_count_55 ⟨by decide, by decide⟩ (by decide) (by decide) rfl (by decide) ?_
        refine z_aload_n (pc := 155) 0 gg dX10_count_155 rfl rfl ?_
        refine z_get (pc := 156) 0 gg fl_X10_10 dX10_count_156 rfl rfl ?_
        refine z_get (pc := 159) 1 gg fl_X10_41 dX10_count_159 rfl rfl ?_
        refine z_callVi (pc := 162) (wr := [cO 10 h [.ref t, .ref im, .ref hh, .ref sr, .ref ct], cO 9 t [.ref tb, .ref tl, .ref tm, .ref tp, .ref td, .ref ts, .int (zI ag), .int (zI al), .int (zI an), .int (zI aw)], cO 4 tl [.int (zI (nl : Int)), .ref l2], cI M l2 8 lg, cO 5 tm [.int (zI (nm : Int)), .ref m2], cI M m2 192 F, cO 6 tp [.int (zI (np : Int)), .ref p2], cI M p2 4 ph, cO 8 ts [.int (zI (ns : Int)), .ref s2, .ref s3, .ref s4], cI M s2 6 sw, cI M s3 6 sh, cI M s4 6 sv]) (As := []) (st := []) [2, 3, 4, 5] [0, 1, 6, 7, 8, 9, 10, 11, 12, 13, 14, 15] [0, 1, 12, 13, 14, 15, 2, 3, 4, 5, 6, 7, 8, 9, 10, 11] (fun u => [cO 10 h [.ref t, .ref im, .ref hh, .ref sr, .ref ct], cO 9 t [.ref tb, .ref tl, .ref tm, .ref tp, .ref td, .ref ts, .int (zI ag), .int (zI al), .int (zI an), .int (zI aw)], cO 0 tb [.int (zI (nb : Int)), .ref b2, .ref b3, .ref b4], cI M b2 6 fg, cI M b3 6 fd, cZ M b4 6 fu, cO 4 tl [.int (zI (nl : Int)), .ref l2], cI M l2 8 lg, cO 5 tm [.int (zI (nm : Int)), .ref m2], cI M m2 192 F, cO 6 tp [.int (zI (np : Int)), .ref p2], cI M p2 4 ph, cO 8 ts [.int (zI (ns : Int)), .ref s2, .ref s3, .ref s4], cI M s2 6 sw, cI M s3 6 sh, cI M s4 6 sv]) gg (c_B_total M tb b2 b3 b4 nb fg fd fu (by first | assumption | omega | exact ⟨by omega, by omega⟩) hf) yv_0_total ml_X10_216 dX10_count_162 (by decide) (Nat.le_of_ble_eq_true rfl) (Nat.le_of_ble_eq_true rfl) (Nat.le_of_ble_eq_true rfl) rfl rfl rfl rfl (by decide) rfl (fun _ => rfl) rfl rfl rfl (fun z162 u162 hz162 => ?_)
        exact hret z162 () 165 _ _ _ (Nat.le_of_ble_eq_true rfl) (Nat.le_of_ble_eq_true rfl) dX10_count_165 rfl hz162
      · refine z_iload_n (pc := 54) 1 gg dX10_count_54 rfl rfl ?_
        refine z_tabIn (pc := 55) (a := 6) 166 gg dX10_count_55 ⟨by decide, by decide⟩ (by decide) (by decide) rfl (by decide) ?_
        refine z_aload_n (pc := 166) 0 gg dX10_count_166 rfl rfl ?_
        refine z_get (pc := 167) 0 gg fl_X10_10 dX10_count_167 rfl rfl ?_
        refine z_get (pc := 170) 1 gg fl_X10_55 dX10_count_170 rfl rfl ?_
        refine z_callVi (pc := 173) (wr := [cO 10 h [.ref t, .ref im, .ref hh, .ref sr, .ref ct], cO 9 t [.ref tb, .ref tl, .ref tm, .ref tp, .ref td, .ref ts, .int (zI ag), .int (zI al), .int (zI an), .int (zI aw)], cO 0 tb [.int (zI (nb : Int)), .ref b2, .ref b3, .ref b4], cI M b2 6 fg, cI M b3 6 fd, cZ M b4 6 fu, cO 5 tm [.int (zI (nm : Int)), .ref m2], cI M m2 192 F, cO 6 tp [.int (zI (np : Int)), .ref p2], cI M p2 4 ph, cO 8 ts [.int (zI (ns : Int)), .ref s2, .ref s3, .ref s4], cI M s2 6 sw, cI M s3 6 sh, cI M s4 6 sv]) (As := []) (st := []) [6, 7] [0, 1, 2, 3, 4, 5, 8, 9, 10, 11, 12, 13, 14, 15] [0, 1, 2, 3, 4, 5, 14, 15, 6, 7, 8, 9, 10, 11, 12, 13] (fun u => [cO 10 h [.ref t, .ref im, .ref hh, .ref sr, .ref ct], cO 9 t [.ref tb, .ref tl, .ref tm, .ref tp, .ref td, .ref ts, .int (zI ag), .int (zI al), .int (zI an), .int (zI aw)], cO 0 tb [.int (zI (nb : Int)), .ref b2, .ref b3, .ref b4], cI M b2 6 fg, cI M b3 6 fd, cZ M b4 6 fu, cO 4 tl [.int (zI (nl : Int)), .ref l2], cI M l2 8 lg, cO 5 tm [.int (zI (nm : Int)), .ref m2], cI M m2 192 F, cO 6 tp [.int (zI (np : Int)), .ref p2], cI M p2 4 ph, cO 8 ts [.int (zI (ns : Int)), .ref s2, .ref s3, .ref s4], cI M s2 6 sw, cI M s3 6 sh, cI M s4 6 sv]) gg (c_L_total M tl l2 nl lg (by first | assumption | omega | exact ⟨by omega, by omega⟩) hg) yv_4_total ml_X10_96 dX10_count_173 (by decide) (Nat.le_of_ble_eq_true rfl) (Nat.le_of_ble_eq_true rfl) (Nat.le_of_ble_eq_true rfl) rfl rfl rfl rfl (by decide) rfl (fun _ => rfl) rfl rfl rfl (fun z173 u173 hz173 => ?_)
        exact hret z173 () 176 _ _ _ (Nat.le_of_ble_eq_true rfl) (Nat.le_of_ble_eq_true rfl) dX10_count_176 rfl hz173
      · refine z_iload_n (pc := 54) 1 gg dX10_count_54 rfl rfl ?_
        refine z_tabIn (pc := 55) (a := 7) 177 gg dX10_count_55 ⟨by decide, by decide⟩ (by decide) (by decide) rfl (by decide) ?_
        refine z_aload_n (pc := 177) 0 gg dX10_count_177 rfl rfl ?_
        refine z_get (pc := 178) 0 gg fl_X10_10 dX10_count_178 rfl rfl ?_
        refine z_get (pc := 181) 1 gg fl_X10_71 dX10_count_181 rfl rfl ?_
        refine z_callVi (pc := 184) (wr := [cO 10 h [.ref t, .ref im, .ref hh, .ref sr, .ref ct], cO 9 t [.ref tb, .ref tl, .ref tm, .ref tp, .ref td, .ref ts, .int (zI ag), .int (zI al), .int (zI an), .int (zI aw)], cO 0 tb [.int (zI (nb : Int)), .ref b2, .ref b3, .ref b4], cI M b2 6 fg, cI M b3 6 fd, cZ M b4 6 fu, cO 4 tl [.int (zI (nl : Int)), .ref l2], cI M l2 8 lg, cO 6 tp [.int (zI (np : Int)), .ref p2], cI M p2 4 ph, cO 8 ts [.int (zI (ns : Int)), .ref s2, .ref s3, .ref s4], cI M s2 6 sw, cI M s3 6 sh, cI M s4 6 sv]) (As := []) (st := []) [8, 9] [0, 1, 2, 3, 4, 5, 6, 7, 10, 11, 12, 13, 14, 15] [0, 1, 2, 3, 4, 5, 6, 7, 14, 15, 8, 9, 10, 11, 12, 13] (fun u => [cO 10 h [.ref t, .ref im, .ref hh, .ref sr, .ref ct], cO 9 t [.ref tb, .ref tl, .ref tm, .ref tp, .ref td, .ref ts, .int (zI ag), .int (zI al), .int (zI an), .int (zI aw)], cO 0 tb [.int (zI (nb : Int)), .ref b2, .ref b3, .ref b4], cI M b2 6 fg, cI M b3 6 fd, cZ M b4 6 fu, cO 4 tl [.int (zI (nl : Int)), .ref l2], cI M l2 8 lg, cO 5 tm [.int (zI (nm : Int)), .ref m2], cI M m2 192 F, cO 6 tp [.int (zI (np : Int)), .ref p2], cI M p2 4 ph, cO 8 ts [.int (zI (ns : Int)), .ref s2, .ref s3, .ref s4], cI M s2 6 sw, cI M s3 6 sh, cI M s4 6 sv]) gg (c_M_pressed M tm m2 nm F (by first | assumption | omega | exact ⟨by omega, by omega⟩) hF) yv_5_pressed ml_X10_217 dX10_count_184 (by decide) (Nat.le_of_ble_eq_true rfl) (Nat.le_of_ble_eq_true rfl) (Nat.le_of_ble_eq_true rfl) rfl rfl rfl rfl (by decide) rfl (fun _ => rfl) rfl rfl rfl (fun z184 u184 hz184 => ?_)
        exact hret z184 () 187 _ _ _ (Nat.le_of_ble_eq_true rfl) (Nat.le_of_ble_eq_true rfl) dX10_count_187 rfl hz184
      · refine z_iload_n (pc := 54) 1 gg dX10_count_54 rfl rfl ?_
        refine z_tabOut (pc := 55) 188 gg dX10_count_55 ⟨by omega, by omega⟩ (by omega) (by decide) ?_
        refine z_iconst (pc := 188) gg dX10_count_188 ?_
        exact hret (-1) () 189 _ _ _ (Nat.le_of_ble_eq_true rfl) (Nat.le_of_ble_eq_true rfl) dX10_count_189 rfl (by unfold ctF; rw [if_neg (by omega), if_neg (by omega), if_neg (by omega), if_neg (by omega), if_neg (by omega), if_neg (by omega), if_neg (by omega), if_neg (by omega), if_neg (by omega), if_neg (by omega)])
    · refine z_iload_n (pc := 33) 1 gg dX10_count_33 rfl rfl ?_
      refine z_bipush (pc := 34) gg dX10_count_34 (by decide +kernel) ?_
      refine z_icmp_ge (pc := 36) 54 gg dX10_count_36 (by decide) ⟨by omega, by omega⟩ ⟨by omega, by omega⟩ (fun h36 => ?_) (fun h36 => ?_)
      · rcases (show x = 0 ∨ x = 1 ∨ x = 2 ∨ x = 3 ∨ x = 4 ∨ x = 5 ∨ x = 6 ∨ x = 7 ∨ x < 0 ∨ 7 < x by omega) with rfl | rfl | rfl | rfl | rfl | rfl | rfl | rfl | hx8
        · refine z_iload_n (pc := 54) 1 gg dX10_count_54 rfl rfl ?_
          refine z_tabIn (pc := 55) (a := 0) 100 gg dX10_count_55 ⟨by decide, by decide⟩ (by decide) (by decide) rfl (by decide) ?_
          refine z_aload_n (pc := 100) 0 gg dX10_count_100 rfl rfl ?_
          refine z_get (pc := 101) 0 gg fl_X10_10 dX10_count_101 rfl rfl ?_
          refine z_get (pc := 104) 1 gg fl_X10_41 dX10_count_104 rfl rfl ?_
          refine z_get (pc := 107) 2 gg fl_X10_209 dX10_count_107 rfl rfl ?_
          exact hret (nb : Int) () 110 _ _ _ (Nat.le_of_ble_eq_true rfl) (Nat.le_of_ble_eq_true rfl) dX10_count_110 rfl rfl
        · refine z_iload_n (pc := 54) 1 gg dX10_count_54 rfl rfl ?_
          refine z_tabIn (pc := 55) (a := 1) 111 gg dX10_count_55 ⟨by decide, by decide⟩ (by decide) (by decide) rfl (by decide) ?_
          refine z_aload_n (pc := 111) 0 gg dX10_count_111 rfl rfl ?_
          refine z_get (pc := 112) 0 gg fl_X10_10 dX10_count_112 rfl rfl ?_
          refine z_get (pc := 115) 1 gg fl_X10_55 dX10_count_115 rfl rfl ?_
          refine z_get (pc := 118) 6 gg fl_X10_212 dX10_count_118 rfl rfl ?_
          exact hret (nl : Int) () 121 _ _ _ (Nat.le_of_ble_eq_true rfl) (Nat.le_of_ble_eq_true rfl) dX10_count_121 rfl rfl
        · refine z_iload_n (pc := 54) 1 gg dX10_count_54 rfl rfl ?_
          refine z_tabIn (pc := 55) (a := 2) 122 gg dX10_count_55 ⟨by decide, by decide⟩ (by decide) (by decide) rfl (by decide) ?_
          refine z_aload_n (pc := 122) 0 gg dX10_count_122 rfl rfl ?_
          refine z_get (pc := 123) 0 gg fl_X10_10 dX10_count_123 rfl rfl ?_
          refine z_get (pc := 126) 1 gg fl_X10_71 dX10_count_126 rfl rfl ?_
          refine z_get (pc := 129) 8 gg fl_X10_213 dX10_count_129 rfl rfl ?_
          exact hret (nm : Int) () 132 _ _ _ (Nat.le_of_ble_eq_true rfl) (Nat.le_of_ble_eq_true rfl) dX10_count_132 rfl rfl
        · refine z_iload_n (pc := 54) 1 gg dX10_count_54 rfl rfl ?_
          refine z_tabIn (pc := 55) (a := 3) 133 gg dX10_count_55 ⟨by decide, by decide⟩ (by decide) (by decide) rfl (by decide) ?_
          refine z_aload_n (pc := 133) 0 gg dX10_count_133 rfl rfl ?_
          refine z_get (pc := 134) 0 gg fl_X10_10 dX10_count_134 rfl rfl ?_
          refine z_get (pc := 137) 1 gg fl_X10_126 dX10_count_137 rfl rfl ?_
          refine z_get (pc := 140) 10 gg fl_X10_214 dX10_count_140 rfl rfl ?_
          exact hret (np : Int) () 143 _ _ _ (Nat.le_of_ble_eq_true rfl) (Nat.le_of_ble_eq_true rfl) dX10_count_143 rfl rfl
        · refine z_iload_n (pc := 54) 1 gg dX10_count_54 rfl rfl ?_
          refine z_tabIn (pc := 55) (a := 4) 144 gg dX10_count_55 ⟨by decide, by decide⟩ (by decide) (by decide) rfl (by decide) ?_
          refine z_aload_n (pc := 144) 0 gg dX10_count_144 rfl rfl ?_
          refine z_get (pc := 145) 0 gg fl_X10_10 dX10_count_145 rfl rfl ?_
          refine z_get (pc := 148) 1 gg fl_X10_179 dX10_count_148 rfl rfl ?_
          refine z_get (pc := 151) 12 gg fl_X10_215 dX10_count_151 rfl rfl ?_
          exact hret (ns : Int) () 154 _ _ _ (Nat.le_of_ble_eq_true rfl) (Nat.le_of_ble_eq_true rfl) dX10_count_154 rfl rfl
        · refine z_iload_n (pc := 54) 1 gg dX10_count_54 rfl rfl ?_
          refine z_tabIn (pc := 55) (a := 5) 155 gg dX10_count_55 ⟨by decide, by decide⟩ (by decide) (by decide) rfl (by decide) ?_
          refine z_aload_n (pc := 155) 0 gg dX10_count_155 rfl rfl ?_
          refine z_get (pc := 156) 0 gg fl_X10_10 dX10_count_156 rfl rfl ?_
          refine z_get (pc := 159) 1 gg fl_X10_41 dX10_count_159 rfl rfl ?_
          refine z_callVi (pc := 162) (wr := [cO 10 h [.ref t, .ref im, .ref hh, .ref sr, .ref ct], cO 9 t [.ref tb, .ref tl, .ref tm, .ref tp, .ref td, .ref ts, .int (zI ag), .int (zI al), .int (zI an), .int (zI aw)], cO 4 tl [.int (zI (nl : Int)), .ref l2], cI M l2 8 lg, cO 5 tm [.int (zI (nm : Int)), .ref m2], cI M m2 192 F, cO 6 tp [.int (zI (np : Int)), .ref p2], cI M p2 4 ph, cO 8 ts [.int (zI (ns : Int)), .ref s2, .ref s3, .ref s4], cI M s2 6 sw, cI M s3 6 sh, cI M s4 6 sv]) (As := []) (st := []) [2, 3, 4, 5] [0, 1, 6, 7, 8, 9, 10, 11, 12, 13, 14, 15] [0, 1, 12, 13, 14, 15, 2, 3, 4, 5, 6, 7, 8, 9, 10, 11] (fun u => [cO 10 h [.ref t, .ref im, .ref hh, .ref sr, .ref ct], cO 9 t [.ref tb, .ref tl, .ref tm, .ref tp, .ref td, .ref ts, .int (zI ag), .int (zI al), .int (zI an), .int (zI aw)], cO 0 tb [.int (zI (nb : Int)), .ref b2, .ref b3, .ref b4], cI M b2 6 fg, cI M b3 6 fd, cZ M b4 6 fu, cO 4 tl [.int (zI (nl : Int)), .ref l2], cI M l2 8 lg, cO 5 tm [.int (zI (nm : Int)), .ref m2], cI M m2 192 F, cO 6 tp [.int (zI (np : Int)), .ref p2], cI M p2 4 ph, cO 8 ts [.int (zI (ns : Int)), .ref s2, .ref s3, .ref s4], cI M s2 6 sw, cI M s3 6 sh, cI M s4 6 sv]) gg (c_B_total M tb b2 b3 b4 nb fg fd fu (by first | assumption | omega | exact ⟨by omega, by omega⟩) hf) yv_0_total ml_X10_216 dX10_count_162 (by decide) (Nat.le_of_ble_eq_true rfl) (Nat.le_of_ble_eq_true rfl) (Nat.le_of_ble_eq_true rfl) rfl rfl rfl rfl (by decide) rfl (fun _ => rfl) rfl rfl rfl (fun z162 u162 hz162 => ?_)
          exact hret z162 () 165 _ _ _ (Nat.le_of_ble_eq_true rfl) (Nat.le_of_ble_eq_true rfl) dX10_count_165 rfl hz162
        · refine z_iload_n (pc := 54) 1 gg dX10_count_54 rfl rfl ?_
          refine z_tabIn (pc := 55) (a := 6) 166 gg dX10_count_55 ⟨by decide, by decide⟩ (by decide) (by decide) rfl (by decide) ?_
          refine z_aload_n (pc := 166) 0 gg dX10_count_166 rfl rfl ?_
          refine z_get (pc := 167) 0 gg fl_X10_10 dX10_count_167 rfl rfl ?_
          refine z_get (pc := 170) 1 gg fl_X10_55 dX10_count_170 rfl rfl ?_
          refine z_callVi (pc := 173) (wr := [cO 10 h [.ref t, .ref im, .ref hh, .ref sr, .ref ct], cO 9 t [.ref tb, .ref tl, .ref tm, .ref tp, .ref td, .ref ts, .int (zI ag), .int (zI al), .int (zI an), .int (zI aw)], cO 0 tb [.int (zI (nb : Int)), .ref b2, .ref b3, .ref b4], cI M b2 6 fg, cI M b3 6 fd, cZ M b4 6 fu, cO 5 tm [.int (zI (nm : Int)), .ref m2], cI M m2 192 F, cO 6 tp [.int (zI (np : Int)), .ref p2], cI M p2 4 ph, cO 8 ts [.int (zI (ns : Int)), .ref s2, .ref s3, .ref s4], cI M s2 6 sw, cI M s3 6 sh, cI M s4 6 sv]) (As := []) (st := []) [6, 7] [0, 1, 2, 3, 4, 5, 8, 9, 10, 11, 12, 13, 14, 15] [0, 1, 2, 3, 4, 5, 14, 15, 6, 7, 8, 9, 10, 11, 12, 13] (fun u => [cO 10 h [.ref t, .ref im, .ref hh, .ref sr, .ref ct], cO 9 t [.ref tb, .ref tl, .ref tm, .ref tp, .ref td, .ref ts, .int (zI ag), .int (zI al), .int (zI an), .int (zI aw)], cO 0 tb [.int (zI (nb : Int)), .ref b2, .ref b3, .ref b4], cI M b2 6 fg, cI M b3 6 fd, cZ M b4 6 fu, cO 4 tl [.int (zI (nl : Int)), .ref l2], cI M l2 8 lg, cO 5 tm [.int (zI (nm : Int)), .ref m2], cI M m2 192 F, cO 6 tp [.int (zI (np : Int)), .ref p2], cI M p2 4 ph, cO 8 ts [.int (zI (ns : Int)), .ref s2, .ref s3, .ref s4], cI M s2 6 sw, cI M s3 6 sh, cI M s4 6 sv]) gg (c_L_total M tl l2 nl lg (by first | assumption | omega | exact ⟨by omega, by omega⟩) hg) yv_4_total ml_X10_96 dX10_count_173 (by decide) (Nat.le_of_ble_eq_true rfl) (Nat.le_of_ble_eq_true rfl) (Nat.le_of_ble_eq_true rfl) rfl rfl rfl rfl (by decide) rfl (fun _ => rfl) rfl rfl rfl (fun z173 u173 hz173 => ?_)
          exact hret z173 () 176 _ _ _ (Nat.le_of_ble_eq_true rfl) (Nat.le_of_ble_eq_true rfl) dX10_count_176 rfl hz173
        · refine z_iload_n (pc := 54) 1 gg dX10_count_54 rfl rfl ?_
          refine z_tabIn (pc := 55) (a := 7) 177 gg dX10_count_55 ⟨by decide, by decide⟩ (by decide) (by decide) rfl (by decide) ?_
          refine z_aload_n (pc := 177) 0 gg dX10_count_177 rfl rfl ?_
          refine z_get (pc := 178) 0 gg fl_X10_10 dX10_count_178 rfl rfl ?_
          refine z_get (pc := 181) 1 gg fl_X10_71 dX10_count_181 rfl rfl ?_
          refine z_callVi (pc := 184) (wr := [cO 10 h [.ref t, .ref im, .ref hh, .ref sr, .ref ct], cO 9 t [.ref tb, .ref tl, .ref tm, .ref tp, .ref td, .ref ts, .int (zI ag), .int (zI al), .int (zI an), .int (zI aw)], cO 0 tb [.int (zI (nb : Int)), .ref b2, .ref b3, .ref b4], cI M b2 6 fg, cI M b3 6 fd, cZ M b4 6 fu, cO 4 tl [.int (zI (nl : Int)), .ref l2], cI M l2 8 lg, cO 6 tp [.int (zI (np : Int)), .ref p2], cI M p2 4 ph, cO 8 ts [.int (zI (ns : Int)), .ref s2, .ref s3, .ref s4], cI M s2 6 sw, cI M s3 6 sh, cI M s4 6 sv]) (As := []) (st := []) [8, 9] [0, 1, 2, 3, 4, 5, 6, 7, 10, 11, 12, 13, 14, 15] [0, 1, 2, 3, 4, 5, 6, 7, 14, 15, 8, 9, 10, 11, 12, 13] (fun u => [cO 10 h [.ref t, .ref im, .ref hh, .ref sr, .ref ct], cO 9 t [.ref tb, .ref tl, .ref tm, .ref tp, .ref td, .ref ts, .int (zI ag), .int (zI al), .int (zI an), .int (zI aw)], cO 0 tb [.int (zI (nb : Int)), .ref b2, .ref b3, .ref b4], cI M b2 6 fg, cI M b3 6 fd, cZ M b4 6 fu, cO 4 tl [.int (zI (nl : Int)), .ref l2], cI M l2 8 lg, cO 5 tm [.int (zI (nm : Int)), .ref m2], cI M m2 192 F, cO 6 tp [.int (zI (np : Int)), .ref p2], cI M p2 4 ph, cO 8 ts [.int (zI (ns : Int)), .ref s2, .ref s3, .ref s4], cI M s2 6 sw, cI M s3 6 sh, cI M s4 6 sv]) gg (c_M_pressed M tm m2 nm F (by first | assumption | omega | exact ⟨by omega, by omega⟩) hF) yv_5_pressed ml_X10_217 dX10_count_184 (by decide) (Nat.le_of_ble_eq_true rfl) (Nat.le_of_ble_eq_true rfl) (Nat.le_of_ble_eq_true rfl) rfl rfl rfl rfl (by decide) rfl (fun _ => rfl) rfl rfl rfl (fun z184 u184 hz184 => ?_)
          exact hret z184 () 187 _ _ _ (Nat.le_of_ble_eq_true rfl) (Nat.le_of_ble_eq_true rfl) dX10_count_187 rfl hz184
        · refine z_iload_n (pc := 54) 1 gg dX10_count_54 rfl rfl ?_
          refine z_tabOut (pc := 55) 188 gg dX10_count_55 ⟨by omega, by omega⟩ (by omega) (by decide) ?_
          refine z_iconst (pc := 188) gg dX10_count_188 ?_
          exact hret (-1) () 189 _ _ _ (Nat.le_of_ble_eq_true rfl) (Nat.le_of_ble_eq_true rfl) dX10_count_189 rfl (by unfold ctF; rw [if_neg (by omega), if_neg (by omega), if_neg (by omega), if_neg (by omega), if_neg (by omega), if_neg (by omega), if_neg (by omega), if_neg (by omega), if_neg (by omega), if_neg (by omega)])
      · refine z_aload_n (pc := 39) 0 gg dX10_count_39 rfl rfl ?_
        refine z_get (pc := 40) 0 gg fl_X10_10 dX10_count_40 rfl rfl ?_
        refine z_get (pc := 43) 1 gg fl_X10_55 dX10_count_43 rfl rfl ?_
        refine z_iload_n (pc := 46) 1 gg dX10_count_46 rfl rfl ?_
        refine z_bipush (pc := 47) gg dX10_count_47 (by decide +kernel) ?_
        refine z_isub (pc := 49) gg dX10_count_49 ?_
        refine z_callVi (pc := 50) (wr := [cO 10 h [.ref t, .ref im, .ref hh, .ref sr, .ref ct], cO 9 t [.ref tb, .ref tl, .ref tm, .ref tp, .ref td, .ref ts, .int (zI ag), .int (zI al), .int (zI an), .int (zI aw)], cO 0 tb [.int (zI (nb : Int)), .ref b2, .ref b3, .ref b4], cI M b2 6 fg, cI M b3 6 fd, cZ M b4 6 fu, cO 5 tm [.int (zI (nm : Int)), .ref m2], cI M m2 192 F, cO 6 tp [.int (zI (np : Int)), .ref p2], cI M p2 4 ph, cO 8 ts [.int (zI (ns : Int)), .ref s2, .ref s3, .ref s4], cI M s2 6 sw, cI M s3 6 sh, cI M s4 6 sv]) (As := [.int (zI (x - 20))]) (st := []) [6, 7] [0, 1, 2, 3, 4, 5, 8, 9, 10, 11, 12, 13, 14, 15] [0, 1, 2, 3, 4, 5, 14, 15, 6, 7, 8, 9, 10, 11, 12, 13] (fun u => [cO 10 h [.ref t, .ref im, .ref hh, .ref sr, .ref ct], cO 9 t [.ref tb, .ref tl, .ref tm, .ref tp, .ref td, .ref ts, .int (zI ag), .int (zI al), .int (zI an), .int (zI aw)], cO 0 tb [.int (zI (nb : Int)), .ref b2, .ref b3, .ref b4], cI M b2 6 fg, cI M b3 6 fd, cZ M b4 6 fu, cO 4 tl [.int (zI (nl : Int)), .ref l2], cI M l2 8 lg, cO 5 tm [.int (zI (nm : Int)), .ref m2], cI M m2 192 F, cO 6 tp [.int (zI (np : Int)), .ref p2], cI M p2 4 ph, cO 8 ts [.int (zI (ns : Int)), .ref s2, .ref s3, .ref s4], cI M s2 6 sw, cI M s3 6 sh, cI M s4 6 sv]) gg (c_L_gramsOf M tl l2 nl lg (x - 20) (by first | assumption | omega | exact ⟨by omega, by omega⟩) (by first | assumption | omega | exact ⟨by omega, by omega⟩)) yv_4_gramsOf ml_X10_208 dX10_count_50 (by decide) (Nat.le_of_ble_eq_true rfl) (Nat.le_of_ble_eq_true rfl) (Nat.le_of_ble_eq_true rfl) rfl rfl rfl rfl (by decide) rfl (fun _ => rfl) rfl rfl rfl (fun z50 u50 hz50 => ?_)
        exact hret z50 () 53 _ _ _ (Nat.le_of_ble_eq_true rfl) (Nat.le_of_ble_eq_true rfl) dX10_count_53 rfl (by unfold ctF; rw [if_neg (by omega), if_neg (by omega), if_neg (by omega), if_neg (by omega), if_neg (by omega), if_neg (by omega), if_neg (by omega), if_neg (by omega), if_neg (by omega), if_pos (by omega)]; rcases hz50 with q | q; rw [if_pos (by omega)]; exact q.2.2; rw [if_neg (by omega)]; exact q.2)
  · refine z_iload_n (pc := 6) 1 gg dX10_count_6 rfl rfl ?_
    refine z_bipush (pc := 7) gg dX10_count_7 (by decide +kernel) ?_
    refine z_icmp_ge (pc := 9) 27 gg dX10_count_9 (by decide) ⟨by omega, by omega⟩ ⟨by omega, by omega⟩ (fun h9 => ?_) (fun h9 => ?_)
    · refine z_iload_n (pc := 27) 1 gg dX10_count_27 rfl rfl ?_
      refine z_bipush (pc := 28) gg dX10_count_28 (by decide +kernel) ?_
      refine z_icmp_lt (pc := 30) 54 gg dX10_count_30 (by decide) ⟨by omega, by omega⟩ ⟨by omega, by omega⟩ (fun h30 => ?_) (fun h30 => ?_)
      · rcases (show x = 0 ∨ x = 1 ∨ x = 2 ∨ x = 3 ∨ x = 4 ∨ x = 5 ∨ x = 6 ∨ x = 7 ∨ x < 0 ∨ 7 < x by omega) with rfl | rfl | rfl | rfl | rfl | rfl | rfl | rfl | hx8
        · refine z_iload_n (pc := 54) 1 gg dX10_count_54 rfl rfl ?_
          refine z_tabIn (pc := 55) (a := 0) 100 gg dX10_count_55 ⟨by decide, by decide⟩ (by decide) (by decide) rfl (by decide) ?_
          refine z_aload_n (pc := 100) 0 gg dX10_count_100 rfl rfl ?_
          refine z_get (pc := 101) 0 gg fl_X10_10 dX10_count_101 rfl rfl ?_
          refine z_get (pc := 104) 1 gg fl_X10_41 dX10_count_104 rfl rfl ?_
          refine z_get (pc := 107) 2 gg fl_X10_209 dX10_count_107 rfl rfl ?_
          exact hret (nb : Int) () 110 _ _ _ (Nat.le_of_ble_eq_true rfl) (Nat.le_of_ble_eq_true rfl) dX10_count_110 rfl rfl
        · refine z_iload_n (pc := 54) 1 gg dX10_count_54 rfl rfl ?_
          refine z_tabIn (pc := 55) (a := 1) 111 gg dX10_count_55 ⟨by decide, by decide⟩ (by decide) (by decide) rfl (by decide) ?_
          refine z_aload_n (pc := 111) 0 gg dX10_count_111 rfl rfl ?_
          refine z_get (pc := 112) 0 gg fl_X10_10 dX10_count_112 rfl rfl ?_
          refine z_get (pc := 115) 1 gg fl_X10_55 dX10_count_115 rfl rfl ?_
          refine z_get (pc := 118) 6 gg fl_X10_212 dX10_count_118 rfl rfl ?_
          exact hret (nl : Int) () 121 _ _ _ (Nat.le_of_ble_eq_true rfl) (Nat.le_of_ble_eq_true rfl) dX10_count_121 rfl rfl
        · refine z_iload_n (pc := 54) 1 gg dX10_count_54 rfl rfl ?_
          refine z_tabIn (pc := 55) (a := 2) 122 gg dX10_count_55 ⟨by decide, by decide⟩ (by decide) (by decide) rfl (by decide) ?_
          refine z_aload_n (pc := 122) 0 gg dX10_count_122 rfl rfl ?_
          refine z_get (pc := 123) 0 gg fl_X10_10 dX10_count_123 rfl rfl ?_
          refine z_get (pc := 126) 1 gg fl_X10_71 dX10_count_126 rfl rfl ?_
          refine z_get (pc := 129) 8 gg fl_X10_213 dX10_count_129 rfl rfl ?_
          exact hret (nm : Int) () 132 _ _ _ (Nat.le_of_ble_eq_true rfl) (Nat.le_of_ble_eq_true rfl) dX10_count_132 rfl rfl
        · refine z_iload_n (pc := 54) 1 gg dX10_count_54 rfl rfl ?_
          refine z_tabIn (pc := 55) (a := 3) 133 gg dX10_count_55 ⟨by decide, by decide⟩ (by decide) (by decide) rfl (by decide) ?_
          refine z_aload_n (pc := 133) 0 gg dX10_count_133 rfl rfl ?_
          refine z_get (pc := 134) 0 gg fl_X10_10 dX10_count_134 rfl rfl ?_
          refine z_get (pc := 137) 1 gg fl_X10_126 dX10_count_137 rfl rfl ?_
          refine z_get (pc := 140) 10 gg fl_X10_214 dX10_count_140 rfl rfl ?_
          exact hret (np : Int) () 143 _ _ _ (Nat.le_of_ble_eq_true rfl) (Nat.le_of_ble_eq_true rfl) dX10_count_143 rfl rfl
        · refine z_iload_n (pc := 54) 1 gg dX10_count_54 rfl rfl ?_
          refine z_tabIn (pc := 55) (a := 4) 144 gg dX10_count_55 ⟨by decide, by decide⟩ (by decide) (by decide) rfl (by decide) ?_
          refine z_aload_n (pc := 144) 0 gg dX10_count_144 rfl rfl ?_
          refine z_get (pc := 145) 0 gg fl_X10_10 dX10_count_145 rfl rfl ?_
          refine z_get (pc := 148) 1 gg fl_X10_179 dX10_count_148 rfl rfl ?_
          refine z_get (pc := 151) 12 gg fl_X10_215 dX10_count_151 rfl rfl ?_
          exact hret (ns : Int) () 154 _ _ _ (Nat.le_of_ble_eq_true rfl) (Nat.le_of_ble_eq_true rfl) dX10_count_154 rfl rfl
        · refine z_iload_n (pc := 54) 1 gg dX10_count_54 rfl rfl ?_
          refine z_tabIn (pc := 55) (a := 5) 155 gg dX10_count_55 ⟨by decide, by decide⟩ (by decide) (by decide) rfl (by decide) ?_
          refine z_aload_n (pc := 155) 0 gg dX10_count_155 rfl rfl ?_
          refine z_get (pc := 156) 0 gg fl_X10_10 dX10_count_156 rfl rfl ?_
          refine z_get (pc := 159) 1 gg fl_X10_41 dX10_count_159 rfl rfl ?_
          refine z_callVi (pc := 162) (wr := [cO 10 h [.ref t, .ref im, .ref hh, .ref sr, .ref ct], cO 9 t [.ref tb, .ref tl, .ref tm, .ref tp, .ref td, .ref ts, .int (zI ag), .int (zI al), .int (zI an), .int (zI aw)], cO 4 tl [.int (zI (nl : Int)), .ref l2], cI M l2 8 lg, cO 5 tm [.int (zI (nm : Int)), .ref m2], cI M m2 192 F, cO 6 tp [.int (zI (np : Int)), .ref p2], cI M p2 4 ph, cO 8 ts [.int (zI (ns : Int)), .ref s2, .ref s3, .ref s4], cI M s2 6 sw, cI M s3 6 sh, cI M s4 6 sv]) (As := []) (st := []) [2, 3, 4, 5] [0, 1, 6, 7, 8, 9, 10, 11, 12, 13, 14, 15] [0, 1, 12, 13, 14, 15, 2, 3, 4, 5, 6, 7, 8, 9, 10, 11] (fun u => [cO 10 h [.ref t, .ref im, .ref hh, .ref sr, .ref ct], cO 9 t [.ref tb, .ref tl, .ref tm, .ref tp, .ref td, .ref ts, .int (zI ag), .int (zI al), .int (zI an), .int (zI aw)], cO 0 tb [.int (zI (nb : Int)), .ref b2, .ref b3, .ref b4], cI M b2 6 fg, cI M b3 6 fd, cZ M b4 6 fu, cO 4 tl [.int (zI (nl : Int)), .ref l2], cI M l2 8 lg, cO 5 tm [.int (zI (nm : Int)), .ref m2], cI M m2 192 F, cO 6 tp [.int (zI (np : Int)), .ref p2], cI M p2 4 ph, cO 8 ts [.int (zI (ns : Int)), .ref s2, .ref s3, .ref s4], cI M s2 6 sw, cI M s3 6 sh, cI M s4 6 sv]) gg (c_B_total M tb b2 b3 b4 nb fg fd fu (by first | assumption | omega | exact ⟨by omega, by omega⟩) hf) yv_0_total ml_X10_216 dX10_count_162 (by decide) (Nat.le_of_ble_eq_true rfl) (Nat.le_of_ble_eq_true rfl) (Nat.le_of_ble_eq_true rfl) rfl rfl rfl rfl (by decide) rfl (fun _ => rfl) rfl rfl rfl (fun z162 u162 hz162 => ?_)
          exact hret z162 () 165 _ _ _ (Nat.le_of_ble_eq_true rfl) (Nat.le_of_ble_eq_true rfl) dX10_count_165 rfl hz162
        · refine z_iload_n (pc := 54) 1 gg dX10_count_54 rfl rfl ?_
          refine z_tabIn (pc := 55) (a := 6) 166 gg dX10_count_55 ⟨by decide, by decide⟩ (by decide) (by decide) rfl (by decide) ?_
          refine z_aload_n (pc := 166) 0 gg dX10_count_166 rfl rfl ?_
          refine z_get (pc := 167) 0 gg fl_X10_10 dX10_count_167 rfl rfl ?_
          refine z_get (pc := 170) 1 gg fl_X10_55 dX10_count_170 rfl rfl ?_
          refine z_callVi (pc := 173) (wr := [cO 10 h [.ref t, .ref im, .ref hh, .ref sr, .ref ct], cO 9 t [.ref tb, .ref tl, .ref tm, .ref tp, .ref td, .ref ts, .int (zI ag), .int (zI al), .int (zI an), .int (zI aw)], cO 0 tb [.int (zI (nb : Int)), .ref b2, .ref b3, .ref b4], cI M b2 6 fg, cI M b3 6 fd, cZ M b4 6 fu, cO 5 tm [.int (zI (nm : Int)), .ref m2], cI M m2 192 F, cO 6 tp [.int (zI (np : Int)), .ref p2], cI M p2 4 ph, cO 8 ts [.int (zI (ns : Int)), .ref s2, .ref s3, .ref s4], cI M s2 6 sw, cI M s3 6 sh, cI M s4 6 sv]) (As := []) (st := []) [6, 7] [0, 1, 2, 3, 4, 5, 8, 9, 10, 11, 12, 13, 14, 15] [0, 1, 2, 3, 4, 5, 14, 15, 6, 7, 8, 9, 10, 11, 12, 13] (fun u => [cO 10 h [.ref t, .ref im, .ref hh, .ref sr, .ref ct], cO 9 t [.ref tb, .ref tl, .ref tm, .ref tp, .ref td, .ref ts, .int (zI ag), .int (zI al), .int (zI an), .int (zI aw)], cO 0 tb [.int (zI (nb : Int)), .ref b2, .ref b3, .ref b4], cI M b2 6 fg, cI M b3 6 fd, cZ M b4 6 fu, cO 4 tl [.int (zI (nl : Int)), .ref l2], cI M l2 8 lg, cO 5 tm [.int (zI (nm : Int)), .ref m2], cI M m2 192 F, cO 6 tp [.int (zI (np : Int)), .ref p2], cI M p2 4 ph, cO 8 ts [.int (zI (ns : Int)), .ref s2, .ref s3, .ref s4], cI M s2 6 sw, cI M s3 6 sh, cI M s4 6 sv]) gg (c_L_total M tl l2 nl lg (by first | assumption | omega | exact ⟨by omega, by omega⟩) hg) yv_4_total ml_X10_96 dX10_count_173 (by decide) (Nat.le_of_ble_eq_true rfl) (Nat.le_of_ble_eq_true rfl) (Nat.le_of_ble_eq_true rfl) rfl rfl rfl rfl (by decide) rfl (fun _ => rfl) rfl rfl rfl (fun z173 u173 hz173 => ?_)
          exact hret z173 () 176 _ _ _ (Nat.le_of_ble_eq_true rfl) (Nat.le_of_ble_eq_true rfl) dX10_count_176 rfl hz173
        · refine z_iload_n (pc := 54) 1 gg dX10_count_54 rfl rfl ?_
          refine z_tabIn (pc := 55) (a := 7) 177 gg dX10_count_55 ⟨by decide, by decide⟩ (by decide) (by decide) rfl (by decide) ?_
          refine z_aload_n (pc := 177) 0 gg dX10_count_177 rfl rfl ?_
          refine z_get (pc := 178) 0 gg fl_X10_10 dX10_count_178 rfl rfl ?_
          refine z_get (pc := 181) 1 gg fl_X10_71 dX10_count_181 rfl rfl ?_
          refine z_callVi (pc := 184) (wr := [cO 10 h [.ref t, .ref im, .ref hh, .ref sr, .ref ct], cO 9 t [.ref tb, .ref tl, .ref tm, .ref tp, .ref td, .ref ts, .int (zI ag), .int (zI al), .int (zI an), .int (zI aw)], cO 0 tb [.int (zI (nb : Int)), .ref b2, .ref b3, .ref b4], cI M b2 6 fg, cI M b3 6 fd, cZ M b4 6 fu, cO 4 tl [.int (zI (nl : Int)), .ref l2], cI M l2 8 lg, cO 6 tp [.int (zI (np : Int)), .ref p2], cI M p2 4 ph, cO 8 ts [.int (zI (ns : Int)), .ref s2, .ref s3, .ref s4], cI M s2 6 sw, cI M s3 6 sh, cI M s4 6 sv]) (As := []) (st := []) [8, 9] [0, 1, 2, 3, 4, 5, 6, 7, 10, 11, 12, 13, 14, 15] [0, 1, 2, 3, 4, 5, 6, 7, 14, 15, 8, 9, 10, 11, 12, 13] (fun u => [cO 10 h [.ref t, .ref im, .ref hh, .ref sr, .ref ct], cO 9 t [.ref tb, .ref tl, .ref tm, .ref tp, .ref td, .ref ts, .int (zI ag), .int (zI al), .int (zI an), .int (zI aw)], cO 0 tb [.int (zI (nb : Int)), .ref b2, .ref b3, .ref b4], cI M b2 6 fg, cI M b3 6 fd, cZ M b4 6 fu, cO 4 tl [.int (zI (nl : Int)), .ref l2], cI M l2 8 lg, cO 5 tm [.int (zI (nm : Int)), .ref m2], cI M m2 192 F, cO 6 tp [.int (zI (np : Int)), .ref p2], cI M p2 4 ph, cO 8 ts [.int (zI (ns : Int)), .ref s2, .ref s3, .ref s4], cI M s2 6 sw, cI M s3 6 sh, cI M s4 6 sv]) gg (c_M_pressed M tm m2 nm F (by first | assumption | omega | exact ⟨by omega, by omega⟩) hF) yv_5_pressed ml_X10_217 dX10_count_184 (by decide) (Nat.le_of_ble_eq_true rfl) (Nat.le_of_ble_eq_true rfl) (Nat.le_of_ble_eq_true rfl) rfl rfl rfl rfl (by decide) rfl (fun _ => rfl) rfl rfl rfl (fun z184 u184 hz184 => ?_)
          exact hret z184 () 187 _ _ _ (Nat.le_of_ble_eq_true rfl) (Nat.le_of_ble_eq_true rfl) dX10_count_187 rfl hz184
        · refine z_iload_n (pc := 54) 1 gg dX10_count_54 rfl rfl ?_
          refine z_tabOut (pc := 55) 188 gg dX10_count_55 ⟨by omega, by omega⟩ (by omega) (by decide) ?_
          refine z_iconst (pc := 188) gg dX10_count_188 ?_
          exact hret (-1) () 189 _ _ _ (Nat.le_of_ble_eq_true rfl) (Nat.le_of_ble_eq_true rfl) dX10_count_189 rfl (by unfold ctF; rw [if_neg (by omega), if_neg (by omega), if_neg (by omega), if_neg (by omega), if_neg (by omega), if_neg (by omega), if_neg (by omega), if_neg (by omega), if_neg (by omega), if_neg (by omega)])
      · refine z_iload_n (pc := 33) 1 gg dX10_count_33 rfl rfl ?_
        refine z_bipush (pc := 34) gg dX10_count_34 (by decide +kernel) ?_
        refine z_icmp_ge (pc := 36) 54 gg dX10_count_36 (by decide) ⟨by omega, by omega⟩ ⟨by omega, by omega⟩ (fun h36 => ?_) (fun h36 => ?_)
        · rcases (show x = 0 ∨ x = 1 ∨ x = 2 ∨ x = 3 ∨ x = 4 ∨ x = 5 ∨ x = 6 ∨ x = 7 ∨ x < 0 ∨ 7 < x by omega) with rfl | rfl | rfl | rfl | rfl | rfl | rfl | rfl | hx8
          · refine z_iload_n (pc := 54) 1 gg dX10_count_54 rfl rfl ?_
            refine z_tabIn (pc := 55) (a := 0) 100 gg dX10_count_55 ⟨by decide, by decide⟩ (by decide) (by decide) rfl (by decide) ?_
            refine z_aload_n (pc := 100) 0 gg dX10_count_100 rfl rfl ?_
            refine z_get (pc := 101) 0 gg fl_X10_10 dX10_count_101 rfl rfl ?_
            refine z_get (pc := 104) 1 gg fl_X10_41 dX10_count_104 rfl rfl ?_
            refine z_get (pc := 107) 2 gg fl_X10_209 dX10_count_107 rfl rfl ?_
            exact hret (nb : Int) () 110 _ _ _ (Nat.le_of_ble_eq_true rfl) (Nat.le_of_ble_eq_true rfl) dX10_count_110 rfl rfl
          · refine z_iload_n (pc := 54) 1 gg dX10_count_54 rfl rfl ?_
            refine z_tabIn (pc := 55) (a := 1) 111 gg dX10_count_55 ⟨by decide, by decide⟩ (by decide) (by decide) rfl (by decide) ?_
            refine z_aload_n (pc := 111) 0 gg dX10_count_111 rfl rfl ?_
            refine z_get (pc := 112) 0 gg fl_X10_10 dX10_count_112 rfl rfl ?_
            refine z_get (pc := 115) 1 gg fl_X10_55 dX10_count_115 rfl rfl ?_
            refine z_get (pc := 118) 6 gg fl_X10_212 dX10_count_118 rfl rfl ?_
            exact hret (nl : Int) () 121 _ _ _ (Nat.le_of_ble_eq_true rfl) (Nat.le_of_ble_eq_true rfl) dX10_count_121 rfl rfl
          · refine z_iload_n (pc := 54) 1 gg dX10_count_54 rfl rfl ?_
            refine z_tabIn (pc := 55) (a := 2) 122 gg dX10_count_55 ⟨by decide, by decide⟩ (by decide) (by decide) rfl (by decide) ?_
            refine z_aload_n (pc := 122) 0 gg dX10_count_122 rfl rfl ?_
            refine z_get (pc := 123) 0 gg fl_X10_10 dX10_count_123 rfl rfl ?_
            refine z_get (pc := 126) 1 gg fl_X10_71 dX10_count_126 rfl rfl ?_
            refine z_get (pc := 129) 8 gg fl_X10_213 dX10_count_129 rfl rfl ?_
            exact hret (nm : Int) () 132 _ _ _ (Nat.le_of_ble_eq_true rfl) (Nat.le_of_ble_eq_true rfl) dX10_count_132 rfl rfl
          · refine z_iload_n (pc := 54) 1 gg dX10_count_54 rfl rfl ?_
            refine z_tabIn (pc := 55) (a := 3) 133 gg dX10_count_55 ⟨by decide, by decide⟩ (by decide) (by decide) rfl (by decide) ?_
            refine z_aload_n (pc := 133) 0 gg dX10_count_133 rfl rfl ?_
            refine z_get (pc := 134) 0 gg fl_X10_10 dX10_count_134 rfl rfl ?_
            refine z_get (pc := 137) 1 gg fl_X10_126 dX10_count_137 rfl rfl ?_
            refine z_get (pc := 140) 10 gg fl_X10_214 dX10_count_140 rfl rfl ?_
            exact hret (np : Int) () 143 _ _ _ (Nat.le_of_ble_eq_true rfl) (Nat.le_of_ble_eq_true rfl) dX10_count_143 rfl rfl
          · refine z_iload_n (pc := 54) 1 gg dX10_count_54 rfl rfl ?_
            refine z_tabIn (pc := 55) (a := 4) 144 gg dX10_count_55 ⟨by decide, by decide⟩ (by decide) (by decide) rfl (by decide) ?_
            refine z_aload_n (pc := 144) 0 gg dX10_count_144 rfl rfl ?_
            refine z_get (pc := 145) 0 gg fl_X10_10 dX10_count_145 rfl rfl ?_
            refine z_get (pc := 148) 1 gg fl_X10_179 dX10_count_148 rfl rfl ?_
            refine z_get (pc := 151) 12 gg fl_X10_215 dX10_count_151 rfl rfl ?_
            exact hret (ns : Int) () 154 _ _ _ (Nat.le_of_ble_eq_true rfl) (Nat.le_of_ble_eq_true rfl) dX10_count_154 rfl rfl
          · refine z_iload_n (pc := 54) 1 gg dX10_count_54 rfl rfl ?_
            refine z_tabIn (pc := 55) (a := 5) 155 gg dX10_count_55 ⟨by decide, by decide⟩ (by decide) (by decide) rfl (by decide) ?_
            refine z_aload_n (pc := 155) 0 gg dX10_count_155 rfl rfl ?_
            refine z_get (pc := 156) 0 gg fl_X10_10 dX10_count_156 rfl rfl ?_
            refine z_get (pc := 159) 1 gg fl_X10_41 dX10_count_159 rfl rfl ?_
            refine z_callVi (pc := 162) (wr := [cO 10 h [.ref t, .ref im, .ref hh, .ref sr, .ref ct], cO 9 t [.ref tb, .ref tl, .ref tm, .ref tp, .ref td, .ref ts, .int (zI ag), .int (zI al), .int (zI an), .int (zI aw)], cO 4 tl [.int (zI (nl : Int)), .ref l2], cI M l2 8 lg, cO 5 tm [.int (zI (nm : Int)), .ref m2], cI M m2 192 F, cO 6 tp [.int (zI (np : Int)), .ref p2], cI M p2 4 ph, cO 8 ts [.int (zI (ns : Int)), .ref s2, .ref s3, .ref s4], cI M s2 6 sw, cI M s3 6 sh, cI M s4 6 sv]) (As := []) (st := []) [2, 3, 4, 5] [0, 1, 6, 7, 8, 9, 10, 11, 12, 13, 14, 15] [0, 1, 12, 13, 14, 15, 2, 3, 4, 5, 6, 7, 8, 9, 10, 11] (fun u => [cO 10 h [.ref t, .ref im, .ref hh, .ref sr, .ref ct], cO 9 t [.ref tb, .ref tl, .ref tm, .ref tp, .ref td, .ref ts, .int (zI ag), .int (zI al), .int (zI an), .int (zI aw)], cO 0 tb [.int (zI (nb : Int)), .ref b2, .ref b3, .ref b4], cI M b2 6 fg, cI M b3 6 fd, cZ M b4 6 fu, cO 4 tl [.int (zI (nl : Int)), .ref l2], cI M l2 8 lg, cO 5 tm [.int (zI (nm : Int)), .ref m2], cI M m2 192 F, cO 6 tp [.int (zI (np : Int)), .ref p2], cI M p2 4 ph, cO 8 ts [.int (zI (ns : Int)), .ref s2, .ref s3, .ref s4], cI M s2 6 sw, cI M s3 6 sh, cI M s4 6 sv]) gg (c_B_total M tb b2 b3 b4 nb fg fd fu (by first | assumption | omega | exact ⟨by omega, by omega⟩) hf) yv_0_total ml_X10_216 dX10_count_162 (by decide) (Nat.le_of_ble_eq_true rfl) (Nat.le_of_ble_eq_true rfl) (Nat.le_of_ble_eq_true rfl) rfl rfl rfl rfl (by decide) rfl (fun _ => rfl) rfl rfl rfl (fun z162 u162 hz162 => ?_)
            exact hret z162 () 165 _ _ _ (Nat.le_of_ble_eq_true rfl) (Nat.le_of_ble_eq_true rfl) dX10_count_165 rfl hz162
          · refine z_iload_n (pc := 54) 1 gg dX10_count_54 rfl rfl ?_
            refine z_tabIn (pc := 55) (a := 6) 166 gg dX10_count_55 ⟨by decide, by decide⟩ (by decide) (by decide) rfl (by decide) ?_
            refine z_aload_n (pc := 166) 0 gg dX10_count_166 rfl rfl ?_
            refine z_get (pc := 167) 0 gg fl_X10_10 dX10_count_167 rfl rfl ?_
            refine z_get (pc := 170) 1 gg fl_X10_55 dX10_count_170 rfl rfl ?_
            refine z_callVi (pc := 173) (wr := [cO 10 h [.ref t, .ref im, .ref hh, .ref sr, .ref ct], cO 9 t [.ref tb, .ref tl, .ref tm, .ref tp, .ref td, .ref ts, .int (zI ag), .int (zI al), .int (zI an), .int (zI aw)], cO 0 tb [.int (zI (nb : Int)), .ref b2, .ref b3, .ref b4], cI M b2 6 fg, cI M b3 6 fd, cZ M b4 6 fu, cO 5 tm [.int (zI (nm : Int)), .ref m2], cI M m2 192 F, cO 6 tp [.int (zI (np : Int)), .ref p2], cI M p2 4 ph, cO 8 ts [.int (zI (ns : Int)), .ref s2, .ref s3, .ref s4], cI M s2 6 sw, cI M s3 6 sh, cI M s4 6 sv]) (As := []) (st := []) [6, 7] [0, 1, 2, 3, 4, 5, 8, 9, 10, 11, 12, 13, 14, 15] [0, 1, 2, 3, 4, 5, 14, 15, 6, 7, 8, 9, 10, 11, 12, 13] (fun u => [cO 10 h [.ref t, .ref im, .ref hh, .ref sr, .ref ct], cO 9 t [.ref tb, .ref tl, .ref tm, .ref tp, .ref td, .ref ts, .int (zI ag), .int (zI al), .int (zI an), .int (zI aw)], cO 0 tb [.int (zI (nb : Int)), .ref b2, .ref b3, .ref b4], cI M b2 6 fg, cI M b3 6 fd, cZ M b4 6 fu, cO 4 tl [.int (zI (nl : Int)), .ref l2], cI M l2 8 lg, cO 5 tm [.int (zI (nm : Int)), .ref m2], cI M m2 192 F, cO 6 tp [.int (zI (np : Int)), .ref p2], cI M p2 4 ph, cO 8 ts [.int (zI (ns : Int)), .ref s2, .ref s3, .ref s4], cI M s2 6 sw, cI M s3 6 sh, cI M s4 6 sv]) gg (c_L_total M tl l2 nl lg (by first | assumption | omega | exact ⟨by omega, by omega⟩) hg) yv_4_total ml_X10_96 dX10_count_173 (by decide) (Nat.le_of_ble_eq_true rfl) (Nat.le_of_ble_eq_true rfl) (Nat.le_of_ble_eq_true rfl) rfl rfl rfl rfl (by decide) rfl (fun _ => rfl) rfl rfl rfl (fun z173 u173 hz173 => ?_)
            exact hret z173 () 176 _ _ _ (Nat.le_of_ble_eq_true rfl) (Nat.le_of_ble_eq_true rfl) dX10_count_176 rfl hz173
          · refine z_iload_n (pc := 54) 1 gg dX10_count_54 rfl rfl ?_
            refine z_tabIn (pc := 55) (a := 7) 177 gg dX10_count_55 ⟨by decide, by decide⟩ (by decide) (by decide) rfl (by decide) ?_
            refine z_aload_n (pc := 177) 0 gg dX10_count_177 rfl rfl ?_
            refine z_get (pc := 178) 0 gg fl_X10_10 dX10_count_178 rfl rfl ?_
            refine z_get (pc := 181) 1 gg fl_X10_71 dX10_count_181 rfl rfl ?_
            refine z_callVi (pc := 184) (wr := [cO 10 h [.ref t, .ref im, .ref hh, .ref sr, .ref ct], cO 9 t [.ref tb, .ref tl, .ref tm, .ref tp, .ref td, .ref ts, .int (zI ag), .int (zI al), .int (zI an), .int (zI aw)], cO 0 tb [.int (zI (nb : Int)), .ref b2, .ref b3, .ref b4], cI M b2 6 fg, cI M b3 6 fd, cZ M b4 6 fu, cO 4 tl [.int (zI (nl : Int)), .ref l2], cI M l2 8 lg, cO 6 tp [.int (zI (np : Int)), .ref p2], cI M p2 4 ph, cO 8 ts [.int (zI (ns : Int)), .ref s2, .ref s3, .ref s4], cI M s2 6 sw, cI M s3 6 sh, cI M s4 6 sv]) (As := []) (st := []) [8, 9] [0, 1, 2, 3, 4, 5, 6, 7, 10, 11, 12, 13, 14, 15] [0, 1, 2, 3, 4, 5, 6, 7, 14, 15, 8, 9, 10, 11, 12, 13] (fun u => [cO 10 h [.ref t, .ref im, .ref hh, .ref sr, .ref ct], cO 9 t [.ref tb, .ref tl, .ref tm, .ref tp, .ref td, .ref ts, .int (zI ag), .int (zI al), .int (zI an), .int (zI aw)], cO 0 tb [.int (zI (nb : Int)), .ref b2, .ref b3, .ref b4], cI M b2 6 fg, cI M b3 6 fd, cZ M b4 6 fu, cO 4 tl [.int (zI (nl : Int)), .ref l2], cI M l2 8 lg, cO 5 tm [.int (zI (nm : Int)), .ref m2], cI M m2 192 F, cO 6 tp [.int (zI (np : Int)), .ref p2], cI M p2 4 ph, cO 8 ts [.int (zI (ns : Int)), .ref s2, .ref s3, .ref s4], cI M s2 6 sw, cI M s3 6 sh, cI M s4 6 sv]) gg (c_M_pressed M tm m2 nm F (by first | assumption | omega | exact ⟨by omega, by omega⟩) hF) yv_5_pressed ml_X10_217 dX10_count_184 (by decide) (Nat.le_of_ble_eq_true rfl) (Nat.le_of_ble_eq_true rfl) (Nat.le_of_ble_eq_true rfl) rfl rfl rfl rfl (by decide) rfl (fun _ => rfl) rfl rfl rfl (fun z184 u184 hz184 => ?_)
            exact hret z184 () 187 _ _ _ (Nat.le_of_ble_eq_true rfl) (Nat.le_of_ble_eq_true rfl) dX10_count_187 rfl hz184
          · refine z_iload_n (pc := 54) 1 gg dX10_count_54 rfl rfl ?_
            refine z_tabOut (pc := 55) 188 gg dX10_count_55 ⟨by omega, by omega⟩ (by omega) (by decide) ?_
            refine z_iconst (pc := 188) gg dX10_count_188 ?_
            exact hret (-1) () 189 _ _ _ (Nat.le_of_ble_eq_true rfl) (Nat.le_of_ble_eq_true rfl) dX10_count_189 rfl (by unfold ctF; rw [if_neg (by omega), if_neg (by omega), if_neg (by omega), if_neg (by omega), if_neg (by omega), if_neg (by omega), if_neg (by omega), if_neg (by omega), if_neg (by omega), if_neg (by omega)])
        · refine z_aload_n (pc := 39) 0 gg dX10_count_39 rfl rfl ?_
          refine z_get (pc := 40) 0 gg fl_X10_10 dX10_count_40 rfl rfl ?_
          refine z_get (pc := 43) 1 gg fl_X10_55 dX10_count_43 rfl rfl ?_
          refine z_iload_n (pc := 46) 1 gg dX10_count_46 rfl rfl ?_
          refine z_bipush (pc := 47) gg dX10_count_47 (by decide +kernel) ?_
          refine z_isub (pc := 49) gg dX10_count_49 ?_
          refine z_callVi (pc := 50) (wr := [cO 10 h [.ref t, .ref im, .ref hh, .ref sr, .ref ct], cO 9 t [.ref tb, .ref tl, .ref tm, .ref tp, .ref td, .ref ts, .int (zI ag), .int (zI al), .int (zI an), .int (zI aw)], cO 0 tb [.int (zI (nb : Int)), .ref b2, .ref b3, .ref b4], cI M b2 6 fg, cI M b3 6 fd, cZ M b4 6 fu, cO 5 tm [.int (zI (nm : Int)), .ref m2], cI M m2 192 F, cO 6 tp [.int (zI (np : Int)), .ref p2], cI M p2 4 ph, cO 8 ts [.int (zI (ns : Int)), .ref s2, .ref s3, .ref s4], cI M s2 6 sw, cI M s3 6 sh, cI M s4 6 sv]) (As := [.int (zI (x - 20))]) (st := []) [6, 7] [0, 1, 2, 3, 4, 5, 8, 9, 10, 11, 12, 13, 14, 15] [0, 1, 2, 3, 4, 5, 14, 15, 6, 7, 8, 9, 10, 11, 12, 13] (fun u => [cO 10 h [.ref t, .ref im, .ref hh, .ref sr, .ref ct], cO 9 t [.ref tb, .ref tl, .ref tm, .ref tp, .ref td, .ref ts, .int (zI ag), .int (zI al), .int (zI an), .int (zI aw)], cO 0 tb [.int (zI (nb : Int)), .ref b2, .ref b3, .ref b4], cI M b2 6 fg, cI M b3 6 fd, cZ M b4 6 fu, cO 4 tl [.int (zI (nl : Int)), .ref l2], cI M l2 8 lg, cO 5 tm [.int (zI (nm : Int)), .ref m2], cI M m2 192 F, cO 6 tp [.int (zI (np : Int)), .ref p2], cI M p2 4 ph, cO 8 ts [.int (zI (ns : Int)), .ref s2, .ref s3, .ref s4], cI M s2 6 sw, cI M s3 6 sh, cI M s4 6 sv]) gg (c_L_gramsOf M tl l2 nl lg (x - 20) (by first | assumption | omega | exact ⟨by omega, by omega⟩) (by first | assumption | omega | exact ⟨by omega, by omega⟩)) yv_4_gramsOf ml_X10_208 dX10_count_50 (by decide) (Nat.le_of_ble_eq_true rfl) (Nat.le_of_ble_eq_true rfl) (Nat.le_of_ble_eq_true rfl) rfl rfl rfl rfl (by decide) rfl (fun _ => rfl) rfl rfl rfl (fun z50 u50 hz50 => ?_)
          exact hret z50 () 53 _ _ _ (Nat.le_of_ble_eq_true rfl) (Nat.le_of_ble_eq_true rfl) dX10_count_53 rfl (by unfold ctF; rw [if_neg (by omega), if_neg (by omega), if_neg (by omega), if_neg (by omega), if_neg (by omega), if_neg (by omega), if_neg (by omega), if_neg (by omega), if_neg (by omega), if_pos (by omega)]; rcases hz50 with q | q; rw [if_pos (by omega)]; exact q.2.2; rw [if_neg (by omega)]; exact q.2)
    · refine z_aload_n (pc := 12) 0 gg dX10_count_12 rfl rfl ?_
      refine z_get (pc := 13) 0 gg fl_X10_10 dX10_count_13 rfl rfl ?_
      refine z_get (pc := 16) 1 gg fl_X10_41 dX10_count_16 rfl rfl ?_
      refine z_iload_n (pc := 19) 1 gg dX10_count_19 rfl rfl ?_
      refine z_bipush (pc := 20) gg dX10_count_20 (by decide +kernel) ?_
      refine z_isub (pc := 22) gg dX10_count_22 ?_
      refine z_callVi (pc := 23) (wr := [cO 10 h [.ref t, .ref im, .ref hh, .ref sr, .ref ct], cO 9 t [.ref tb, .ref tl, .ref tm, .ref tp, .ref td, .ref ts, .int (zI ag), .int (zI al), .int (zI an), .int (zI aw)], cO 4 tl [.int (zI (nl : Int)), .ref l2], cI M l2 8 lg, cO 5 tm [.int (zI (nm : Int)), .ref m2], cI M m2 192 F, cO 6 tp [.int (zI (np : Int)), .ref p2], cI M p2 4 ph, cO 8 ts [.int (zI (ns : Int)), .ref s2, .ref s3, .ref s4], cI M s2 6 sw, cI M s3 6 sh, cI M s4 6 sv]) (As := [.int (zI (x - 10))]) (st := []) [2, 3, 4, 5] [0, 1, 6, 7, 8, 9, 10, 11, 12, 13, 14, 15] [0, 1, 12, 13, 14, 15, 2, 3, 4, 5, 6, 7, 8, 9, 10, 11] (fun u => [cO 10 h [.ref t, .ref im, .ref hh, .ref sr, .ref ct], cO 9 t [.ref tb, .ref tl, .ref tm, .ref tp, .ref td, .ref ts, .int (zI ag), .int (zI al), .int (zI an), .int (zI aw)], cO 0 tb [.int (zI (nb : Int)), .ref b2, .ref b3, .ref b4], cI M b2 6 fg, cI M b3 6 fd, cZ M b4 6 fu, cO 4 tl [.int (zI (nl : Int)), .ref l2], cI M l2 8 lg, cO 5 tm [.int (zI (nm : Int)), .ref m2], cI M m2 192 F, cO 6 tp [.int (zI (np : Int)), .ref p2], cI M p2 4 ph, cO 8 ts [.int (zI (ns : Int)), .ref s2, .ref s3, .ref s4], cI M s2 6 sw, cI M s3 6 sh, cI M s4 6 sv]) gg (c_B_gramsOf M tb b2 b3 b4 nb fg fd fu (x - 10) (by first | assumption | omega | exact ⟨by omega, by omega⟩) (by first | assumption | omega | exact ⟨by omega, by omega⟩)) yv_0_gramsOf ml_X10_205 dX10_count_23 (by decide) (Nat.le_of_ble_eq_true rfl) (Nat.le_of_ble_eq_true rfl) (Nat.le_of_ble_eq_true rfl) rfl rfl rfl rfl (by decide) rfl (fun _ => rfl) rfl rfl rfl (fun z23 u23 hz23 => ?_)
      exact hret z23 () 26 _ _ _ (Nat.le_of_ble_eq_true rfl) (Nat.le_of_ble_eq_true rfl) dX10_count_26 rfl (by unfold ctF; rw [if_neg (by omega), if_neg (by omega), if_neg (by omega), if_neg (by omega), if_neg (by omega), if_neg (by omega), if_neg (by omega), if_neg (by omega), if_pos (by omega)]; rcases hz23 with q | q; rw [if_pos (by omega)]; exact q.2.2; rw [if_neg (by omega)]; exact q.2)
set_option maxHeartbeats 4000000 in
set_option maxRecDepth 100000 in
theorem c_timeOf (M : KM) (h t im hh sr ct tb tl tm tp td ts : Nat) (ag al an aw : Int) (m2 nm : Nat) (F : Nat → Int) (p2 np : Nat) (ph : Nat → Int) (e0 e1 e2 : Nat) (x0 x1 x2 : Nat → Int) (x y : Int) (hm : nm ≤ 24) (hp : np ≤ 4) (hph : ∀ j, j < 4 → j < np → 100 ≤ ph j ∧ ph j ≤ 250) (hd : ∀ j, j < nm → 0 ≤ F (j * 8 + 2) ∧ F (j * 8 + 2) ≤ 20) (han : 1 ≤ an ∧ an ≤ 5000) (hxr : zR x) (hyr : zR y) : kCI M yX10_timeOf cX10_timeOf 5 .int 2 0 0 [cO 10 h [.ref t, .ref im, .ref hh, .ref sr, .ref ct], cO 9 t [.ref tb, .ref tl, .ref tm, .ref tp, .ref td, .ref ts, .int (zI ag), .int (zI al), .int (zI an), .int (zI aw)], cO 5 tm [.int (zI (nm : Int)), .ref m2], cI M m2 192 F, cO 6 tp [.int (zI (np : Int)), .ref p2], cI M p2 4 ph, cO 3 hh [.ref e0, .ref e1, .ref e2], cI M e0 11 x0, cI M e1 11 x1, cI M e2 9 x2] [.ref h, .int (zI x), .int (zI y)] (fun z (u : (Nat → Int) × (Nat → Int) × (Nat → Int)) => (0 ≤ x ∧ x < nm ∧ 0 ≤ y ∧ y < np ∧ isT (100 * ph y.toNat) an (F (x.toNat * 8 + 2)) z) ∨ ((x < 0 ∨ (nm : Int) ≤ x ∨ y < 0 ∨ (np : Int) ≤ y) ∧ z = -1)) (fun u => [cO 10 h [.ref t, .ref im, .ref hh, .ref sr, .ref ct], cO 9 t [.ref tb, .ref tl, .ref tm, .ref tp, .ref td, .ref ts, .int (zI ag), .int (zI al), .int (zI an), .int (zI aw)], cO 5 tm [.int (zI (nm : Int)), .ref m2], cI M m2 192 F, cO 6 tp [.int (zI (np : Int)), .ref p2], cI M p2 4 ph, cO 3 hh [.ref e0, .ref e1, .ref e2], cI M e0 11 u.1, cI M e1 11 u.2.1, cI M e2 9 u.2.2]) := by
  refine kCI.of [(0, .ref h), (1, .int (zI x)), (2, .int (zI y))] (by decide) (Nat.le_of_ble_eq_true rfl) rfl (fun E gg hret => ?_)
  have r1_hxr := hxr.1
  have r2_hxr := hxr.2
  have r1_hyr := hyr.1
  have r2_hyr := hyr.2
  refine z_aload_n (pc := 0) 0 gg dX10_timeOf_0 rfl rfl ?_
  refine z_get (pc := 1) 0 gg fl_X10_10 dX10_timeOf_1 rfl rfl ?_
  refine z_get (pc := 4) 1 gg fl_X10_71 dX10_timeOf_4 rfl rfl ?_
  refine z_iload_n (pc := 7) 1 gg dX10_timeOf_7 rfl rfl ?_
  refine z_callVi (pc := 8) (wr := [cO 10 h [.ref t, .ref im, .ref hh, .ref sr, .ref ct], cO 9 t [.ref tb, .ref tl, .ref tm, .ref tp, .ref td, .ref ts, .int (zI ag), .int (zI al), .int (zI an), .int (zI aw)], cO 6 tp [.int (zI (np : Int)), .ref p2], cI M p2 4 ph, cO 3 hh [.ref e0, .ref e1, .ref e2], cI M e0 11 x0, cI M e1 11 x1, cI M e2 9 x2]) (As := [.int (zI x)]) (st := []) [2, 3] [0, 1, 4, 5, 6, 7, 8, 9] [0, 1, 8, 9, 2, 3, 4, 5, 6, 7] (fun u => [cO 10 h [.ref t, .ref im, .ref hh, .ref sr, .ref ct], cO 9 t [.ref tb, .ref tl, .ref tm, .ref tp, .ref td, .ref ts, .int (zI ag), .int (zI al), .int (zI an), .int (zI aw)], cO 5 tm [.int (zI (nm : Int)), .ref m2], cI M m2 192 F, cO 6 tp [.int (zI (np : Int)), .ref p2], cI M p2 4 ph, cO 3 hh [.ref e0, .ref e1, .ref e2], cI M e0 11 x0, cI M e1 11 x1, cI M e2 9 x2]) gg (c_M_has M tm m2 nm F x (by first | assumption | omega | exact ⟨by omega, by omega⟩) (by first | assumption | omega | exact ⟨by omega, by omega⟩)) yv_5_has ml_X10_139 dX10_timeOf_8 (by decide) (Nat.le_of_ble_eq_true rfl) (Nat.le_of_ble_eq_true rfl) (Nat.le_of_ble_eq_true rfl) rfl rfl rfl rfl (by decide) rfl (fun _ => rfl) rfl rfl rfl (fun z8 u8 hz8 => ?_)
  refine z_if_eq (pc := 11) 28 gg dX10_timeOf_11 (by decide) ⟨by omega, by omega⟩ (fun h11 => ?_) (fun h11 => ?_)
  · refine z_iconst (pc := 28) gg dX10_timeOf_28 ?_
    exact hret (-1) (x0, x1, x2) 29 _ _ _ (Nat.le_of_ble_eq_true rfl) (Nat.le_of_ble_eq_true rfl) dX10_timeOf_29 rfl (Or.inr ⟨by omega, rfl⟩)
  · refine z_aload_n (pc := 14) 0 gg dX10_timeOf_14 rfl rfl ?_
    refine z_get (pc := 15) 0 gg fl_X10_10 dX10_timeOf_15 rfl rfl ?_
    refine z_get (pc := 18) 1 gg fl_X10_126 dX10_timeOf_18 rfl rfl ?_
    refine z_iload_n (pc := 21) 2 gg dX10_timeOf_21 rfl rfl ?_
    refine z_callVi (pc := 22) (wr := [cO 10 h [.ref t, .ref im, .ref hh, .ref sr, .ref ct], cO 9 t [.ref tb, .ref tl, .ref tm, .ref tp, .ref td, .ref ts, .int (zI ag), .int (zI al), .int (zI an), .int (zI aw)], cO 5 tm [.int (zI (nm : Int)), .ref m2], cI M m2 192 F, cO 3 hh [.ref e0, .ref e1, .ref e2], cI M e0 11 x0, cI M e1 11 x1, cI M e2 9 x2]) (As := [.int (zI y)]) (st := []) [4, 5] [0, 1, 2, 3, 6, 7, 8, 9] [0, 1, 2, 3, 8, 9, 4, 5, 6, 7] (fun u => [cO 10 h [.ref t, .ref im, .ref hh, .ref sr, .ref ct], cO 9 t [.ref tb, .ref tl, .ref tm, .ref tp, .ref td, .ref ts, .int (zI ag), .int (zI al), .int (zI an), .int (zI aw)], cO 5 tm [.int (zI (nm : Int)), .ref m2], cI M m2 192 F, cO 6 tp [.int (zI (np : Int)), .ref p2], cI M p2 4 ph, cO 3 hh [.ref e0, .ref e1, .ref e2], cI M e0 11 x0, cI M e1 11 x1, cI M e2 9 x2]) gg (c_P_has M tp p2 np ph y (by first | assumption | omega | exact ⟨by omega, by omega⟩) (by first | assumption | omega | exact ⟨by omega, by omega⟩)) yv_6_has ml_X10_140 dX10_timeOf_22 (by decide) (Nat.le_of_ble_eq_true rfl) (Nat.le_of_ble_eq_true rfl) (Nat.le_of_ble_eq_true rfl) rfl rfl rfl rfl (by decide) rfl (fun _ => rfl) rfl rfl rfl (fun z22 u22 hz22 => ?_)
    refine z_if_ne (pc := 25) 30 gg dX10_timeOf_25 (by decide) ⟨by omega, by omega⟩ (fun h25 => ?_) (fun h25 => ?_)
    · have hd1 := hd x.toNat (by omega)
      have hp1 := hph y.toNat (by omega) (by omega)
      have hTb : 0 ≤ (100 * ph y.toNat) ∧ (100 * ph y.toNat) ≤ 25000 := by omega
      refine z_aload_n (pc := 30) 0 gg dX10_timeOf_30 rfl rfl ?_
      refine z_get (pc := 31) 0 gg fl_X10_10 dX10_timeOf_31 rfl rfl ?_
      refine z_get (pc := 34) 1 gg fl_X10_71 dX10_timeOf_34 rfl rfl ?_
      refine z_iload_n (pc := 37) 1 gg dX10_timeOf_37 rfl rfl ?_
      refine z_iconst (pc := 38) gg dX10_timeOf_38 ?_
      refine z_callVi (pc := 39) (wr := [cO 10 h [.ref t, .ref im, .ref hh, .ref sr, .ref ct], cO 9 t [.ref tb, .ref tl, .ref tm, .ref tp, .ref td, .ref ts, .int (zI ag), .int (zI al), .int (zI an), .int (zI aw)], cO 6 tp [.int (zI (np : Int)), .ref p2], cI M p2 4 ph, cO 3 hh [.ref e0, .ref e1, .ref e2], cI M e0 11 x0, cI M e1 11 x1, cI M e2 9 x2]) (As := [.int (zI x), .int (zI 2)]) (st := []) [2, 3] [0, 1, 4, 5, 6, 7, 8, 9] [0, 1, 8, 9, 2, 3, 4, 5, 6, 7] (fun u => [cO 10 h [.ref t, .ref im, .ref hh, .ref sr, .ref ct], cO 9 t [.ref tb, .ref tl, .ref tm, .ref tp, .ref td, .ref ts, .int (zI ag), .int (zI al), .int (zI an), .int (zI aw)], cO 5 tm [.int (zI (nm : Int)), .ref m2], cI M m2 192 F, cO 6 tp [.int (zI (np : Int)), .ref p2], cI M p2 4 ph, cO 3 hh [.ref e0, .ref e1, .ref e2], cI M e0 11 x0, cI M e1 11 x1, cI M e2 9 x2]) gg (c_M_getk M tm m2 nm F x 2 (by first | assumption | omega | exact ⟨by omega, by omega⟩) (by first | assumption | omega | exact ⟨by omega, by omega⟩) (by first | assumption | omega | exact ⟨by omega, by omega⟩)) yv_5_get ml_X10_119 dX10_timeOf_39 (by decide) (Nat.le_of_ble_eq_true rfl) (Nat.le_of_ble_eq_true rfl) (Nat.le_of_ble_eq_true rfl) rfl rfl rfl rfl (by decide) rfl (fun _ => rfl) rfl rfl rfl (fun z39 u39 hz39 => ?_)
      subst hz39
      refine z_istore_n (pc := 42) [(3, .int (zI (F (x.toNat * 8 + 2)))), (0, .ref h), (1, .int (zI x)), (2, .int (zI y))] gg dX10_timeOf_42 rfl (Nat.le_of_ble_eq_true rfl) rfl ?_
      refine z_aload_n (pc := 43) 1 gg dX10_timeOf_43 rfl rfl ?_
      refine z_get (pc := 44) 0 gg fl_X10_23 dX10_timeOf_44 rfl rfl ?_
      refine z_aload_n (pc := 47) 1 gg dX10_timeOf_47 rfl rfl ?_
      refine z_get (pc := 48) 0 gg fl_X10_10 dX10_timeOf_48 rfl rfl ?_
      refine z_get (pc := 51) 1 gg fl_X10_126 dX10_timeOf_51 rfl rfl ?_
      refine z_iload_n (pc := 54) 3 gg dX10_timeOf_54 rfl rfl ?_
      refine z_callVi (pc := 55) (wr := [cO 10 h [.ref t, .ref im, .ref hh, .ref sr, .ref ct], cO 9 t [.ref tb, .ref tl, .ref tm, .ref tp, .ref td, .ref ts, .int (zI ag), .int (zI al), .int (zI an), .int (zI aw)], cO 5 tm [.int (zI (nm : Int)), .ref m2], cI M m2 192 F, cO 3 hh [.ref e0, .ref e1, .ref e2], cI M e0 11 x0, cI M e1 11 x1, cI M e2 9 x2]) (As := [.int (zI y)]) (st := [.ref hh]) [4, 5] [0, 1, 2, 3, 6, 7, 8, 9] [0, 1, 2, 3, 8, 9, 4, 5, 6, 7] (fun u => [cO 10 h [.ref t, .ref im, .ref hh, .ref sr, .ref ct], cO 9 t [.ref tb, .ref tl, .ref tm, .ref tp, .ref td, .ref ts, .int (zI ag), .int (zI al), .int (zI an), .int (zI aw)], cO 5 tm [.int (zI (nm : Int)), .ref m2], cI M m2 192 F, cO 6 tp [.int (zI (np : Int)), .ref p2], cI M p2 4 ph, cO 3 hh [.ref e0, .ref e1, .ref e2], cI M e0 11 x0, cI M e1 11 x1, cI M e2 9 x2]) gg (c_P_heatOf M tp p2 np ph y (by first | assumption | omega | exact ⟨by omega, by omega⟩) (by first | assumption | omega | exact ⟨by omega, by omega⟩)) yv_6_heatOf ml_X10_141 dX10_timeOf_55 (by decide) (Nat.le_of_ble_eq_true rfl) (Nat.le_of_ble_eq_true rfl) (Nat.le_of_ble_eq_true rfl) rfl rfl rfl rfl (by decide) rfl (fun _ => rfl) rfl rfl rfl (fun z55 u55 hz55 => ?_)
      subst hz55
      refine z_callVv (pc := 58) (wr := [cO 10 h [.ref t, .ref im, .ref hh, .ref sr, .ref ct], cO 9 t [.ref tb, .ref tl, .ref tm, .ref tp, .ref td, .ref ts, .int (zI ag), .int (zI al), .int (zI an), .int (zI aw)], cO 5 tm [.int (zI (nm : Int)), .ref m2], cI M m2 192 F, cO 6 tp [.int (zI (np : Int)), .ref p2], cI M p2 4 ph]) (As := [.int (zI (ph y.toNat))]) (st := []) [6, 7, 8, 9] [0, 1, 2, 3, 4, 5] [0, 1, 2, 3, 4, 5, 6, 7, 8, 9] (fun u => [cO 10 h [.ref t, .ref im, .ref hh, .ref sr, .ref ct], cO 9 t [.ref tb, .ref tl, .ref tm, .ref tp, .ref td, .ref ts, .int (zI ag), .int (zI al), .int (zI an), .int (zI aw)], cO 5 tm [.int (zI (nm : Int)), .ref m2], cI M m2 192 F, cO 6 tp [.int (zI (np : Int)), .ref p2], cI M p2 4 ph, cO 3 hh [.ref e0, .ref e1, .ref e2], cI M e0 11 (hx (100 * (ph y.toNat)) (sH (100 * (ph y.toNat)) 0)), cI M e1 11 x1, cI M e2 9 (sC (100 * (ph y.toNat)) 0)]) gg (c_H_begin M hh e0 e1 e2 (ph y.toNat) x0 x1 x2 ) yv_3_begin ml_X10_144 dX10_timeOf_58 (by decide) (Nat.le_of_ble_eq_true rfl) (Nat.le_of_ble_eq_true rfl) (Nat.le_of_ble_eq_true rfl) rfl rfl rfl rfl (by decide) rfl (fun _ => rfl) rfl rfl rfl (fun u58 hz58 => ?_)
      refine z_iconst (pc := 61) gg dX10_timeOf_61 ?_
      refine z_istore (pc := 62) [(4, .int (zI 1)), (3, .int (zI (F (x.toNat * 8 + 2)))), (0, .ref h), (1, .int (zI x)), (2, .int (zI y))] gg dX10_timeOf_62 (Nat.le_of_ble_eq_true rfl) rfl ?_
      have loop64 : ∀ (k64 : Nat) (k : Int) (f1 f2 f3 : Nat → Int), (1 ≤ k ∧ k ≤ 401) → (f1 = sH (100 * ph y.toNat) (k.toNat - 1)) → (f2 = sC (100 * ph y.toNat) (k.toNat - 1)) → (∀ t, 1 ≤ t → t < k.toNat → ¬ opn (sH (100 * ph y.toNat) t) (sC (100 * ph y.toNat) t) an (F (x.toNat * 8 + 2))) → 401 - k.toNat < k64 → kV M E 5 0 0 [cO 10 h [.ref t, .ref im, .ref hh, .ref sr, .ref ct], cO 9 t [.ref tb, .ref tl, .ref tm, .ref tp, .ref td, .ref ts, .int (zI ag), .int (zI al), .int (zI an), .int (zI aw)], cO 5 tm [.int (zI (nm : Int)), .ref m2], cI M m2 192 F, cO 6 tp [.int (zI (np : Int)), .ref p2], cI M p2 4 ph, cO 3 hh [.ref e0, .ref e1, .ref e2], cI M e0 11 (hx (100 * ph y.toNat) f1), cI M e1 11 f3, cI M e2 9 f2] [(4, .int (zI k)), (3, .int (zI (F (x.toNat * 8 + 2)))), (0, .ref h), (1, .int (zI x)), (2, .int (zI y))] 64 [] := by
        intro k64
        induction k64 with
        | zero => intro k f1 f2 f3 hk k1 k2 k3 hm64; exact absurd hm64 (Nat.not_lt_zero _)
        | succ k64 ih64 =>
          intro k f1 f2 f3 hk k1 k2 k3 hm64
          refine z_iload (pc := 64) 0 gg dX10_timeOf_64 rfl ?_
          refine z_sipush (pc := 66) gg dX10_timeOf_66 (by decide +kernel) ?_
          refine z_icmp_gt (pc := 69) 106 gg dX10_timeOf_69 (by decide) ⟨by omega, by omega⟩ ⟨by omega, by omega⟩ (fun h69 => ?_) (fun h69 => ?_)
          · refine z_iconst (pc := 106) gg dX10_timeOf_106 ?_
            exact hret (-1) ((hx (100 * ph y.toNat) f1), f3, f2) 107 _ _ _ (Nat.le_of_ble_eq_true rfl) (Nat.le_of_ble_eq_true rfl) dX10_timeOf_107 rfl (Or.inl ⟨by omega, by omega, by omega, by omega, Or.inl ⟨rfl, fun t a b => k3 t a (by omega)⟩⟩)
          · refine z_aload_n (pc := 72) 2 gg dX10_timeOf_72 rfl rfl ?_
            refine z_get (pc := 73) 0 gg fl_X10_23 dX10_timeOf_73 rfl rfl ?_
            refine z_callVv (pc := 76) (wr := [cO 10 h [.ref t, .ref im, .ref hh, .ref sr, .ref ct], cO 9 t [.ref tb, .ref tl, .ref tm, .ref tp, .ref td, .ref ts, .int (zI ag), .int (zI al), .int (zI an), .int (zI aw)], cO 5 tm [.int (zI (nm : Int)), .ref m2], cI M m2 192 F, cO 6 tp [.int (zI (np : Int)), .ref p2], cI M p2 4 ph]) (As := []) (st := []) [6, 7, 8, 9] [0, 1, 2, 3, 4, 5] [0, 1, 2, 3, 4, 5, 6, 7, 8, 9] (fun u => [cO 10 h [.ref t, .ref im, .ref hh, .ref sr, .ref ct], cO 9 t [.ref tb, .ref tl, .ref tm, .ref tp, .ref td, .ref ts, .int (zI ag), .int (zI al), .int (zI an), .int (zI aw)], cO 5 tm [.int (zI (nm : Int)), .ref m2], cI M m2 192 F, cO 6 tp [.int (zI (np : Int)), .ref p2], cI M p2 4 ph, cO 3 hh [.ref e0, .ref e1, .ref e2], cI M e0 11 (hx (100 * ph y.toNat) (tkH (100 * ph y.toNat) f1)), cI M e1 11 (hx (100 * ph y.toNat) f1), cI M e2 9 (fun s => f2 s + tkC (tkH (100 * ph y.toNat) f1 s))]) gg (c_H_tick M hh e0 e1 e2 (100 * ph y.toNat) f1 f3 f2 (hx_b hTb (by rw [k1]; exact sH_b hTb _))) yv_3_tick ml_X10_148 dX10_timeOf_76 (by decide) (Nat.le_of_ble_eq_true rfl) (Nat.le_of_ble_eq_true rfl) (Nat.le_of_ble_eq_true rfl) rfl rfl rfl rfl (by decide) rfl (fun _ => rfl) rfl rfl rfl (fun u76 hz76 => ?_)
            have hx1 : tkH (100 * ph y.toNat) f1 = sH (100 * ph y.toNat) k.toNat := by rw [k1]; rw [show k.toNat = (k.toNat - 1) + 1 by omega]; rfl
            have hx2 : (fun s => f2 s + tkC (tkH (100 * ph y.toNat) f1 s)) = sC (100 * ph y.toNat) k.toNat := by rw [hx1, k2]; rw [show k.toNat = (k.toNat - 1) + 1 by omega]; rfl
            refine z_aload_n (pc := 79) 2 gg dX10_timeOf_79 rfl rfl ?_
            refine z_get (pc := 80) 0 gg fl_X10_23 dX10_timeOf_80 rfl rfl ?_
            refine z_aload_n (pc := 83) 2 gg dX10_timeOf_83 rfl rfl ?_
            refine z_get (pc := 84) 0 gg fl_X10_10 dX10_timeOf_84 rfl rfl ?_
            refine z_get (pc := 87) 1 gg fl_X10_224 dX10_timeOf_87 rfl rfl ?_
            refine z_iload_n (pc := 90) 1 gg dX10_timeOf_90 rfl rfl ?_
            refine z_callVi (pc := 91) (wr := [cO 10 h [.ref t, .ref im, .ref hh, .ref sr, .ref ct], cO 9 t [.ref tb, .ref tl, .ref tm, .ref tp, .ref td, .ref ts, .int (zI ag), .int (zI al), .int (zI an), .int (zI aw)], cO 5 tm [.int (zI (nm : Int)), .ref m2], cI M m2 192 F, cO 6 tp [.int (zI (np : Int)), .ref p2], cI M p2 4 ph]) (As := [.int (zI an), .int (zI (F (x.toNat * 8 + 2)))]) (st := []) [6, 7, 8, 9] [0, 1, 2, 3, 4, 5] [0, 1, 2, 3, 4, 5, 6, 7, 8, 9] (fun u => [cO 10 h [.ref t, .ref im, .ref hh, .ref sr, .ref ct], cO 9 t [.ref tb, .ref tl, .ref tm, .ref tp, .ref td, .ref ts, .int (zI ag), .int (zI al), .int (zI an), .int (zI aw)], cO 5 tm [.int (zI (nm : Int)), .ref m2], cI M m2 192 F, cO 6 tp [.int (zI (np : Int)), .ref p2], cI M p2 4 ph, cO 3 hh [.ref e0, .ref e1, .ref e2], cI M e0 11 (hx (100 * ph y.toNat) (tkH (100 * ph y.toNat) f1)), cI M e1 11 (hx (100 * ph y.toNat) f1), cI M e2 9 (fun s => f2 s + tkC (tkH (100 * ph y.toNat) f1 s))]) gg (c_H_mayOpen M hh e0 e1 e2 (100 * ph y.toNat) (tkH (100 * ph y.toNat) f1) (hx (100 * ph y.toNat) f1) (fun s => f2 s + tkC (tkH (100 * ph y.toNat) f1 s)) an (F (x.toNat * 8 + 2)) (by first | assumption | omega | exact ⟨by omega, by omega⟩) (by first | assumption | omega | exact ⟨by omega, by omega⟩) (by rw [hx1]; exact sH_b hTb _) (fun j hj => by have e9 : f2 j + tkC (tkH (100 * ph y.toNat) f1 j) = sC (100 * ph y.toNat) k.toNat j := congrFun hx2 j; have := sC_b hTb k.toNat j hj; omega)) yv_3_mayOpen ml_X10_227 dX10_timeOf_91 (by decide) (Nat.le_of_ble_eq_true rfl) (Nat.le_of_ble_eq_true rfl) (Nat.le_of_ble_eq_true rfl) rfl rfl rfl rfl (by decide) rfl (fun _ => rfl) rfl rfl rfl (fun z91 u91 hz91 => ?_)
            refine z_if_eq (pc := 94) 100 gg dX10_timeOf_94 (by decide) ⟨by omega, by omega⟩ (fun h94 => ?_) (fun h94 => ?_)
            · refine z_iinc (pc := 100) 0 [(4, .int (zI (k + 1))), (3, .int (zI (F (x.toNat * 8 + 2)))), (0, .ref h), (1, .int (zI x)), (2, .int (zI y))] gg dX10_timeOf_100 rfl (Nat.le_of_ble_eq_true rfl) rfl ?_
              refine z_goto (pc := 103) 64 gg dX10_timeOf_103 (by decide) ?_
              exact ih64 (k + 1) (tkH (100 * ph y.toNat) f1) (fun s => f2 s + tkC (tkH (100 * ph y.toNat) f1 s)) (hx (100 * ph y.toNat) f1) (by omega) (by rw [hx1]; congr 1; omega) (by rw [hx2]; congr 1; omega) (fun t a b => by
        by_cases e : t = k.toNat
        · rw [e, ← hx1, ← hx2]; rcases hz91 with q | q
          · omega
          · exact q.2
        · exact k3 t a (by omega)) (by omega)
            · refine z_iload (pc := 97) 0 gg dX10_timeOf_97 rfl ?_
              exact hret k ((hx (100 * ph y.toNat) (tkH (100 * ph y.toNat) f1)), (hx (100 * ph y.toNat) f1), (fun s => f2 s + tkC (tkH (100 * ph y.toNat) f1 s))) 99 _ _ _ (Nat.le_of_ble_eq_true rfl) (Nat.le_of_ble_eq_true rfl) dX10_timeOf_99 rfl (Or.inl ⟨by omega, by omega, by omega, by omega, Or.inr ⟨by omega, by omega, by rw [← hx1, ← hx2]; rcases hz91 with q | q; exact q.2; omega, k3⟩⟩)
      exact loop64 _ 1 (sH (100 * ph y.toNat) 0) (sC (100 * ph y.toNat) 0) x1 (by omega) rfl rfl (fun t a b => absurd b (by have : (1 : Int).toNat = 1 := rfl; omega)) (Nat.lt_succ_self _)
    · refine z_iconst (pc := 28) gg dX10_timeOf_28 ?_
      exact hret (-1) (x0, x1, x2) 29 _ _ _ (Nat.le_of_ble_eq_true rfl) (Nat.le_of_ble_eq_true rfl) dX10_timeOf_29 rfl (Or.inr ⟨by omega, rfl⟩)
set_option maxHeartbeats 4000000 in
set_option maxRecDepth 100000 in
theorem c_time (M : KM) (h t im hh sr ct tb tl tm tp td ts : Nat) (ag al an aw : Int) (m2 nm : Nat) (F : Nat → Int) (p2 np : Nat) (ph : Nat → Int) (e0 e1 e2 : Nat) (x0 x1 x2 : Nat → Int) (x y : Int) (hm : nm ≤ 24) (hp : np ≤ 4) (hph : ∀ j, j < 4 → j < np → 100 ≤ ph j ∧ ph j ≤ 250) (hd : ∀ j, j < nm → 0 ≤ F (j * 8 + 2) ∧ F (j * 8 + 2) ≤ 20) (han : 1 ≤ an ∧ an ≤ 5000) (hxr : zR x) (hyr : zR y) : kCI M yX10_time cX10_time 3 .int 3 0 0 [cO 10 h [.ref t, .ref im, .ref hh, .ref sr, .ref ct], cO 9 t [.ref tb, .ref tl, .ref tm, .ref tp, .ref td, .ref ts, .int (zI ag), .int (zI al), .int (zI an), .int (zI aw)], cO 5 tm [.int (zI (nm : Int)), .ref m2], cI M m2 192 F, cO 6 tp [.int (zI (np : Int)), .ref p2], cI M p2 4 ph, cO 3 hh [.ref e0, .ref e1, .ref e2], cI M e0 11 x0, cI M e1 11 x1, cI M e2 9 x2] [.ref h, .int (zI x), .int (zI y)] (fun z (u : (Nat → Int) × (Nat → Int) × (Nat → Int)) => (0 ≤ x ∧ x < nm ∧ 0 ≤ y ∧ y < np ∧ isT (100 * ph y.toNat) an (F (x.toNat * 8 + 2)) z) ∨ ((x < 0 ∨ (nm : Int) ≤ x ∨ y < 0 ∨ (np : Int) ≤ y) ∧ z = -1)) (fun u => [cO 10 h [.ref t, .ref im, .ref hh, .ref sr, .ref ct], cO 9 t [.ref tb, .ref tl, .ref tm, .ref tp, .ref td, .ref ts, .int (zI ag), .int (zI al), .int (zI an), .int (zI aw)], cO 5 tm [.int (zI (nm : Int)), .ref m2], cI M m2 192 F, cO 6 tp [.int (zI (np : Int)), .ref p2], cI M p2 4 ph, cO 3 hh [.ref e0, .ref e1, .ref e2], cI M e0 11 u.1, cI M e1 11 u.2.1, cI M e2 9 u.2.2]) := by
  refine kCI.of [(0, .ref h), (1, .int (zI x)), (2, .int (zI y))] (by decide) (Nat.le_of_ble_eq_true rfl) rfl (fun E gg hret => ?_)
  refine z_aload_n (pc := 0) 0 gg dX10_time_0 rfl rfl ?_
  refine z_iload_n (pc := 1) 1 gg dX10_time_1 rfl rfl ?_
  refine z_iload_n (pc := 2) 2 gg dX10_time_2 rfl rfl ?_
  refine z_callWi (pc := 3) (As := [.int (zI x), .int (zI y)]) (st := []) gg (c_timeOf M h t im hh sr ct tb tl tm tp td ts ag al an aw m2 nm F p2 np ph e0 e1 e2 x0 x1 x2 x y hm hp hph hd han (by first | assumption | omega | exact ⟨by omega, by omega⟩) (by first | assumption | omega | exact ⟨by omega, by omega⟩)) yv_10_timeOf ml_X10_133 dX10_time_3 (by decide) (Nat.le_of_ble_eq_true rfl) (Nat.le_of_ble_eq_true rfl) (Nat.le_of_ble_eq_true rfl) rfl rfl rfl (fun z3 u3 hz3 => ?_)
  exact hret z3 u3 6 _ _ _ (Nat.le_of_ble_eq_true rfl) (Nat.le_of_ble_eq_true rfl) dX10_time_6 rfl hz3
set_option maxHeartbeats 4000000 in
set_option maxRecDepth 100000 in
theorem c_fastest (M : KM) (h t im hh sr ct tb tl tm tp td ts : Nat) (ag al an aw : Int) (m2 nm : Nat) (F : Nat → Int) (p2 np : Nat) (ph : Nat → Int) (e0 e1 e2 : Nat) (x0 x1 x2 : Nat → Int) (x : Int) (hm : nm ≤ 24) (hp : np ≤ 4) (hph : ∀ j, j < 4 → j < np → 100 ≤ ph j ∧ ph j ≤ 250) (hd : ∀ j, j < nm → 0 ≤ F (j * 8 + 2) ∧ F (j * 8 + 2) ≤ 20) (han : 1 ≤ an ∧ an ≤ 5000) (hxr : zR x) : kCI M yX10_fastest cX10_fastest 6 .int 3 0 0 [cO 10 h [.ref t, .ref im, .ref hh, .ref sr, .ref ct], cO 9 t [.ref tb, .ref tl, .ref tm, .ref tp, .ref td, .ref ts, .int (zI ag), .int (zI al), .int (zI an), .int (zI aw)], cO 5 tm [.int (zI (nm : Int)), .ref m2], cI M m2 192 F, cO 6 tp [.int (zI (np : Int)), .ref p2], cI M p2 4 ph, cO 3 hh [.ref e0, .ref e1, .ref e2], cI M e0 11 x0, cI M e1 11 x1, cI M e2 9 x2] [.ref h, .int (zI x)] (fun z (u : (Nat → Int) × (Nat → Int) × (Nat → Int)) => (0 ≤ x ∧ x < nm ∧ ∃ tf : Nat → Int, (∀ p, p < np → isT (100 * ph p) an (F (x.toNat * 8 + 2)) (tf p)) ∧ z = (faS tf np).1) ∨ ((x < 0 ∨ (nm : Int) ≤ x) ∧ z = -1)) (fun u => [cO 10 h [.ref t, .ref im, .ref hh, .ref sr, .ref ct], cO 9 t [.ref tb, .ref tl, .ref tm, .ref tp, .ref td, .ref ts, .int (zI ag), .int (zI al), .int (zI an), .int (zI aw)], cO 5 tm [.int (zI (nm : Int)), .ref m2], cI M m2 192 F, cO 6 tp [.int (zI (np : Int)), .ref p2], cI M p2 4 ph, cO 3 hh [.ref e0, .ref e1, .ref e2], cI M e0 11 u.1, cI M e1 11 u.2.1, cI M e2 9 u.2.2]) := by
  refine kCI.of [(0, .ref h), (1, .int (zI x))] (by decide) (Nat.le_of_ble_eq_true rfl) rfl (fun E gg hret => ?_)
  have r1_hxr := hxr.1
  have r2_hxr := hxr.2
  refine z_iconst (pc := 0) gg dX10_fastest_0 ?_
  refine z_istore_n (pc := 1) [(2, .int (zI (-1))), (0, .ref h), (1, .int (zI x))] gg dX10_fastest_1 rfl (Nat.le_of_ble_eq_true rfl) rfl ?_
  refine z_sipush (pc := 2) gg dX10_fastest_2 (by decide +kernel) ?_
  refine z_istore_n (pc := 5) [(3, .int (zI 401)), (2, .int (zI (-1))), (0, .ref h), (1, .int (zI x))] gg dX10_fastest_5 rfl (Nat.le_of_ble_eq_true rfl) rfl ?_
  refine z_iconst (pc := 6) gg dX10_fastest_6 ?_
  refine z_istore (pc := 7) [(4, .int (zI 0)), (3, .int (zI 401)), (2, .int (zI (-1))), (0, .ref h), (1, .int (zI x))] gg dX10_fastest_7 (Nat.le_of_ble_eq_true rfl) rfl ?_
  have loop9 : ∀ (k9 : Nat) (i b l : Int) (f1 f2 f3 tf : Nat → Int), (0 ≤ i ∧ i ≤ 4) → (b = (faS tf i.toNat).1) → (l = (faS tf i.toNat).2) → (∀ p, p < i.toNat → (0 ≤ x ∧ x < nm ∧ p < np ∧ isT (100 * ph p) an (F (x.toNat * 8 + 2)) (tf p)) ∨ ((x < 0 ∨ (nm : Int) ≤ x ∨ np ≤ p) ∧ tf p = -1)) → 4 - i.toNat < k9 → kV M E 6 0 0 [cO 10 h [.ref t, .ref im, .ref hh, .ref sr, .ref ct], cO 9 t [.ref tb, .ref tl, .ref tm, .ref tp, .ref td, .ref ts, .int (zI ag), .int (zI al), .int (zI an), .int (zI aw)], cO 5 tm [.int (zI (nm : Int)), .ref m2], cI M m2 192 F, cO 6 tp [.int (zI (np : Int)), .ref p2], cI M p2 4 ph, cO 3 hh [.ref e0, .ref e1, .ref e2], cI M e0 11 f1, cI M e1 11 f2, cI M e2 9 f3] [(4, .int (zI i)), (3, .int (zI l)), (2, .int (zI b)), (0, .ref h), (1, .int (zI x))] 9 [] := by
    intro k9
    induction k9 with
    | zero => intro i b l f1 f2 f3 tf hi hb hl ht hm9; exact absurd hm9 (Nat.not_lt_zero _)
    | succ k9 ih9 =>
      intro i b l f1 f2 f3 tf hi hb hl ht hm9
      have hfb := faS_b (f := tf) (n := i.toNat) (fun p hp => by
        rcases ht p hp with ⟨_, _, _, q⟩ | ⟨_, q⟩
        · exact isT_b q
        · exact Or.inl q)
      rw [← hb, ← hl] at hfb
      refine z_iload (pc := 9) 0 gg dX10_fastest_9 rfl ?_
      refine z_iconst (pc := 11) gg dX10_fastest_11 ?_
      refine z_icmp_ge (pc := 12) 48 gg dX10_fastest_12 (by decide) ⟨by omega, by omega⟩ ⟨by omega, by omega⟩ (fun h12 => ?_) (fun h12 => ?_)
      · refine z_iload_n (pc := 48) 2 gg dX10_fastest_48 rfl rfl ?_
        exact hret b (f1, f2, f3) 49 _ _ _ (Nat.le_of_ble_eq_true rfl) (Nat.le_of_ble_eq_true rfl) dX10_fastest_49 rfl (by
      rw [show i.toNat = 4 by omega] at hb ht
      by_cases c : 0 ≤ x ∧ x < nm
      · refine Or.inl ⟨c.1, c.2, tf, fun p hp => ?_, ?_⟩
        · rcases ht p (by omega) with ⟨_, _, _, q⟩ | ⟨q, _⟩
          · exact q
          · omega
        · rw [hb, faS_no (n := np) (m := 4) hp (fun p a b2 => by
            rcases ht p b2 with ⟨_, _, q, _⟩ | ⟨_, q⟩
            · omega
            · exact q)]
      · refine Or.inr ⟨by omega, ?_⟩
        rw [hb, faS_no (n := 0) (m := 4) (by omega) (fun p a b2 => by
            rcases ht p b2 with ⟨_, _, _, _⟩ | ⟨_, q⟩
            · omega
            · exact q)]
        rfl)
      · refine z_aload_n (pc := 15) 3 gg dX10_fastest_15 rfl rfl ?_
        refine z_iload_n (pc := 16) 4 gg dX10_fastest_16 rfl rfl ?_
        refine z_iload (pc := 17) 0 gg dX10_fastest_17 rfl ?_
        refine z_callWi (pc := 19) (As := [.int (zI x), .int (zI i)]) (st := []) gg (c_timeOf M h t im hh sr ct tb tl tm tp td ts ag al an aw m2 nm F p2 np ph e0 e1 e2 f1 f2 f3 x i hm hp hph hd han (by first | assumption | omega | exact ⟨by omega, by omega⟩) (by first | assumption | omega | exact ⟨by omega, by omega⟩)) yv_10_timeOf ml_X10_133 dX10_fastest_19 (by decide) (Nat.le_of_ble_eq_true rfl) (Nat.le_of_ble_eq_true rfl) (Nat.le_of_ble_eq_true rfl) rfl rfl rfl (fun z19 u19 hz19 => ?_)
        have hz9 : z19 = -1 ∨ (1 ≤ z19 ∧ z19 ≤ 400) := by
          rcases hz19 with ⟨_, _, _, _, q⟩ | ⟨_, q⟩
          · exact isT_b q
          · exact Or.inl q
        refine z_istore (pc := 22) [(5, .int (zI z19)), (4, .int (zI i)), (3, .int (zI l)), (2, .int (zI b)), (0, .ref h), (1, .int (zI x))] gg dX10_fastest_22 (Nat.le_of_ble_eq_true rfl) rfl ?_
        refine z_iload (pc := 24) 0 gg dX10_fastest_24 rfl ?_
        refine z_iconst (pc := 26) gg dX10_fastest_26 ?_
        refine z_icmp_eq (pc := 27) 42 gg dX10_fastest_27 (by decide) ⟨by omega, by omega⟩ ⟨by omega, by omega⟩ (fun h27 => ?_) (fun h27 => ?_)
        · refine z_iinc (pc := 42) 1 [(4, .int (zI (i + 1))), (5, .int (zI z19)), (3, .int (zI l)), (2, .int (zI b)), (0, .ref h), (1, .int (zI x))] gg dX10_fastest_42 rfl (Nat.le_of_ble_eq_true rfl) rfl ?_
          refine z_goto (pc := 45) 9 gg dX10_fastest_45 (by decide) ?_
          refine z_lv [(4, .int (zI (i + 1))), (3, .int (zI l)), (2, .int (zI b)), (0, .ref h), (1, .int (zI x))] [0, 2, 3, 4, 5] rfl ?_
          have hcg : faS (zU tf i.toNat z19) i.toNat = faS tf i.toNat := faS_cong (fun p hp => by rw [zU_n _ _ (by omega)])
          have hst : faS (zU tf i.toNat z19) (i + 1).toNat = if z19 = -1 ∨ l ≤ z19 then faS tf i.toNat else (i, z19) := by
            rw [show (i + 1).toNat = i.toNat + 1 by omega]
            show (if zU tf i.toNat z19 i.toNat = -1 ∨ (faS (zU tf i.toNat z19) i.toNat).2 ≤ zU tf i.toNat z19 i.toNat then _ else (((i.toNat : Nat) : Int), zU tf i.toNat z19 i.toNat)) = _
            rw [zU_s, hcg, ← hl, show ((i.toNat : Nat) : Int) = i by omega]
          exact ih9 (i + 1) b l u19.1 u19.2.1 u19.2.2 (zU tf i.toNat z19) (by omega) (by rw [hst, if_pos (by omega)]; exact hb) (by rw [hst, if_pos (by omega)]; exact hl) (fun p hp => by
          by_cases e : p = i.toNat
          · rw [e, zU_s]
            rcases hz19 with ⟨q1, q2, q3, q4, q5⟩ | ⟨q1, q2⟩
            · exact Or.inl ⟨q1, q2, by omega, q5⟩
            · exact Or.inr ⟨by omega, q2⟩
          · rw [zU_n _ _ e]; exact ht p (by omega)) (by omega)
        · refine z_iload (pc := 30) 0 gg dX10_fastest_30 rfl ?_
          refine z_iload_n (pc := 32) 2 gg dX10_fastest_32 rfl rfl ?_
          refine z_icmp_ge (pc := 33) 42 gg dX10_fastest_33 (by decide) ⟨by omega, by omega⟩ ⟨by omega, by omega⟩ (fun h33 => ?_) (fun h33 => ?_)
          · refine z_iinc (pc := 42) 1 [(4, .int (zI (i + 1))), (5, .int (zI z19)), (3, .int (zI l)), (2, .int (zI b)), (0, .ref h), (1, .int (zI x))] gg dX10_fastest_42 rfl (Nat.le_of_ble_eq_true rfl) rfl ?_
            refine z_goto (pc := 45) 9 gg dX10_fastest_45 (by decide) ?_
            refine z_lv [(4, .int (zI (i + 1))), (3, .int (zI l)), (2, .int (zI b)), (0, .ref h), (1, .int (zI x))] [0, 2, 3, 4, 5] rfl ?_
            have hcg : faS (zU tf i.toNat z19) i.toNat = faS tf i.toNat := faS_cong (fun p hp => by rw [zU_n _ _ (by omega)])
            have hst : faS (zU tf i.toNat z19) (i + 1).toNat = if z19 = -1 ∨ l ≤ z19 then faS tf i.toNat else (i, z19) := by
              rw [show (i + 1).toNat = i.toNat + 1 by omega]
              show (if zU tf i.toNat z19 i.toNat = -1 ∨ (faS (zU tf i.toNat z19) i.toNat).2 ≤ zU tf i.toNat z19 i.toNat then _ else (((i.toNat : Nat) : Int), zU tf i.toNat z19 i.toNat)) = _
              rw [zU_s, hcg, ← hl, show ((i.toNat : Nat) : Int) = i by omega]
            exact ih9 (i + 1) b l u19.1 u19.2.1 u19.2.2 (zU tf i.toNat z19) (by omega) (by rw [hst, if_pos (by omega)]; exact hb) (by rw [hst, if_pos (by omega)]; exact hl) (fun p hp => by
          by_cases e : p = i.toNat
          · rw [e, zU_s]
            rcases hz19 with ⟨q1, q2, q3, q4, q5⟩ | ⟨q1, q2⟩
            · exact Or.inl ⟨q1, q2, by omega, q5⟩
            · exact Or.inr ⟨by omega, q2⟩
          · rw [zU_n _ _ e]; exact ht p (by omega)) (by omega)
          · refine z_iload (pc := 36) 1 gg dX10_fastest_36 rfl ?_
            refine z_istore_n (pc := 38) [(2, .int (zI i)), (5, .int (zI z19)), (4, .int (zI i)), (3, .int (zI l)), (0, .ref h), (1, .int (zI x))] gg dX10_fastest_38 rfl (Nat.le_of_ble_eq_true rfl) rfl ?_
            refine z_iload (pc := 39) 1 gg dX10_fastest_39 rfl ?_
            refine z_istore_n (pc := 41) [(3, .int (zI z19)), (2, .int (zI i)), (5, .int (zI z19)), (4, .int (zI i)), (0, .ref h), (1, .int (zI x))] gg dX10_fastest_41 rfl (Nat.le_of_ble_eq_true rfl) rfl ?_
            refine z_iinc (pc := 42) 3 [(4, .int (zI (i + 1))), (3, .int (zI z19)), (2, .int (zI i)), (5, .int (zI z19)), (0, .ref h), (1, .int (zI x))] gg dX10_fastest_42 rfl (Nat.le_of_ble_eq_true rfl) rfl ?_
            refine z_goto (pc := 45) 9 gg dX10_fastest_45 (by decide) ?_
            refine z_lv [(4, .int (zI (i + 1))), (3, .int (zI z19)), (2, .int (zI i)), (0, .ref h), (1, .int (zI x))] [0, 1, 2, 4, 5] rfl ?_
            have hcg : faS (zU tf i.toNat z19) i.toNat = faS tf i.toNat := faS_cong (fun p hp => by rw [zU_n _ _ (by omega)])
            have hst : faS (zU tf i.toNat z19) (i + 1).toNat = if z19 = -1 ∨ l ≤ z19 then faS tf i.toNat else (i, z19) := by
              rw [show (i + 1).toNat = i.toNat + 1 by omega]
              show (if zU tf i.toNat z19 i.toNat = -1 ∨ (faS (zU tf i.toNat z19) i.toNat).2 ≤ zU tf i.toNat z19 i.toNat then _ else (((i.toNat : Nat) : Int), zU tf i.toNat z19 i.toNat)) = _
              rw [zU_s, hcg, ← hl, show ((i.toNat : Nat) : Int) = i by omega]
            exact ih9 (i + 1) i z19 u19.1 u19.2.1 u19.2.2 (zU tf i.toNat z19) (by omega) (by rw [hst, if_neg (by omega)]) (by rw [hst, if_neg (by omega)]) (fun p hp => by
          by_cases e : p = i.toNat
          · rw [e, zU_s]
            rcases hz19 with ⟨q1, q2, q3, q4, q5⟩ | ⟨q1, q2⟩
            · exact Or.inl ⟨q1, q2, by omega, q5⟩
            · exact Or.inr ⟨by omega, q2⟩
          · rw [zU_n _ _ e]; exact ht p (by omega)) (by omega)
  exact loop9 _ 0 (-1) 401 x0 x1 x2 (fun _ => 0) (by omega) rfl rfl (fun p hp => absurd hp (by omega)) (Nat.lt_succ_self _)
set_option maxHeartbeats 4000000 in
set_option maxRecDepth 100000 in
theorem c_press (M : KM) (h t im hh sr ct tb tl tm tp td ts : Nat) (ag al an aw : Int) (m2 nm : Nat) (F : Nat → Int) (p2 np : Nat) (ph : Nat → Int) (e0 e1 e2 : Nat) (x0 x1 x2 : Nat → Int) (x y : Int) (hm : nm ≤ 24) (hp : np ≤ 4) (hph : ∀ j, j < 4 → j < np → 100 ≤ ph j ∧ ph j ≤ 250) (hd : ∀ j, j < nm → 0 ≤ F (j * 8 + 2) ∧ F (j * 8 + 2) ≤ 20) (han : 1 ≤ an ∧ an ≤ 5000) (hxr : zR x) (hyr : zR y) (hF : ∀ j, j < 192 → zR (F j)) : kCI M yX10_press cX10_press 4 .boolean 3 0 0 [cO 10 h [.ref t, .ref im, .ref hh, .ref sr, .ref ct], cO 9 t [.ref tb, .ref tl, .ref tm, .ref tp, .ref td, .ref ts, .int (zI ag), .int (zI al), .int (zI an), .int (zI aw)], cO 5 tm [.int (zI (nm : Int)), .ref m2], cI M m2 192 F, cO 6 tp [.int (zI (np : Int)), .ref p2], cI M p2 4 ph, cO 3 hh [.ref e0, .ref e1, .ref e2], cI M e0 11 x0, cI M e1 11 x1, cI M e2 9 x2] [.ref h, .int (zI x), .int (zI y)] (fun z (u : (Nat → Int) × (Nat → Int) × (Nat → Int) × (Nat → Int)) => (∃ tt, 0 ≤ x ∧ x < nm ∧ 0 ≤ y ∧ y < np ∧ isT (100 * ph y.toNat) an (F (x.toNat * 8 + 2)) tt ∧ ((tt ≠ -1 ∧ F (x.toNat * 8 + 7) = -1 ∧ z = 1 ∧ u.1 = zU F (x.toNat * 8 + 7) tt) ∨ ((tt = -1 ∨ F (x.toNat * 8 + 7) ≠ -1) ∧ z = 0 ∧ u.1 = F))) ∨ ((x < 0 ∨ (nm : Int) ≤ x ∨ y < 0 ∨ (np : Int) ≤ y) ∧ z = 0 ∧ u.1 = F)) (fun u => [cO 10 h [.ref t, .ref im, .ref hh, .ref sr, .ref ct], cO 9 t [.ref tb, .ref tl, .ref tm, .ref tp, .ref td, .ref ts, .int (zI ag), .int (zI al), .int (zI an), .int (zI aw)], cO 5 tm [.int (zI (nm : Int)), .ref m2], cI M m2 192 u.1, cO 6 tp [.int (zI (np : Int)), .ref p2], cI M p2 4 ph, cO 3 hh [.ref e0, .ref e1, .ref e2], cI M e0 11 u.2.1, cI M e1 11 u.2.2.1, cI M e2 9 u.2.2.2]) := by
  refine kCI.of [(0, .ref h), (1, .int (zI x)), (2, .int (zI y))] (by decide) (Nat.le_of_ble_eq_true rfl) rfl (fun E gg hret => ?_)
  refine z_aload_n (pc := 0) 0 gg dX10_press_0 rfl rfl ?_
  refine z_iload_n (pc := 1) 1 gg dX10_press_1 rfl rfl ?_
  refine z_iload_n (pc := 2) 2 gg dX10_press_2 rfl rfl ?_
  refine z_callWi (pc := 3) (As := [.int (zI x), .int (zI y)]) (st := []) gg (c_timeOf M h t im hh sr ct tb tl tm tp td ts ag al an aw m2 nm F p2 np ph e0 e1 e2 x0 x1 x2 x y hm hp hph hd han (by first | assumption | omega | exact ⟨by omega, by omega⟩) (by first | assumption | omega | exact ⟨by omega, by omega⟩)) yv_10_timeOf ml_X10_133 dX10_press_3 (by decide) (Nat.le_of_ble_eq_true rfl) (Nat.le_of_ble_eq_true rfl) (Nat.le_of_ble_eq_true rfl) rfl rfl rfl (fun z3 u3 hz3 => ?_)
  have hz9 : z3 = -1 ∨ (1 ≤ z3 ∧ z3 ≤ 400) := by
    rcases hz3 with ⟨_, _, _, _, q⟩ | ⟨_, q⟩
    · exact isT_b q
    · exact Or.inl q
  refine z_istore_n (pc := 6) [(3, .int (zI z3)), (0, .ref h), (1, .int (zI x)), (2, .int (zI y))] gg dX10_press_6 rfl (Nat.le_of_ble_eq_true rfl) rfl ?_
  refine z_iload_n (pc := 7) 0 gg dX10_press_7 rfl rfl ?_
  refine z_iconst (pc := 8) gg dX10_press_8 ?_
  refine z_icmp_eq (pc := 9) 26 gg dX10_press_9 (by decide) ⟨by omega, by omega⟩ ⟨by omega, by omega⟩ (fun h9 => ?_) (fun h9 => ?_)
  · refine z_iconst (pc := 26) gg dX10_press_26 ?_
    exact hret 0 (F, u3) 27 _ _ _ (Nat.le_of_ble_eq_true rfl) (Nat.le_of_ble_eq_true rfl) dX10_press_27 (zB01 (by omega)) (by
    rcases hz3 with ⟨q1, q2, q3, q4, q5⟩ | ⟨q1, q2⟩
    · exact Or.inl ⟨z3, q1, q2, q3, q4, q5, Or.inr ⟨by omega, rfl, rfl⟩⟩
    · exact Or.inr ⟨q1, rfl, rfl⟩)
  · have hxv : 0 ≤ x ∧ x < nm := by
      rcases hz3 with ⟨_, _, _, _, q⟩ | ⟨_, q⟩
      · omega
      · omega
    refine z_aload_n (pc := 12) 1 gg dX10_press_12 rfl rfl ?_
    refine z_get (pc := 13) 0 gg fl_X10_10 dX10_press_13 rfl rfl ?_
    refine z_get (pc := 16) 1 gg fl_X10_71 dX10_press_16 rfl rfl ?_
    refine z_iload_n (pc := 19) 2 gg dX10_press_19 rfl rfl ?_
    refine z_callVi (pc := 20) (wr := [cO 10 h [.ref t, .ref im, .ref hh, .ref sr, .ref ct], cO 9 t [.ref tb, .ref tl, .ref tm, .ref tp, .ref td, .ref ts, .int (zI ag), .int (zI al), .int (zI an), .int (zI aw)], cO 6 tp [.int (zI (np : Int)), .ref p2], cI M p2 4 ph, cO 3 hh [.ref e0, .ref e1, .ref e2], cI M e0 11 u3.1, cI M e1 11 u3.2.1, cI M e2 9 u3.2.2]) (As := [.int (zI x)]) (st := []) [2, 3] [0, 1, 4, 5, 6, 7, 8, 9] [0, 1, 8, 9, 2, 3, 4, 5, 6, 7] (fun u => [cO 10 h [.ref t, .ref im, .ref hh, .ref sr, .ref ct], cO 9 t [.ref tb, .ref tl, .ref tm, .ref tp, .ref td, .ref ts, .int (zI ag), .int (zI al), .int (zI an), .int (zI aw)], cO 5 tm [.int (zI (nm : Int)), .ref m2], cI M m2 192 F, cO 6 tp [.int (zI (np : Int)), .ref p2], cI M p2 4 ph, cO 3 hh [.ref e0, .ref e1, .ref e2], cI M e0 11 u3.1, cI M e1 11 u3.2.1, cI M e2 9 u3.2.2]) gg (c_M_isPressed M tm m2 nm F x (by first | assumption | omega | exact ⟨by omega, by omega⟩) (by first | assumption | omega | exact ⟨by omega, by omega⟩) hF) yv_5_isPressed ml_X10_136 dX10_press_20 (by decide) (Nat.le_of_ble_eq_true rfl) (Nat.le_of_ble_eq_true rfl) (Nat.le_of_ble_eq_true rfl) rfl rfl rfl rfl (by decide) rfl (fun _ => rfl) rfl rfl rfl (fun z20 u20 hz20 => ?_)
    refine z_if_eq (pc := 23) 28 gg dX10_press_23 (by decide) ⟨by omega, by omega⟩ (fun h23 => ?_) (fun h23 => ?_)
    · refine z_aload_n (pc := 28) 1 gg dX10_press_28 rfl rfl ?_
      refine z_get (pc := 29) 0 gg fl_X10_10 dX10_press_29 rfl rfl ?_
      refine z_get (pc := 32) 1 gg fl_X10_71 dX10_press_32 rfl rfl ?_
      refine z_iload_n (pc := 35) 2 gg dX10_press_35 rfl rfl ?_
      refine z_bipush (pc := 36) gg dX10_press_36 (by decide +kernel) ?_
      refine z_iload_n (pc := 38) 0 gg dX10_press_38 rfl rfl ?_
      refine z_callVv (pc := 39) (wr := [cO 10 h [.ref t, .ref im, .ref hh, .ref sr, .ref ct], cO 9 t [.ref tb, .ref tl, .ref tm, .ref tp, .ref td, .ref ts, .int (zI ag), .int (zI al), .int (zI an), .int (zI aw)], cO 6 tp [.int (zI (np : Int)), .ref p2], cI M p2 4 ph, cO 3 hh [.ref e0, .ref e1, .ref e2], cI M e0 11 u3.1, cI M e1 11 u3.2.1, cI M e2 9 u3.2.2]) (As := [.int (zI x), .int (zI 7), .int (zI z3)]) (st := []) [2, 3] [0, 1, 4, 5, 6, 7, 8, 9] [0, 1, 8, 9, 2, 3, 4, 5, 6, 7] (fun u => [cO 10 h [.ref t, .ref im, .ref hh, .ref sr, .ref ct], cO 9 t [.ref tb, .ref tl, .ref tm, .ref tp, .ref td, .ref ts, .int (zI ag), .int (zI al), .int (zI an), .int (zI aw)], cO 5 tm [.int (zI (nm : Int)), .ref m2], cI M m2 192 (zU F (x.toNat * 8 + 7) z3), cO 6 tp [.int (zI (np : Int)), .ref p2], cI M p2 4 ph, cO 3 hh [.ref e0, .ref e1, .ref e2], cI M e0 11 u3.1, cI M e1 11 u3.2.1, cI M e2 9 u3.2.2]) gg (c_M_putk M tm m2 nm F x 7 z3 (by first | assumption | omega | exact ⟨by omega, by omega⟩) (by first | assumption | omega | exact ⟨by omega, by omega⟩) (by first | assumption | omega | exact ⟨by omega, by omega⟩)) yv_5_put ml_X10_112 dX10_press_39 (by decide) (Nat.le_of_ble_eq_true rfl) (Nat.le_of_ble_eq_true rfl) (Nat.le_of_ble_eq_true rfl) rfl rfl rfl rfl (by decide) rfl (fun _ => rfl) rfl rfl rfl (fun u39 hz39 => ?_)
      refine z_iconst (pc := 42) gg dX10_press_42 ?_
      exact hret 1 (zU F (x.toNat * 8 + 7) z3, u3) 43 _ _ _ (Nat.le_of_ble_eq_true rfl) (Nat.le_of_ble_eq_true rfl) dX10_press_43 (zB01 (by omega)) (by
    rcases hz3 with ⟨q1, q2, q3, q4, q5⟩ | ⟨q1, q2⟩
    · exact Or.inl ⟨z3, q1, q2, q3, q4, q5, Or.inl ⟨h9, by omega, rfl, rfl⟩⟩
    · exact absurd q2 h9)
    · refine z_iconst (pc := 26) gg dX10_press_26 ?_
      exact hret 0 (F, u3) 27 _ _ _ (Nat.le_of_ble_eq_true rfl) (Nat.le_of_ble_eq_true rfl) dX10_press_27 (zB01 (by omega)) (by
    rcases hz3 with ⟨q1, q2, q3, q4, q5⟩ | ⟨q1, q2⟩
    · exact Or.inl ⟨z3, q1, q2, q3, q4, q5, Or.inr ⟨by omega, rfl, rfl⟩⟩
    · exact Or.inr ⟨q1, rfl, rfl⟩)
set_option maxHeartbeats 4000000 in
set_option maxRecDepth 100000 in
theorem c_shell (M : KM) (h t im hh sr ct tb tl tm tp td ts : Nat) (ag al an aw : Int) (m2 nm : Nat) (F : Nat → Int) (p2 np : Nat) (ph : Nat → Int) (e0 e1 e2 : Nat) (x0 x1 x2 : Nat → Int) (x y k s w : Int) (hm : nm ≤ 24) (hp : np ≤ 4) (hph : ∀ j, j < 4 → j < np → 100 ≤ ph j ∧ ph j ≤ 250) (hd : ∀ j, j < nm → 0 ≤ F (j * 8 + 2) ∧ F (j * 8 + 2) ≤ 20) (han : 1 ≤ an ∧ an ≤ 5000) (hxr : zR x) (hyr : zR y) (hk : zR k) (hs : zR s) (hw : zR w) : kCI M yX10_shell cX10_shell 7 .int 2 0 0 [cO 10 h [.ref t, .ref im, .ref hh, .ref sr, .ref ct], cO 9 t [.ref tb, .ref tl, .ref tm, .ref tp, .ref td, .ref ts, .int (zI ag), .int (zI al), .int (zI an), .int (zI aw)], cO 5 tm [.int (zI (nm : Int)), .ref m2], cI M m2 192 F, cO 6 tp [.int (zI (np : Int)), .ref p2], cI M p2 4 ph, cO 3 hh [.ref e0, .ref e1, .ref e2], cI M e0 11 x0, cI M e1 11 x1, cI M e2 9 x2] [.ref h, .int (zI x), .int (zI y), .int (zI k), .int (zI s), .int (zI w)] (fun z (u : (Nat → Int) × (Nat → Int) × (Nat → Int)) => ((0 ≤ x ∧ x < nm ∧ 0 ≤ y ∧ y < np ∧ 0 ≤ k ∧ k ≤ 400 ∧ 0 ≤ s ∧ s < 9 ∧ 0 ≤ w ∧ w ≤ 2) ∧ z = if w = 0 then sH (100 * ph y.toNat) k.toNat s.toNat else if w = 1 then sC (100 * ph y.toNat) k.toNat s.toNat else stm (sH (100 * ph y.toNat) k.toNat s.toNat) (F (x.toNat * 8 + 2))) ∨ ((x < 0 ∨ (nm : Int) ≤ x ∨ y < 0 ∨ (np : Int) ≤ y ∨ k < 0 ∨ 400 < k ∨ s < 0 ∨ 9 ≤ s ∨ w < 0 ∨ 2 < w) ∧ z = -1)) (fun u => [cO 10 h [.ref t, .ref im, .ref hh, .ref sr, .ref ct], cO 9 t [.ref tb, .ref tl, .ref tm, .ref tp, .ref td, .ref ts, .int (zI ag), .int (zI al), .int (zI an), .int (zI aw)], cO 5 tm [.int (zI (nm : Int)), .ref m2], cI M m2 192 F, cO 6 tp [.int (zI (np : Int)), .ref p2], cI M p2 4 ph, cO 3 hh [.ref e0, .ref e1, .ref e2], cI M e0 11 u.1, cI M e1 11 u.2.1, cI M e2 9 u.2.2]) := by
  refine kCI.of [(0, .ref h), (1, .int (zI x)), (2, .int (zI y)), (3, .int (zI k)), (4, .int (zI s)), (5, .int (zI w))] (by decide) (Nat.le_of_ble_eq_true rfl) rfl (fun E gg hret => ?_)
  have r1_hxr := hxr.1
  have r2_hxr := hxr.2
  have r1_hyr := hyr.1
  have r2_hyr := hyr.2
  have r1_hk := hk.1
  have r2_hk := hk.2
  have r1_hs := hs.1
  have r2_hs := hs.2
  have r1_hw := hw.1
  have r2_hw := hw.2
  refine z_aload_n (pc := 0) 0 gg dX10_shell_0 rfl rfl ?_
  refine z_get (pc := 1) 0 gg fl_X10_10 dX10_shell_1 rfl rfl ?_
  refine z_get (pc := 4) 1 gg fl_X10_71 dX10_shell_4 rfl rfl ?_
  refine z_iload_n (pc := 7) 1 gg dX10_shell_7 rfl rfl ?_
  refine z_callVi (pc := 8) (wr := [cO 10 h [.ref t, .ref im, .ref hh, .ref sr, .ref ct], cO 9 t [.ref tb, .ref tl, .ref tm, .ref tp, .ref td, .ref ts, .int (zI ag), .int (zI al), .int (zI an), .int (zI aw)], cO 6 tp [.int (zI (np : Int)), .ref p2], cI M p2 4 ph, cO 3 hh [.ref e0, .ref e1, .ref e2], cI M e0 11 x0, cI M e1 11 x1, cI M e2 9 x2]) (As := [.int (zI x)]) (st := []) [2, 3] [0, 1, 4, 5, 6, 7, 8, 9] [0, 1, 8, 9, 2, 3, 4, 5, 6, 7] (fun u => [cO 10 h [.ref t, .ref im, .ref hh, .ref sr, .ref ct], cO 9 t [.ref tb, .ref tl, .ref tm, .ref tp, .ref td, .ref ts, .int (zI ag), .int (zI al), .int (zI an), .int (zI aw)], cO 5 tm [.int (zI (nm : Int)), .ref m2], cI M m2 192 F, cO 6 tp [.int (zI (np : Int)), .ref p2], cI M p2 4 ph, cO 3 hh [.ref e0, .ref e1, .ref e2], cI M e0 11 x0, cI M e1 11 x1, cI M e2 9 x2]) gg (c_M_has M tm m2 nm F x (by first | assumption | omega | exact ⟨by omega, by omega⟩) (by first | assumption | omega | exact ⟨by omega, by omega⟩)) yv_5_has ml_X10_139 dX10_shell_8 (by decide) (Nat.le_of_ble_eq_true rfl) (Nat.le_of_ble_eq_true rfl) (Nat.le_of_ble_eq_true rfl) rfl rfl rfl rfl (by decide) rfl (fun _ => rfl) rfl rfl rfl (fun z8 u8 hz8 => ?_)
  refine z_if_eq (pc := 11) 39 gg dX10_shell_11 (by decide) ⟨by omega, by omega⟩ (fun h11 => ?_) (fun h11 => ?_)
  · refine z_iconst (pc := 39) gg dX10_shell_39 ?_
    exact hret (-1) (x0, x1, x2) 40 _ _ _ (Nat.le_of_ble_eq_true rfl) (Nat.le_of_ble_eq_true rfl) dX10_shell_40 rfl (Or.inr ⟨by omega, rfl⟩)
  · refine z_aload_n (pc := 14) 0 gg dX10_shell_14 rfl rfl ?_
    refine z_get (pc := 15) 0 gg fl_X10_10 dX10_shell_15 rfl rfl ?_
    refine z_get (pc := 18) 1 gg fl_X10_126 dX10_shell_18 rfl rfl ?_
    refine z_iload_n (pc := 21) 2 gg dX10_shell_21 rfl rfl ?_
    refine z_callVi (pc := 22) (wr := [cO 10 h [.ref t, .ref im, .ref hh, .ref sr, .ref ct], cO 9 t [.ref tb, .ref tl, .ref tm, .ref tp, .ref td, .ref ts, .int (zI ag), .int (zI al), .int (zI an), .int (zI aw)], cO 5 tm [.int (zI (nm : Int)), .ref m2], cI M m2 192 F, cO 3 hh [.ref e0, .ref e1, .ref e2], cI M e0 11 x0, cI M e1 11 x1, cI M e2 9 x2]) (As := [.int (zI y)]) (st := []) [4, 5] [0, 1, 2, 3, 6, 7, 8, 9] [0, 1, 2, 3, 8, 9, 4, 5, 6, 7] (fun u => [cO 10 h [.ref t, .ref im, .ref hh, .ref sr, .ref ct], cO 9 t [.ref tb, .ref tl, .ref tm, .ref tp, .ref td, .ref ts, .int (zI ag), .int (zI al), .int (zI an), .int (zI aw)], cO 5 tm [.int (zI (nm : Int)), .ref m2], cI M m2 192 F, cO 6 tp [.int (zI (np : Int)), .ref p2], cI M p2 4 ph, cO 3 hh [.ref e0, .ref e1, .ref e2], cI M e0 11 x0, cI M e1 11 x1, cI M e2 9 x2]) gg (c_P_has M tp p2 np ph y (by first | assumption | omega | exact ⟨by omega, by omega⟩) (by first | assumption | omega | exact ⟨by omega, by omega⟩)) yv_6_has ml_X10_140 dX10_shell_22 (by decide) (Nat.le_of_ble_eq_true rfl) (Nat.le_of_ble_eq_true rfl) (Nat.le_of_ble_eq_true rfl) rfl rfl rfl rfl (by decide) rfl (fun _ => rfl) rfl rfl rfl (fun z22 u22 hz22 => ?_)
    refine z_if_eq (pc := 25) 39 gg dX10_shell_25 (by decide) ⟨by omega, by omega⟩ (fun h25 => ?_) (fun h25 => ?_)
    · refine z_iconst (pc := 39) gg dX10_shell_39 ?_
      exact hret (-1) (x0, x1, x2) 40 _ _ _ (Nat.le_of_ble_eq_true rfl) (Nat.le_of_ble_eq_true rfl) dX10_shell_40 rfl (Or.inr ⟨by omega, rfl⟩)
    · refine z_iload_n (pc := 28) 3 gg dX10_shell_28 rfl rfl ?_
      refine z_if_lt (pc := 29) 39 gg dX10_shell_29 (by decide) ⟨by omega, by omega⟩ (fun h29 => ?_) (fun h29 => ?_)
      · refine z_iconst (pc := 39) gg dX10_shell_39 ?_
        exact hret (-1) (x0, x1, x2) 40 _ _ _ (Nat.le_of_ble_eq_true rfl) (Nat.le_of_ble_eq_true rfl) dX10_shell_40 rfl (Or.inr ⟨by omega, rfl⟩)
      · refine z_iload_n (pc := 32) 3 gg dX10_shell_32 rfl rfl ?_
        refine z_sipush (pc := 33) gg dX10_shell_33 (by decide +kernel) ?_
        refine z_icmp_le (pc := 36) 41 gg dX10_shell_36 (by decide) ⟨by omega, by omega⟩ ⟨by omega, by omega⟩ (fun h36 => ?_) (fun h36 => ?_)
        · have hd1 := hd x.toNat (by omega)
          have hp1 := hph y.toNat (by omega) (by omega)
          have hTb : 0 ≤ (100 * ph y.toNat) ∧ (100 * ph y.toNat) ≤ 25000 := by omega
          refine z_aload_n (pc := 41) 0 gg dX10_shell_41 rfl rfl ?_
          refine z_get (pc := 42) 0 gg fl_X10_23 dX10_shell_42 rfl rfl ?_
          refine z_aload_n (pc := 45) 0 gg dX10_shell_45 rfl rfl ?_
          refine z_get (pc := 46) 0 gg fl_X10_10 dX10_shell_46 rfl rfl ?_
          refine z_get (pc := 49) 1 gg fl_X10_126 dX10_shell_49 rfl rfl ?_
          refine z_iload_n (pc := 52) 2 gg dX10_shell_52 rfl rfl ?_
          refine z_callVi (pc := 53) (wr := [cO 10 h [.ref t, .ref im, .ref hh, .ref sr, .ref ct], cO 9 t [.ref tb, .ref tl, .ref tm, .ref tp, .ref td, .ref ts, .int (zI ag), .int (zI al), .int (zI an), .int (zI aw)], cO 5 tm [.int (zI (nm : Int)), .ref m2], cI M m2 192 F, cO 3 hh [.ref e0, .ref e1, .ref e2], cI M e0 11 x0, cI M e1 11 x1, cI M e2 9 x2]) (As := [.int (zI y)]) (st := [.ref hh]) [4, 5] [0, 1, 2, 3, 6, 7, 8, 9] [0, 1, 2, 3, 8, 9, 4, 5, 6, 7] (fun u => [cO 10 h [.ref t, .ref im, .ref hh, .ref sr, .ref ct], cO 9 t [.ref tb, .ref tl, .ref tm, .ref tp, .ref td, .ref ts, .int (zI ag), .int (zI al), .int (zI an), .int (zI aw)], cO 5 tm [.int (zI (nm : Int)), .ref m2], cI M m2 192 F, cO 6 tp [.int (zI (np : Int)), .ref p2], cI M p2 4 ph, cO 3 hh [.ref e0, .ref e1, .ref e2], cI M e0 11 x0, cI M e1 11 x1, cI M e2 9 x2]) gg (c_P_heatOf M tp p2 np ph y (by first | assumption | omega | exact ⟨by omega, by omega⟩) (by first | assumption | omega | exact ⟨by omega, by omega⟩)) yv_6_heatOf ml_X10_141 dX10_shell_53 (by decide) (Nat.le_of_ble_eq_true rfl) (Nat.le_of_ble_eq_true rfl) (Nat.le_of_ble_eq_true rfl) rfl rfl rfl rfl (by decide) rfl (fun _ => rfl) rfl rfl rfl (fun z53 u53 hz53 => ?_)
          subst hz53
          refine z_callVv (pc := 56) (wr := [cO 10 h [.ref t, .ref im, .ref hh, .ref sr, .ref ct], cO 9 t [.ref tb, .ref tl, .ref tm, .ref tp, .ref td, .ref ts, .int (zI ag), .int (zI al), .int (zI an), .int (zI aw)], cO 5 tm [.int (zI (nm : Int)), .ref m2], cI M m2 192 F, cO 6 tp [.int (zI (np : Int)), .ref p2], cI M p2 4 ph]) (As := [.int (zI (ph y.toNat))]) (st := []) [6, 7, 8, 9] [0, 1, 2, 3, 4, 5] [0, 1, 2, 3, 4, 5, 6, 7, 8, 9] (fun u => [cO 10 h [.ref t, .ref im, .ref hh, .ref sr, .ref ct], cO 9 t [.ref tb, .ref tl, .ref tm, .ref tp, .ref td, .ref ts, .int (zI ag), .int (zI al), .int (zI an), .int (zI aw)], cO 5 tm [.int (zI (nm : Int)), .ref m2], cI M m2 192 F, cO 6 tp [.int (zI (np : Int)), .ref p2], cI M p2 4 ph, cO 3 hh [.ref e0, .ref e1, .ref e2], cI M e0 11 (hx (100 * (ph y.toNat)) (sH (100 * (ph y.toNat)) 0)), cI M e1 11 x1, cI M e2 9 (sC (100 * (ph y.toNat)) 0)]) gg (c_H_begin M hh e0 e1 e2 (ph y.toNat) x0 x1 x2 ) yv_3_begin ml_X10_144 dX10_shell_56 (by decide) (Nat.le_of_ble_eq_true rfl) (Nat.le_of_ble_eq_true rfl) (Nat.le_of_ble_eq_true rfl) rfl rfl rfl rfl (by decide) rfl (fun _ => rfl) rfl rfl rfl (fun u56 hz56 => ?_)
          refine z_iconst (pc := 59) gg dX10_shell_59 ?_
          refine z_istore (pc := 60) [(6, .int (zI 0)), (0, .ref h), (1, .int (zI x)), (2, .int (zI y)), (3, .int (zI k)), (4, .int (zI s)), (5, .int (zI w))] gg dX10_shell_60 (Nat.le_of_ble_eq_true rfl) rfl ?_
          have loop62 : ∀ (k62 : Nat) (i : Int) (f1 f2 f3 : Nat → Int), (0 ≤ i ∧ i ≤ k) → (f1 = sH (100 * ph y.toNat) i.toNat) → (f2 = sC (100 * ph y.toNat) i.toNat) → 400 - i.toNat < k62 → kV M E 7 0 0 [cO 10 h [.ref t, .ref im, .ref hh, .ref sr, .ref ct], cO 9 t [.ref tb, .ref tl, .ref tm, .ref tp, .ref td, .ref ts, .int (zI ag), .int (zI al), .int (zI an), .int (zI aw)], cO 5 tm [.int (zI (nm : Int)), .ref m2], cI M m2 192 F, cO 6 tp [.int (zI (np : Int)), .ref p2], cI M p2 4 ph, cO 3 hh [.ref e0, .ref e1, .ref e2], cI M e0 11 (hx (100 * ph y.toNat) f1), cI M e1 11 f3, cI M e2 9 f2] [(6, .int (zI i)), (0, .ref h), (1, .int (zI x)), (2, .int (zI y)), (3, .int (zI k)), (4, .int (zI s)), (5, .int (zI w))] 62 [] := by
            intro k62
            induction k62 with
            | zero => intro i f1 f2 f3 hi k1 k2 hm62; exact absurd hm62 (Nat.not_lt_zero _)
            | succ k62 ih62 =>
              intro i f1 f2 f3 hi k1 k2 hm62
              refine z_iload (pc := 62) 0 gg dX10_shell_62 rfl ?_
              refine z_iload_n (pc := 64) 4 gg dX10_shell_64 rfl rfl ?_
              refine z_icmp_ge (pc := 65) 81 gg dX10_shell_65 (by decide) ⟨by omega, by omega⟩ ⟨by omega, by omega⟩ (fun h65 => ?_) (fun h65 => ?_)
              · have ek : i.toNat = k.toNat := by omega
                rw [ek] at k1 k2
                rcases (show w = 0 ∨ w = 1 ∨ w = 2 ∨ w < 0 ∨ 2 < w by omega) with rfl | rfl | rfl | hw9
                · refine z_iload (pc := 81) 6 gg dX10_shell_81 rfl ?_
                  refine z_tabIn (pc := 83) (a := 0) 108 gg dX10_shell_83 ⟨by decide, by decide⟩ (by decide) (by decide) rfl (by decide) ?_
                  refine z_aload_n (pc := 108) 1 gg dX10_shell_108 rfl rfl ?_
                  refine z_get (pc := 109) 0 gg fl_X10_23 dX10_shell_109 rfl rfl ?_
                  refine z_iload (pc := 112) 5 gg dX10_shell_112 rfl ?_
                  refine z_callVi (pc := 114) (wr := [cO 10 h [.ref t, .ref im, .ref hh, .ref sr, .ref ct], cO 9 t [.ref tb, .ref tl, .ref tm, .ref tp, .ref td, .ref ts, .int (zI ag), .int (zI al), .int (zI an), .int (zI aw)], cO 5 tm [.int (zI (nm : Int)), .ref m2], cI M m2 192 F, cO 6 tp [.int (zI (np : Int)), .ref p2], cI M p2 4 ph]) (As := [.int (zI s)]) (st := []) [6, 7, 8, 9] [0, 1, 2, 3, 4, 5] [0, 1, 2, 3, 4, 5, 6, 7, 8, 9] (fun u => [cO 10 h [.ref t, .ref im, .ref hh, .ref sr, .ref ct], cO 9 t [.ref tb, .ref tl, .ref tm, .ref tp, .ref td, .ref ts, .int (zI ag), .int (zI al), .int (zI an), .int (zI aw)], cO 5 tm [.int (zI (nm : Int)), .ref m2], cI M m2 192 F, cO 6 tp [.int (zI (np : Int)), .ref p2], cI M p2 4 ph, cO 3 hh [.ref e0, .ref e1, .ref e2], cI M e0 11 (hx (100 * ph y.toNat) f1), cI M e1 11 f3, cI M e2 9 f2]) gg (c_H_heatOf M hh e0 e1 e2 (100 * ph y.toNat) f1 f3 f2 s (by first | assumption | omega | exact ⟨by omega, by omega⟩)) yv_3_heatOf ml_X10_151 dX10_shell_114 (by decide) (Nat.le_of_ble_eq_true rfl) (Nat.le_of_ble_eq_true rfl) (Nat.le_of_ble_eq_true rfl) rfl rfl rfl rfl (by decide) rfl (fun _ => rfl) rfl rfl rfl (fun z114 u114 hz114 => ?_)
                  exact hret z114 ((hx (100 * ph y.toNat) f1), f3, f2) 117 _ _ _ (Nat.le_of_ble_eq_true rfl) (Nat.le_of_ble_eq_true rfl) dX10_shell_117 rfl (by
      rcases hz114 with q | q
      · refine Or.inl ⟨⟨by omega, by omega, by omega, by omega, by omega, by omega, q.1, q.2.1, by omega, by omega⟩, ?_⟩
        rw [if_pos rfl, q.2.2, k1]
      · exact Or.inr ⟨by omega, q.2⟩)
                · refine z_iload (pc := 81) 6 gg dX10_shell_81 rfl ?_
                  refine z_tabIn (pc := 83) (a := 1) 118 gg dX10_shell_83 ⟨by decide, by decide⟩ (by decide) (by decide) rfl (by decide) ?_
                  refine z_aload_n (pc := 118) 1 gg dX10_shell_118 rfl rfl ?_
                  refine z_get (pc := 119) 0 gg fl_X10_23 dX10_shell_119 rfl rfl ?_
                  refine z_iload (pc := 122) 5 gg dX10_shell_122 rfl ?_
                  refine z_callVi (pc := 124) (wr := [cO 10 h [.ref t, .ref im, .ref hh, .ref sr, .ref ct], cO 9 t [.ref tb, .ref tl, .ref tm, .ref tp, .ref td, .ref ts, .int (zI ag), .int (zI al), .int (zI an), .int (zI aw)], cO 5 tm [.int (zI (nm : Int)), .ref m2], cI M m2 192 F, cO 6 tp [.int (zI (np : Int)), .ref p2], cI M p2 4 ph]) (As := [.int (zI s)]) (st := []) [6, 7, 8, 9] [0, 1, 2, 3, 4, 5] [0, 1, 2, 3, 4, 5, 6, 7, 8, 9] (fun u => [cO 10 h [.ref t, .ref im, .ref hh, .ref sr, .ref ct], cO 9 t [.ref tb, .ref tl, .ref tm, .ref tp, .ref td, .ref ts, .int (zI ag), .int (zI al), .int (zI an), .int (zI aw)], cO 5 tm [.int (zI (nm : Int)), .ref m2], cI M m2 192 F, cO 6 tp [.int (zI (np : Int)), .ref p2], cI M p2 4 ph, cO 3 hh [.ref e0, .ref e1, .ref e2], cI M e0 11 (hx (100 * ph y.toNat) f1), cI M e1 11 f3, cI M e2 9 f2]) gg (c_H_cureOf M hh e0 e1 e2 (100 * ph y.toNat) f1 f3 f2 s (by first | assumption | omega | exact ⟨by omega, by omega⟩)) yv_3_cureOf ml_X10_152 dX10_shell_124 (by decide) (Nat.le_of_ble_eq_true rfl) (Nat.le_of_ble_eq_true rfl) (Nat.le_of_ble_eq_true rfl) rfl rfl rfl rfl (by decide) rfl (fun _ => rfl) rfl rfl rfl (fun z124 u124 hz124 => ?_)
                  exact hret z124 ((hx (100 * ph y.toNat) f1), f3, f2) 127 _ _ _ (Nat.le_of_ble_eq_true rfl) (Nat.le_of_ble_eq_true rfl) dX10_shell_127 rfl (by
      rcases hz124 with q | q
      · refine Or.inl ⟨⟨by omega, by omega, by omega, by omega, by omega, by omega, q.1, q.2.1, by omega, by omega⟩, ?_⟩
        rw [if_neg (by decide), if_pos rfl, q.2.2, k2]
      · exact Or.inr ⟨by omega, q.2⟩)
                · refine z_iload (pc := 81) 6 gg dX10_shell_81 rfl ?_
                  refine z_tabIn (pc := 83) (a := 2) 128 gg dX10_shell_83 ⟨by decide, by decide⟩ (by decide) (by decide) rfl (by decide) ?_
                  refine z_aload_n (pc := 128) 1 gg dX10_shell_128 rfl rfl ?_
                  refine z_get (pc := 129) 0 gg fl_X10_23 dX10_shell_129 rfl rfl ?_
                  refine z_iload (pc := 132) 5 gg dX10_shell_132 rfl ?_
                  refine z_aload_n (pc := 134) 1 gg dX10_shell_134 rfl rfl ?_
                  refine z_get (pc := 135) 0 gg fl_X10_10 dX10_shell_135 rfl rfl ?_
                  refine z_get (pc := 138) 1 gg fl_X10_71 dX10_shell_138 rfl rfl ?_
                  refine z_iload_n (pc := 141) 2 gg dX10_shell_141 rfl rfl ?_
                  refine z_iconst (pc := 142) gg dX10_shell_142 ?_
                  refine z_callVi (pc := 143) (wr := [cO 10 h [.ref t, .ref im, .ref hh, .ref sr, .ref ct], cO 9 t [.ref tb, .ref tl, .ref tm, .ref tp, .ref td, .ref ts, .int (zI ag), .int (zI al), .int (zI an), .int (zI aw)], cO 6 tp [.int (zI (np : Int)), .ref p2], cI M p2 4 ph, cO 3 hh [.ref e0, .ref e1, .ref e2], cI M e0 11 (hx (100 * ph y.toNat) f1), cI M e1 11 f3, cI M e2 9 f2]) (As := [.int (zI x), .int (zI 2)]) (st := [.int (zI s), .ref hh]) [2, 3] [0, 1, 4, 5, 6, 7, 8, 9] [0, 1, 8, 9, 2, 3, 4, 5, 6, 7] (fun u => [cO 10 h [.ref t, .ref im, .ref hh, .ref sr, .ref ct], cO 9 t [.ref tb, .ref tl, .ref tm, .ref tp, .ref td, .ref ts, .int (zI ag), .int (zI al), .int (zI an), .int (zI aw)], cO 5 tm [.int (zI (nm : Int)), .ref m2], cI M m2 192 F, cO 6 tp [.int (zI (np : Int)), .ref p2], cI M p2 4 ph, cO 3 hh [.ref e0, .ref e1, .ref e2], cI M e0 11 (hx (100 * ph y.toNat) f1), cI M e1 11 f3, cI M e2 9 f2]) gg (c_M_getk M tm m2 nm F x 2 (by first | assumption | omega | exact ⟨by omega, by omega⟩) (by first | assumption | omega | exact ⟨by omega, by omega⟩) (by first | assumption | omega | exact ⟨by omega, by omega⟩)) yv_5_get ml_X10_119 dX10_shell_143 (by decide) (Nat.le_of_ble_eq_true rfl) (Nat.le_of_ble_eq_true rfl) (Nat.le_of_ble_eq_true rfl) rfl rfl rfl rfl (by decide) rfl (fun _ => rfl) rfl rfl rfl (fun z143 u143 hz143 => ?_)
                  subst hz143
                  refine z_callVi (pc := 146) (wr := [cO 10 h [.ref t, .ref im, .ref hh, .ref sr, .ref ct], cO 9 t [.ref tb, .ref tl, .ref tm, .ref tp, .ref td, .ref ts, .int (zI ag), .int (zI al), .int (zI an), .int (zI aw)], cO 5 tm [.int (zI (nm : Int)), .ref m2], cI M m2 192 F, cO 6 tp [.int (zI (np : Int)), .ref p2], cI M p2 4 ph]) (As := [.int (zI s), .int (zI (F (x.toNat * 8 + 2)))]) (st := []) [6, 7, 8, 9] [0, 1, 2, 3, 4, 5] [0, 1, 2, 3, 4, 5, 6, 7, 8, 9] (fun u => [cO 10 h [.ref t, .ref im, .ref hh, .ref sr, .ref ct], cO 9 t [.ref tb, .ref tl, .ref tm, .ref tp, .ref td, .ref ts, .int (zI ag), .int (zI al), .int (zI an), .int (zI aw)], cO 5 tm [.int (zI (nm : Int)), .ref m2], cI M m2 192 F, cO 6 tp [.int (zI (np : Int)), .ref p2], cI M p2 4 ph, cO 3 hh [.ref e0, .ref e1, .ref e2], cI M e0 11 (hx (100 * ph y.toNat) f1), cI M e1 11 f3, cI M e2 9 f2]) gg (c_H_steamOf M hh e0 e1 e2 (100 * ph y.toNat) f1 f3 f2 s (F (x.toNat * 8 + 2)) (by first | assumption | omega | exact ⟨by omega, by omega⟩) (by first | assumption | omega | exact ⟨by omega, by omega⟩) (by rw [k1]; exact sH_b hTb _)) yv_3_steamOf ml_X10_155 dX10_shell_146 (by decide) (Nat.le_of_ble_eq_true rfl) (Nat.le_of_ble_eq_true rfl) (Nat.le_of_ble_eq_true rfl) rfl rfl rfl rfl (by decide) rfl (fun _ => rfl) rfl rfl rfl (fun z146 u146 hz146 => ?_)
                  exact hret z146 ((hx (100 * ph y.toNat) f1), f3, f2) 149 _ _ _ (Nat.le_of_ble_eq_true rfl) (Nat.le_of_ble_eq_true rfl) dX10_shell_149 rfl (by
      rcases hz146 with q | q
      · refine Or.inl ⟨⟨by omega, by omega, by omega, by omega, by omega, by omega, q.1, q.2.1, by omega, by omega⟩, ?_⟩
        rw [if_neg (by decide), if_neg (by decide), q.2.2, k1]
      · exact Or.inr ⟨by omega, q.2⟩)
                · refine z_iload (pc := 81) 6 gg dX10_shell_81 rfl ?_
                  refine z_tabOut (pc := 83) 150 gg dX10_shell_83 ⟨by omega, by omega⟩ (by omega) (by decide) ?_
                  refine z_iconst (pc := 150) gg dX10_shell_150 ?_
                  exact hret (-1) ((hx (100 * ph y.toNat) f1), f3, f2) 151 _ _ _ (Nat.le_of_ble_eq_true rfl) (Nat.le_of_ble_eq_true rfl) dX10_shell_151 rfl (Or.inr ⟨by omega, rfl⟩)
              · refine z_aload_n (pc := 68) 1 gg dX10_shell_68 rfl rfl ?_
                refine z_get (pc := 69) 0 gg fl_X10_23 dX10_shell_69 rfl rfl ?_
                refine z_callVv (pc := 72) (wr := [cO 10 h [.ref t, .ref im, .ref hh, .ref sr, .ref ct], cO 9 t [.ref tb, .ref tl, .ref tm, .ref tp, .ref td, .ref ts, .int (zI ag), .int (zI al), .int (zI an), .int (zI aw)], cO 5 tm [.int (zI (nm : Int)), .ref m2], cI M m2 192 F, cO 6 tp [.int (zI (np : Int)), .ref p2], cI M p2 4 ph]) (As := []) (st := []) [6, 7, 8, 9] [0, 1, 2, 3, 4, 5] [0, 1, 2, 3, 4, 5, 6, 7, 8, 9] (fun u => [cO 10 h [.ref t, .ref im, .ref hh, .ref sr, .ref ct], cO 9 t [.ref tb, .ref tl, .ref tm, .ref tp, .ref td, .ref ts, .int (zI ag), .int (zI al), .int (zI an), .int (zI aw)], cO 5 tm [.int (zI (nm : Int)), .ref m2], cI M m2 192 F, cO 6 tp [.int (zI (np : Int)), .ref p2], cI M p2 4 ph, cO 3 hh [.ref e0, .ref e1, .ref e2], cI M e0 11 (hx (100 * ph y.toNat) (tkH (100 * ph y.toNat) f1)), cI M e1 11 (hx (100 * ph y.toNat) f1), cI M e2 9 (fun s => f2 s + tkC (tkH (100 * ph y.toNat) f1 s))]) gg (c_H_tick M hh e0 e1 e2 (100 * ph y.toNat) f1 f3 f2 (hx_b hTb (by rw [k1]; exact sH_b hTb _))) yv_3_tick ml_X10_148 dX10_shell_72 (by decide) (Nat.le_of_ble_eq_true rfl) (Nat.le_of_ble_eq_true rfl) (Nat.le_of_ble_eq_true rfl) rfl rfl rfl rfl (by decide) rfl (fun _ => rfl) rfl rfl rfl (fun u72 hz72 => ?_)
                refine z_iinc (pc := 75) 0 [(6, .int (zI (i + 1))), (0, .ref h), (1, .int (zI x)), (2, .int (zI y)), (3, .int (zI k)), (4, .int (zI s)), (5, .int (zI w))] gg dX10_shell_75 rfl (Nat.le_of_ble_eq_true rfl) rfl ?_
                refine z_goto (pc := 78) 62 gg dX10_shell_78 (by decide) ?_
                exact ih62 (i + 1) (tkH (100 * ph y.toNat) f1) (fun s => f2 s + tkC (tkH (100 * ph y.toNat) f1 s)) (hx (100 * ph y.toNat) f1) (by omega) (by rw [k1, show (i + 1).toNat = i.toNat + 1 by omega]; rfl) (by rw [k1, k2, show (i + 1).toNat = i.toNat + 1 by omega]; rfl) (by omega)
          exact loop62 _ 0 (sH (100 * ph y.toNat) 0) (sC (100 * ph y.toNat) 0) x1 (by omega) rfl rfl (Nat.lt_succ_self _)
        · refine z_iconst (pc := 39) gg dX10_shell_39 ?_
          exact hret (-1) (x0, x1, x2) 40 _ _ _ (Nat.le_of_ble_eq_true rfl) (Nat.le_of_ble_eq_true rfl) dX10_shell_40 rfl (Or.inr ⟨by omega, rfl⟩)
