theorem zAnd_31 (a : Int) : 0 ≤ zAnd a 31 ∧ zAnd a 31 ≤ 31 := by
  unfold zAnd
  obtain ⟨j, hj, e⟩ := pk_andE (zI a) (m := zI 31) 5 (by decide +kernel)
  rw [e, nI_toInt (by omega)]
  omega
set_option maxHeartbeats 4000000 in
set_option maxRecDepth 100000 in
theorem lw_body (M : KM) (E : KE) (h im hh e0 e1 e2 sr r1 r2 r3 r4 r5 ct cw ma n a0 a1 a2 a3 a4 a5 a6 a7 a8 b L cl sl : Nat) (t r : Nat → Nat) (xs : Nat → Int32) (i : Int) (A hs p0 p1 p2 fs fq ff fb fr wf ht bf cu mf wo wy my : Nat → Int) (iM : Nat → Option Nat) (g : Nat → Option (Nat → Nat)) (qn kn bw f1 f2 : Int) (m : Nat → Nat → Int) (gg : kG M E 4 8 600000 7302250 cL_law RL) (hsc : kS E b L xs) (hi : 0 ≤ i ∧ i + 6 ≤ L) (hL : L ≤ 3072) (hG : lG A hs iM g kn wf m) (hcl : cl + 19 ≤ 600000) (hsl : sl + 315 ≤ 7302250) (hnext : ∀ (A hs p0 p1 p2 fs fq ff fb fr wf ht bf cu mf wo wy my : Nat → Int) (iM : Nat → Option Nat) (g : Nat → Option (Nat → Nat)) (qn kn bw f1 f2 : Int) (m : Nat → Nat → Int), lG A hs iM g kn wf m → kV M E 4 (cl + 19) (sl + 315) ([cO 1 ct [.ref cw, .ref ma, .int (zI kn), .int (zI bw), .int (zI f1), .int (zI f2)], cI M cw 625 wf, cG M ma 7 (gr r), cI M (r 0) 625 (m 0), cI M (r 1) 625 (m 1), cI M (r 2) 625 (m 2), cI M (r 3) 625 (m 3), cI M (r 4) 625 (m 4), cI M (r 5) 625 (m 5), cI M (r 6) 625 (m 6), cO 10 h [.ref (t 0), .ref im, .ref hh, .ref sr, .ref ct], cO 9 (t 0) [.ref (t 1), .ref (t 5), .ref (t 7), .ref (t 9), .ref (t 11), .ref (t 15), .int (zI (A 5)), .int (zI (A 6)), .int (zI (A 7)), .int (zI (A 8))], cO 0 (t 1) [.int (zI ((A 0).toNat : Int)), .ref (t 2), .ref (t 3), .ref (t 4)], cI M (t 2) 6 (lF 10 3 6 A), cI M (t 3) 6 (lF 11 3 6 A), cZ M (t 4) 6 (lF 12 3 6 A), cO 4 (t 5) [.int (zI ((A 1).toNat : Int)), .ref (t 6)], cI M (t 6) 8 (lF 30 1 8 A), cO 5 (t 7) [.int (zI ((A 2).toNat : Int)), .ref (t 8)], cI M (t 8) 192 (lF 50 1 192 A), cO 6 (t 9) [.int (zI ((A 3).toNat : Int)), .ref (t 10)], cI M (t 10) 4 (lF 40 1 4 A), cO 2 (t 11) [.ref (t 12), .ref (t 13), .ref (t 14)], cI M (t 12) 32 (lD A), cZ M (t 13) 8 (lF 254 6 8 A), cZ M (t 14) 8 (lF 255 6 8 A), cO 8 (t 15) [.int (zI ((A 4).toNat : Int)), .ref (t 16), .ref (t 17), .ref (t 18)], cI M (t 16) 6 (lF 300 3 6 A), cI M (t 17) 6 (lF 301 3 6 A), cI M (t 18) 6 (lF 302 3 6 A), cT M im 3 iM, cO 3 hh [.ref e0, .ref e1, .ref e2], cI M e0 11 p0, cI M e1 11 p1, cI M e2 9 p2, cO 7 sr [.ref r1, .ref r2, .ref r3, .ref r4, .ref r5, .int (zI qn)], cZ M r1 32 fs, cI M r2 32 fq, cI M r3 32 ff, cI M r4 32 fb, cI M r5 32 fr, cO 11 n [.ref a0, .ref a1, .ref a2, .ref a3, .ref a4, .ref a5, .ref a6, .ref a7, .ref a8], cI M a0 1280 A, cZ M a1 3 hs, cI M a2 9 ht, cI M a3 9 bf, cI M a4 9 cu, cI M a5 32 mf, cI M a6 625 wo, cI M a7 625 wy, cI M a8 625 my] ++ PL M A g) [(3, .int (zI i)), (0, .ref b), (1, .ref h), (2, .ref n)] 890 []) : kV M E 4 cl sl ([cO 1 ct [.ref cw, .ref ma, .int (zI kn), .int (zI bw), .int (zI f1), .int (zI f2)], cI M cw 625 wf, cG M ma 7 (gr r), cI M (r 0) 625 (m 0), cI M (r 1) 625 (m 1), cI M (r 2) 625 (m 2), cI M (r 3) 625 (m 3), cI M (r 4) 625 (m 4), cI M (r 5) 625 (m 5), cI M (r 6) 625 (m 6), cO 10 h [.ref (t 0), .ref im, .ref hh, .ref sr, .ref ct], cO 9 (t 0) [.ref (t 1), .ref (t 5), .ref (t 7), .ref (t 9), .ref (t 11), .ref (t 15), .int (zI (A 5)), .int (zI (A 6)), .int (zI (A 7)), .int (zI (A 8))], cO 0 (t 1) [.int (zI ((A 0).toNat : Int)), .ref (t 2), .ref (t 3), .ref (t 4)], cI M (t 2) 6 (lF 10 3 6 A), cI M (t 3) 6 (lF 11 3 6 A), cZ M (t 4) 6 (lF 12 3 6 A), cO 4 (t 5) [.int (zI ((A 1).toNat : Int)), .ref (t 6)], cI M (t 6) 8 (lF 30 1 8 A), cO 5 (t 7) [.int (zI ((A 2).toNat : Int)), .ref (t 8)], cI M (t 8) 192 (lF 50 1 192 A), cO 6 (t 9) [.int (zI ((A 3).toNat : Int)), .ref (t 10)], cI M (t 10) 4 (lF 40 1 4 A), cO 2 (t 11) [.ref (t 12), .ref (t 13), .ref (t 14)], cI M (t 12) 32 (lD A), cZ M (t 13) 8 (lF 254 6 8 A), cZ M (t 14) 8 (lF 255 6 8 A), cO 8 (t 15) [.int (zI ((A 4).toNat : Int)), .ref (t 16), .ref (t 17), .ref (t 18)], cI M (t 16) 6 (lF 300 3 6 A), cI M (t 17) 6 (lF 301 3 6 A), cI M (t 18) 6 (lF 302 3 6 A), cT M im 3 iM, cO 3 hh [.ref e0, .ref e1, .ref e2], cI M e0 11 p0, cI M e1 11 p1, cI M e2 9 p2, cO 7 sr [.ref r1, .ref r2, .ref r3, .ref r4, .ref r5, .int (zI qn)], cZ M r1 32 fs, cI M r2 32 fq, cI M r3 32 ff, cI M r4 32 fb, cI M r5 32 fr, cO 11 n [.ref a0, .ref a1, .ref a2, .ref a3, .ref a4, .ref a5, .ref a6, .ref a7, .ref a8], cI M a0 1280 A, cZ M a1 3 hs, cI M a2 9 ht, cI M a3 9 bf, cI M a4 9 cu, cI M a5 32 mf, cI M a6 625 wo, cI M a7 625 wy, cI M a8 625 my] ++ PL M A g) [(3, .int (zI i)), (0, .ref b), (1, .ref h), (2, .ref n)] 27 [] := by
  obtain ⟨h0, h1, h2, h3, h4, h5, h6, h7, h8, hbn, hlt, hpl, hmz, hmd, hmp, hld, hfw, hsh⟩ := hG.1
  obtain ⟨y0, v0⟩ : ∃ y : Int, (xs (i.toNat)).toInt = y := ⟨_, rfl⟩
  have z0 : zR y0 := by rw [← v0]; exact zR_self _
  obtain ⟨y1, v1⟩ : ∃ y : Int, (xs (i.toNat + 1)).toInt = y := ⟨_, rfl⟩
  have z1 : zR y1 := by rw [← v1]; exact zR_self _
  obtain ⟨y2, v2⟩ : ∃ y : Int, (xs (i.toNat + 2)).toInt = y := ⟨_, rfl⟩
  have z2 : zR y2 := by rw [← v2]; exact zR_self _
  obtain ⟨y3, v3⟩ : ∃ y : Int, (xs (i.toNat + 3)).toInt = y := ⟨_, rfl⟩
  have z3 : zR y3 := by rw [← v3]; exact zR_self _
  obtain ⟨y4, v4⟩ : ∃ y : Int, (xs (i.toNat + 4)).toInt = y := ⟨_, rfl⟩
  have z4 : zR y4 := by rw [← v4]; exact zR_self _
  obtain ⟨y5, v5⟩ : ∃ y : Int, (xs (i.toNat + 5)).toInt = y := ⟨_, rfl⟩
  have z5 : zR y5 := by rw [← v5]; exact zR_self _
  refine z_aload_n (pc := 27) 1 gg dL_law_27 rfl rfl ?_
  refine z_iload_n (pc := 28) 0 gg dL_law_28 rfl rfl ?_
  refine z_sld (pc := 29) i.toNat gg hsc dL_law_29 (by omega) (by omega) (by omega) ?_
  rw [v0]
  refine z_bipush (pc := 30) gg dL_law_30 (by decide +kernel) ?_
  refine z_iand (pc := 32) gg dL_law_32 ?_
  have hr := zAnd_31 y0
  generalize zAnd y0 31 = w at hr ⊢
  rcases (show w = 0 ∨ w = 1 ∨ w = 2 ∨ w = 3 ∨ w = 4 ∨ w = 5 ∨ w = 6 ∨ w = 7 ∨ w = 8 ∨ w = 9 ∨ w = 10 ∨ w = 11 ∨ w = 12 ∨ w = 13 ∨ w = 14 ∨ w = 15 ∨ w = 16 ∨ w = 17 ∨ w = 18 ∨ w = 19 ∨ w = 20 ∨ w = 21 ∨ 21 < w by omega) with rfl | rfl | rfl | rfl | rfl | rfl | rfl | rfl | rfl | rfl | rfl | rfl | rfl | rfl | rfl | rfl | rfl | rfl | rfl | rfl | rfl | rfl | hw
  · refine z_tabIn (pc := 33) (a := 0) 136 gg dL_law_33 ⟨by decide, by decide⟩ (by decide) (by decide) rfl (by decide) ?_
    by_cases hb2 : y2 = 0
    · by_cases hc : A 0 < 6 ∧ 0 ≤ y1 ∧ y1 ≤ 20
      · exact lw_bin_ok0 M E h im hh e0 e1 e2 sr r1 r2 r3 r4 r5 ct cw ma n a0 a1 a2 a3 a4 a5 a6 a7 a8 b L cl sl t r xs i A hs p0 p1 p2 fs fq ff fb fr wf ht bf cu mf wo wy my iM g qn kn bw f1 f2 m y1 y2 gg hsc hi hL hG hcl hsl v1 z1 v2 z2 hb2 hc hnext
      · exact lw_bin_no0 M E h im hh e0 e1 e2 sr r1 r2 r3 r4 r5 ct cw ma n a0 a1 a2 a3 a4 a5 a6 a7 a8 b L cl sl t r xs i A hs p0 p1 p2 fs fq ff fb fr wf ht bf cu mf wo wy my iM g qn kn bw f1 f2 m y1 y2 gg hsc hi hL hG hcl hsl v1 z1 v2 z2 hb2 (by omega) hnext
    · by_cases hc : A 0 < 6 ∧ 0 ≤ y1 ∧ y1 ≤ 20
      · exact lw_bin_ok1 M E h im hh e0 e1 e2 sr r1 r2 r3 r4 r5 ct cw ma n a0 a1 a2 a3 a4 a5 a6 a7 a8 b L cl sl t r xs i A hs p0 p1 p2 fs fq ff fb fr wf ht bf cu mf wo wy my iM g qn kn bw f1 f2 m y1 y2 gg hsc hi hL hG hcl hsl v1 z1 v2 z2 hb2 hc hnext
      · exact lw_bin_no1 M E h im hh e0 e1 e2 sr r1 r2 r3 r4 r5 ct cw ma n a0 a1 a2 a3 a4 a5 a6 a7 a8 b L cl sl t r xs i A hs p0 p1 p2 fs fq ff fb fr wf ht bf cu mf wo wy my iM g qn kn bw f1 f2 m y1 y2 gg hsc hi hL hG hcl hsl v1 z1 v2 z2 hb2 (by omega) hnext
  · refine z_tabIn (pc := 33) (a := 1) 185 gg dL_law_33 ⟨by decide, by decide⟩ (by decide) (by decide) rfl (by decide) ?_
    by_cases hc : (0 ≤ y1 ∧ y1 < A 0) ∧ 0 < y2 ∧ y2 ≤ 1000000 - A (10 + (3 * y1.toNat))
    · exact lw_fill_ok M E h im hh e0 e1 e2 sr r1 r2 r3 r4 r5 ct cw ma n a0 a1 a2 a3 a4 a5 a6 a7 a8 b L cl sl t r xs i A hs p0 p1 p2 fs fq ff fb fr wf ht bf cu mf wo wy my iM g qn kn bw f1 f2 m y1 y2 gg hsc hi hL hG hcl hsl v1 z1 v2 z2 hc hnext
    · exact lw_fill_no M E h im hh e0 e1 e2 sr r1 r2 r3 r4 r5 ct cw ma n a0 a1 a2 a3 a4 a5 a6 a7 a8 b L cl sl t r xs i A hs p0 p1 p2 fs fq ff fb fr wf ht bf cu mf wo wy my iM g qn kn bw f1 f2 m y1 y2 gg hsc hi hL hG hcl hsl v1 z1 v2 z2 (by omega) hnext
  · refine z_tabIn (pc := 33) (a := 2) 218 gg dL_law_33 ⟨by decide, by decide⟩ (by decide) (by decide) rfl (by decide) ?_
    by_cases hc : A 1 < 8 ∧ 1 ≤ y1 ∧ y1 ≤ 100000
    · exact lw_lot_ok M E h im hh e0 e1 e2 sr r1 r2 r3 r4 r5 ct cw ma n a0 a1 a2 a3 a4 a5 a6 a7 a8 b L cl sl t r xs i A hs p0 p1 p2 fs fq ff fb fr wf ht bf cu mf wo wy my iM g qn kn bw f1 f2 m y1 gg hsc hi hL hG hcl hsl v1 z1 hc hnext
    · exact lw_lot_no M E h im hh e0 e1 e2 sr r1 r2 r3 r4 r5 ct cw ma n a0 a1 a2 a3 a4 a5 a6 a7 a8 b L cl sl t r xs i A hs p0 p1 p2 fs fq ff fb fr wf ht bf cu mf wo wy my iM g qn kn bw f1 f2 m y1 gg hsc hi hL hG hcl hsl v1 z1 (by omega) hnext
  · refine z_tabIn (pc := 33) (a := 3) 241 gg dL_law_33 ⟨by decide, by decide⟩ (by decide) (by decide) rfl (by decide) ?_
    by_cases c0 : y1 = 0 ∧ 1 ≤ y2 ∧ y2 ≤ 30
    · exact lw_rule_ok0 M E h im hh e0 e1 e2 sr r1 r2 r3 r4 r5 ct cw ma n a0 a1 a2 a3 a4 a5 a6 a7 a8 b L cl sl t r xs i A hs p0 p1 p2 fs fq ff fb fr wf ht bf cu mf wo wy my iM g qn kn bw f1 f2 m y1 y2 gg hsc hi hL hG hcl hsl v1 z1 v2 z2 c0.1 c0.2 hnext
    by_cases c1 : y1 = 1 ∧ 0 ≤ y2 ∧ y2 ≤ 100
    · exact lw_rule_ok1 M E h im hh e0 e1 e2 sr r1 r2 r3 r4 r5 ct cw ma n a0 a1 a2 a3 a4 a5 a6 a7 a8 b L cl sl t r xs i A hs p0 p1 p2 fs fq ff fb fr wf ht bf cu mf wo wy my iM g qn kn bw f1 f2 m y1 y2 gg hsc hi hL hG hcl hsl v1 z1 v2 z2 c1.1 c1.2 hnext
    by_cases c2 : y1 = 2 ∧ 1 ≤ y2 ∧ y2 ≤ 5000
    · exact lw_rule_ok2 M E h im hh e0 e1 e2 sr r1 r2 r3 r4 r5 ct cw ma n a0 a1 a2 a3 a4 a5 a6 a7 a8 b L cl sl t r xs i A hs p0 p1 p2 fs fq ff fb fr wf ht bf cu mf wo wy my iM g qn kn bw f1 f2 m y1 y2 gg hsc hi hL hG hcl hsl v1 z1 v2 z2 c2.1 c2.2 hnext
    by_cases c3 : y1 = 3 ∧ 0 ≤ y2 ∧ y2 ≤ 3
    · exact lw_rule_ok3 M E h im hh e0 e1 e2 sr r1 r2 r3 r4 r5 ct cw ma n a0 a1 a2 a3 a4 a5 a6 a7 a8 b L cl sl t r xs i A hs p0 p1 p2 fs fq ff fb fr wf ht bf cu mf wo wy my iM g qn kn bw f1 f2 m y1 y2 gg hsc hi hL hG hcl hsl v1 z1 v2 z2 c3.1 c3.2 hnext
    exact lw_rule_no M E h im hh e0 e1 e2 sr r1 r2 r3 r4 r5 ct cw ma n a0 a1 a2 a3 a4 a5 a6 a7 a8 b L cl sl t r xs i A hs p0 p1 p2 fs fq ff fb fr wf ht bf cu mf wo wy my iM g qn kn bw f1 f2 m y1 y2 gg hsc hi hL hG hcl hsl v1 z1 v2 z2 (by omega) hnext
  · refine z_tabIn (pc := 33) (a := 4) 274 gg dL_law_33 ⟨by decide, by decide⟩ (by decide) (by decide) rfl (by decide) ?_
    obtain ⟨u1, hu1⟩ := ex_u hG.1 y1 (lyF y3)
    obtain ⟨u2, hu2⟩ := ex_u hG.1 y2 (y3 - lyF y3)
    by_cases hc : (A 2 < 24 ∧ (10 ≤ y3 ∧ y3 ≤ 10000) ∧ (0 ≤ y1 ∧ y1 < A 0) ∧ (0 ≤ y2 ∧ y2 < A 0)) ∧ ((y1 = y2 ∧ y3 ≤ A (10 + (3 * y1.toNat))) ∨ (y1 ≠ y2 ∧ lyF y3 ≤ A (10 + (3 * y1.toNat)) ∧ y3 - lyF y3 ≤ A (10 + (3 * y2.toNat)))) ∧ y3 * A 5 / 100 ≤ zS (lF 30 1 8 A) (A 1).toNat ∧ 100 * (u1 + u2) ≤ A 6 * y3
    · exact lw_lay_ok M E h im hh e0 e1 e2 sr r1 r2 r3 r4 r5 ct cw ma n a0 a1 a2 a3 a4 a5 a6 a7 a8 b L cl sl t r xs i A hs p0 p1 p2 fs fq ff fb fr wf ht bf cu mf wo wy my iM g qn kn bw f1 f2 m y1 y2 y3 gg hsc hi hL hG hcl hsl v1 z1 v2 z2 v3 z3 u1 u2 hu1 hu2 hc hnext
    · exact lw_lay_no M E h im hh e0 e1 e2 sr r1 r2 r3 r4 r5 ct cw ma n a0 a1 a2 a3 a4 a5 a6 a7 a8 b L cl sl t r xs i A hs p0 p1 p2 fs fq ff fb fr wf ht bf cu mf wo wy my iM g qn kn bw f1 f2 m y1 y2 y3 gg hsc hi hL hG hcl hsl v1 z1 v2 z2 v3 z3 u1 u2 hu1 hu2 (by omega) hnext
  · refine z_tabIn (pc := 33) (a := 5) 317 gg dL_law_33 ⟨by decide, by decide⟩ (by decide) (by decide) rfl (by decide) ?_
    exact lw_mat M E h im hh e0 e1 e2 sr r1 r2 r3 r4 r5 ct cw ma n a0 a1 a2 a3 a4 a5 a6 a7 a8 b L cl sl t r xs i A hs p0 p1 p2 fs fq ff fb fr wf ht bf cu mf wo wy my iM g qn kn bw f1 f2 m y1 y2 gg hsc hi hL hG hcl hsl v1 z1 v2 z2 hnext
  · refine z_tabIn (pc := 33) (a := 6) 350 gg dL_law_33 ⟨by decide, by decide⟩ (by decide) (by decide) rfl (by decide) ?_
    exact lw_recall M E h im hh e0 e1 e2 sr r1 r2 r3 r4 r5 ct cw ma n a0 a1 a2 a3 a4 a5 a6 a7 a8 b L cl sl t r xs i A hs p0 p1 p2 fs fq ff fb fr wf ht bf cu mf wo wy my iM g qn kn bw f1 f2 m y1 gg hsc hi hL hG hcl hsl v1 z1 hnext
  · refine z_tabIn (pc := 33) (a := 7) 373 gg dL_law_33 ⟨by decide, by decide⟩ (by decide) (by decide) rfl (by decide) ?_
    by_cases hc : A 3 < 4 ∧ 100 ≤ y1 ∧ y1 ≤ 250
    · exact lw_plate_ok M E h im hh e0 e1 e2 sr r1 r2 r3 r4 r5 ct cw ma n a0 a1 a2 a3 a4 a5 a6 a7 a8 b L cl sl t r xs i A hs p0 p1 p2 fs fq ff fb fr wf ht bf cu mf wo wy my iM g qn kn bw f1 f2 m y1 gg hsc hi hL hG hcl hsl v1 z1 hc hnext
    · exact lw_plate_no M E h im hh e0 e1 e2 sr r1 r2 r3 r4 r5 ct cw ma n a0 a1 a2 a3 a4 a5 a6 a7 a8 b L cl sl t r xs i A hs p0 p1 p2 fs fq ff fb fr wf ht bf cu mf wo wy my iM g qn kn bw f1 f2 m y1 gg hsc hi hL hG hcl hsl v1 z1 (by omega) hnext
  · refine z_tabIn (pc := 33) (a := 8) 396 gg dL_law_33 ⟨by decide, by decide⟩ (by decide) (by decide) rfl (by decide) ?_
    exact lw_time M E h im hh e0 e1 e2 sr r1 r2 r3 r4 r5 ct cw ma n a0 a1 a2 a3 a4 a5 a6 a7 a8 b L cl sl t r xs i A hs p0 p1 p2 fs fq ff fb fr wf ht bf cu mf wo wy my iM g qn kn bw f1 f2 m y1 y2 gg hsc hi hL hG hcl hsl v1 z1 v2 z2 hnext
  · refine z_tabIn (pc := 33) (a := 9) 429 gg dL_law_33 ⟨by decide, by decide⟩ (by decide) (by decide) rfl (by decide) ?_
    exact lw_fastest M E h im hh e0 e1 e2 sr r1 r2 r3 r4 r5 ct cw ma n a0 a1 a2 a3 a4 a5 a6 a7 a8 b L cl sl t r xs i A hs p0 p1 p2 fs fq ff fb fr wf ht bf cu mf wo wy my iM g qn kn bw f1 f2 m y1 gg hsc hi hL hG hcl hsl v1 z1 hnext
  · refine z_tabIn (pc := 33) (a := 10) 452 gg dL_law_33 ⟨by decide, by decide⟩ (by decide) (by decide) rfl (by decide) ?_
    exact lw_press M E h im hh e0 e1 e2 sr r1 r2 r3 r4 r5 ct cw ma n a0 a1 a2 a3 a4 a5 a6 a7 a8 b L cl sl t r xs i A hs p0 p1 p2 fs fq ff fb fr wf ht bf cu mf wo wy my iM g qn kn bw f1 f2 m y1 y2 gg hsc hi hL hG hcl hsl v1 z1 v2 z2 hnext
  · refine z_tabIn (pc := 33) (a := 11) 485 gg dL_law_33 ⟨by decide, by decide⟩ (by decide) (by decide) rfl (by decide) ?_
    exact lw_shell M E h im hh e0 e1 e2 sr r1 r2 r3 r4 r5 ct cw ma n a0 a1 a2 a3 a4 a5 a6 a7 a8 b L cl sl t r xs i A hs p0 p1 p2 fs fq ff fb fr wf ht bf cu mf wo wy my iM g qn kn bw f1 f2 m y1 y2 y3 y4 y5 gg hsc hi hL hG hcl hsl v1 z1 v2 z2 v3 z3 v4 z4 v5 z5 hnext
  · refine z_tabIn (pc := 33) (a := 12) 548 gg dL_law_33 ⟨by decide, by decide⟩ (by decide) (by decide) rfl (by decide) ?_
    by_cases hc : (0 ≤ y1 ∧ y1 < 8) ∧ (0 ≤ y2 ∧ y2 < 4) ∧ (0 ≤ y3 ∧ y3 < 8)
    · exact lw_link_ok M E h im hh e0 e1 e2 sr r1 r2 r3 r4 r5 ct cw ma n a0 a1 a2 a3 a4 a5 a6 a7 a8 b L cl sl t r xs i A hs p0 p1 p2 fs fq ff fb fr wf ht bf cu mf wo wy my iM g qn kn bw f1 f2 m y1 y2 y3 gg hsc hi hL hG hcl hsl v1 z1 v2 z2 v3 z3 hc hnext
    · exact lw_link_no M E h im hh e0 e1 e2 sr r1 r2 r3 r4 r5 ct cw ma n a0 a1 a2 a3 a4 a5 a6 a7 a8 b L cl sl t r xs i A hs p0 p1 p2 fs fq ff fb fr wf ht bf cu mf wo wy my iM g qn kn bw f1 f2 m y1 y2 y3 gg hsc hi hL hG hcl hsl v1 z1 v2 z2 v3 z3 (by omega) hnext
  · refine z_tabIn (pc := 33) (a := 13) 591 gg dL_law_33 ⟨by decide, by decide⟩ (by decide) (by decide) rfl (by decide) ?_
    by_cases hb2 : y2 = 0 <;> by_cases hb3 : y3 = 0 <;> by_cases hc : 0 ≤ y1 ∧ y1 < 8
    · exact lw_state_ok0 M E h im hh e0 e1 e2 sr r1 r2 r3 r4 r5 ct cw ma n a0 a1 a2 a3 a4 a5 a6 a7 a8 b L cl sl t r xs i A hs p0 p1 p2 fs fq ff fb fr wf ht bf cu mf wo wy my iM g qn kn bw f1 f2 m y1 y2 y3 gg hsc hi hL hG hcl hsl v1 z1 v2 z2 v3 z3 hb2 hb3 hc hnext
    · exact lw_state_no0 M E h im hh e0 e1 e2 sr r1 r2 r3 r4 r5 ct cw ma n a0 a1 a2 a3 a4 a5 a6 a7 a8 b L cl sl t r xs i A hs p0 p1 p2 fs fq ff fb fr wf ht bf cu mf wo wy my iM g qn kn bw f1 f2 m y1 y2 y3 gg hsc hi hL hG hcl hsl v1 z1 v2 z2 v3 z3 hb2 hb3 (by omega) hnext
    · exact lw_state_ok2 M E h im hh e0 e1 e2 sr r1 r2 r3 r4 r5 ct cw ma n a0 a1 a2 a3 a4 a5 a6 a7 a8 b L cl sl t r xs i A hs p0 p1 p2 fs fq ff fb fr wf ht bf cu mf wo wy my iM g qn kn bw f1 f2 m y1 y2 y3 gg hsc hi hL hG hcl hsl v1 z1 v2 z2 v3 z3 hb2 hb3 hc hnext
    · exact lw_state_no2 M E h im hh e0 e1 e2 sr r1 r2 r3 r4 r5 ct cw ma n a0 a1 a2 a3 a4 a5 a6 a7 a8 b L cl sl t r xs i A hs p0 p1 p2 fs fq ff fb fr wf ht bf cu mf wo wy my iM g qn kn bw f1 f2 m y1 y2 y3 gg hsc hi hL hG hcl hsl v1 z1 v2 z2 v3 z3 hb2 hb3 (by omega) hnext
    · exact lw_state_ok1 M E h im hh e0 e1 e2 sr r1 r2 r3 r4 r5 ct cw ma n a0 a1 a2 a3 a4 a5 a6 a7 a8 b L cl sl t r xs i A hs p0 p1 p2 fs fq ff fb fr wf ht bf cu mf wo wy my iM g qn kn bw f1 f2 m y1 y2 y3 gg hsc hi hL hG hcl hsl v1 z1 v2 z2 v3 z3 hb2 hb3 hc hnext
    · exact lw_state_no1 M E h im hh e0 e1 e2 sr r1 r2 r3 r4 r5 ct cw ma n a0 a1 a2 a3 a4 a5 a6 a7 a8 b L cl sl t r xs i A hs p0 p1 p2 fs fq ff fb fr wf ht bf cu mf wo wy my iM g qn kn bw f1 f2 m y1 y2 y3 gg hsc hi hL hG hcl hsl v1 z1 v2 z2 v3 z3 hb2 hb3 (by omega) hnext
    · exact lw_state_ok3 M E h im hh e0 e1 e2 sr r1 r2 r3 r4 r5 ct cw ma n a0 a1 a2 a3 a4 a5 a6 a7 a8 b L cl sl t r xs i A hs p0 p1 p2 fs fq ff fb fr wf ht bf cu mf wo wy my iM g qn kn bw f1 f2 m y1 y2 y3 gg hsc hi hL hG hcl hsl v1 z1 v2 z2 v3 z3 hb2 hb3 hc hnext
    · exact lw_state_no3 M E h im hh e0 e1 e2 sr r1 r2 r3 r4 r5 ct cw ma n a0 a1 a2 a3 a4 a5 a6 a7 a8 b L cl sl t r xs i A hs p0 p1 p2 fs fq ff fb fr wf ht bf cu mf wo wy my iM g qn kn bw f1 f2 m y1 y2 y3 gg hsc hi hL hG hcl hsl v1 z1 v2 z2 v3 z3 hb2 hb3 (by omega) hnext
  · refine z_tabIn (pc := 33) (a := 14) 666 gg dL_law_33 ⟨by decide, by decide⟩ (by decide) (by decide) rfl (by decide) ?_
    exact lw_badRow M E h im hh e0 e1 e2 sr r1 r2 r3 r4 r5 ct cw ma n a0 a1 a2 a3 a4 a5 a6 a7 a8 b L cl sl t r xs i A hs p0 p1 p2 fs fq ff fb fr wf ht bf cu mf wo wy my iM g qn kn bw f1 f2 m gg hsc hi hL hG hcl hsl hnext
  · refine z_tabIn (pc := 33) (a := 15) 679 gg dL_law_33 ⟨by decide, by decide⟩ (by decide) (by decide) rfl (by decide) ?_
    exact lw_bad M E h im hh e0 e1 e2 sr r1 r2 r3 r4 r5 ct cw ma n a0 a1 a2 a3 a4 a5 a6 a7 a8 b L cl sl t r xs i A hs p0 p1 p2 fs fq ff fb fr wf ht bf cu mf wo wy my iM g qn kn bw f1 f2 m y1 gg hsc hi hL hG hcl hsl v1 z1 hnext
  · refine z_tabIn (pc := 33) (a := 16) 702 gg dL_law_33 ⟨by decide, by decide⟩ (by decide) (by decide) rfl (by decide) ?_
    by_cases hc : A 4 < 6 ∧ (1 ≤ y1 ∧ y1 ≤ 24) ∧ (1 ≤ y2 ∧ y2 ≤ 24) ∧ (1 ≤ y3 ∧ y3 ≤ 999)
    · exact lw_sheet_ok M E h im hh e0 e1 e2 sr r1 r2 r3 r4 r5 ct cw ma n a0 a1 a2 a3 a4 a5 a6 a7 a8 b L cl sl t r xs i A hs p0 p1 p2 fs fq ff fb fr wf ht bf cu mf wo wy my iM g qn kn bw f1 f2 m y1 y2 y3 gg hsc hi hL hG hcl hsl v1 z1 v2 z2 v3 z3 hc hnext
    · exact lw_sheet_no M E h im hh e0 e1 e2 sr r1 r2 r3 r4 r5 ct cw ma n a0 a1 a2 a3 a4 a5 a6 a7 a8 b L cl sl t r xs i A hs p0 p1 p2 fs fq ff fb fr wf ht bf cu mf wo wy my iM g qn kn bw f1 f2 m y1 y2 y3 gg hsc hi hL hG hcl hsl v1 z1 v2 z2 v3 z3 (by omega) hnext
  · refine z_tabIn (pc := 33) (a := 17) 745 gg dL_law_33 ⟨by decide, by decide⟩ (by decide) (by decide) rfl (by decide) ?_
    exact lw_best M E h im hh e0 e1 e2 sr r1 r2 r3 r4 r5 ct cw ma n a0 a1 a2 a3 a4 a5 a6 a7 a8 b L cl sl t r xs i A hs p0 p1 p2 fs fq ff fb fr wf ht bf cu mf wo wy my iM g qn kn bw f1 f2 m y1 y2 gg hsc hi hL hG hcl hsl v1 z1 v2 z2 hnext
  · refine z_tabIn (pc := 33) (a := 18) 778 gg dL_law_33 ⟨by decide, by decide⟩ (by decide) (by decide) rfl (by decide) ?_
    exact lw_cuts M E h im hh e0 e1 e2 sr r1 r2 r3 r4 r5 ct cw ma n a0 a1 a2 a3 a4 a5 a6 a7 a8 b L cl sl t r xs i A hs p0 p1 p2 fs fq ff fb fr wf ht bf cu mf wo wy my iM g qn kn bw f1 f2 m y1 y2 y3 gg hsc hi hL hG hcl hsl v1 z1 v2 z2 v3 z3 hnext
  · refine z_tabIn (pc := 33) (a := 19) 821 gg dL_law_33 ⟨by decide, by decide⟩ (by decide) (by decide) rfl (by decide) ?_
    exact lw_count M E h im hh e0 e1 e2 sr r1 r2 r3 r4 r5 ct cw ma n a0 a1 a2 a3 a4 a5 a6 a7 a8 b L cl sl t r xs i A hs p0 p1 p2 fs fq ff fb fr wf ht bf cu mf wo wy my iM g qn kn bw f1 f2 m y1 gg hsc hi hL hG hcl hsl v1 z1 hnext
  · refine z_tabIn (pc := 33) (a := 20) 844 gg dL_law_33 ⟨by decide, by decide⟩ (by decide) (by decide) rfl (by decide) ?_
    by_cases hc : 0 ≤ y1 ∧ y1 < 3
    · rcases hG.2.2 y1.toNat (by omega) with ⟨w1, ⟨a, wa, wb⟩, w3⟩ | ⟨w1, w2, w3⟩
      · exact lw_image_old M E h im hh e0 e1 e2 sr r1 r2 r3 r4 r5 ct cw ma n a0 a1 a2 a3 a4 a5 a6 a7 a8 b L cl sl t r xs i A hs p0 p1 p2 fs fq ff fb fr wf ht bf cu mf wo wy my iM g qn kn bw f1 f2 m y1 gg hsc hi hL hG hcl hsl v1 z1 a hc wa wb hnext
      · exact lw_image_new M E h im hh e0 e1 e2 sr r1 r2 r3 r4 r5 ct cw ma n a0 a1 a2 a3 a4 a5 a6 a7 a8 b L cl sl t r xs i A hs p0 p1 p2 fs fq ff fb fr wf ht bf cu mf wo wy my iM g qn kn bw f1 f2 m y1 gg hsc hi hL hG hcl hsl v1 z1 hc w2 w3 hnext
    · exact lw_image_no M E h im hh e0 e1 e2 sr r1 r2 r3 r4 r5 ct cw ma n a0 a1 a2 a3 a4 a5 a6 a7 a8 b L cl sl t r xs i A hs p0 p1 p2 fs fq ff fb fr wf ht bf cu mf wo wy my iM g qn kn bw f1 f2 m y1 gg hsc hi hL hG hcl hsl v1 z1 (by omega) hnext
  · refine z_tabIn (pc := 33) (a := 21) 867 gg dL_law_33 ⟨by decide, by decide⟩ (by decide) (by decide) rfl (by decide) ?_
    by_cases hc : 0 ≤ y1 ∧ y1 < 3
    · rcases hG.2.2 y1.toNat (by omega) with ⟨w1, ⟨a, wa, wb⟩, w3⟩ | ⟨w1, w2, w3⟩
      · exact lw_again_ok M E h im hh e0 e1 e2 sr r1 r2 r3 r4 r5 ct cw ma n a0 a1 a2 a3 a4 a5 a6 a7 a8 b L cl sl t r xs i A hs p0 p1 p2 fs fq ff fb fr wf ht bf cu mf wo wy my iM g qn kn bw f1 f2 m y1 gg hsc hi hL hG hcl hsl v1 z1 a hc wa wb w1 w3 hnext
      · exact lw_again_none M E h im hh e0 e1 e2 sr r1 r2 r3 r4 r5 ct cw ma n a0 a1 a2 a3 a4 a5 a6 a7 a8 b L cl sl t r xs i A hs p0 p1 p2 fs fq ff fb fr wf ht bf cu mf wo wy my iM g qn kn bw f1 f2 m y1 gg hsc hi hL hG hcl hsl v1 z1 ⟨hc.1, hc.2, w1, w3⟩ hnext
    · exact lw_again_no M E h im hh e0 e1 e2 sr r1 r2 r3 r4 r5 ct cw ma n a0 a1 a2 a3 a4 a5 a6 a7 a8 b L cl sl t r xs i A hs p0 p1 p2 fs fq ff fb fr wf ht bf cu mf wo wy my iM g qn kn bw f1 f2 m y1 gg hsc hi hL hG hcl hsl v1 z1 (by omega) hnext
  · refine z_tabOut (pc := 33) 890 gg dL_law_33 ⟨by omega, by omega⟩ (Or.inr (by omega)) (by decide) ?_
    exact z_widen (by omega) (by omega) (hnext A hs p0 p1 p2 fs fq ff fb fr wf ht bf cu mf wo wy my iM g qn kn bw f1 f2 m hG)
set_option maxHeartbeats 4000000 in
set_option maxRecDepth 100000 in
theorem lw_loop (M : KM) (E : KE) (h im hh e0 e1 e2 sr r1 r2 r3 r4 r5 ct cw ma n a0 a1 a2 a3 a4 a5 a6 a7 a8 b L : Nat) (t r : Nat → Nat) (xs : Nat → Int32) (gg : kG M E 4 8 600000 7302250 cL_law RL) (hsc : kS E b L xs) (hL : L ≤ 3072) (hend : ∀ (cells slots : Nat) (ws : va_W) (lv : List (Nat × Value)), cells ≤ 600000 → slots ≤ 7302250 → kV M E 4 cells slots ws lv 897 [.int (zI 1)]) : ∀ (k : Nat) (i : Int) (A hs p0 p1 p2 fs fq ff fb fr wf ht bf cu mf wo wy my : Nat → Int) (iM : Nat → Option Nat) (g : Nat → Option (Nat → Nat)) (qn kn bw f1 f2 : Int) (m : Nat → Nat → Int), 0 ≤ i ∧ i ≤ L → lG A hs iM g kn wf m → L - i.toNat < k → kV M E 4 (100 + 19 * i.toNat) (10000 + 315 * i.toNat) ([cO 1 ct [.ref cw, .ref ma, .int (zI kn), .int (zI bw), .int (zI f1), .int (zI f2)], cI M cw 625 wf, cG M ma 7 (gr r), cI M (r 0) 625 (m 0), cI M (r 1) 625 (m 1), cI M (r 2) 625 (m 2), cI M (r 3) 625 (m 3), cI M (r 4) 625 (m 4), cI M (r 5) 625 (m 5), cI M (r 6) 625 (m 6), cO 10 h [.ref (t 0), .ref im, .ref hh, .ref sr, .ref ct], cO 9 (t 0) [.ref (t 1), .ref (t 5), .ref (t 7), .ref (t 9), .ref (t 11), .ref (t 15), .int (zI (A 5)), .int (zI (A 6)), .int (zI (A 7)), .int (zI (A 8))], cO 0 (t 1) [.int (zI ((A 0).toNat : Int)), .ref (t 2), .ref (t 3), .ref (t 4)], cI M (t 2) 6 (lF 10 3 6 A), cI M (t 3) 6 (lF 11 3 6 A), cZ M (t 4) 6 (lF 12 3 6 A), cO 4 (t 5) [.int (zI ((A 1).toNat : Int)), .ref (t 6)], cI M (t 6) 8 (lF 30 1 8 A), cO 5 (t 7) [.int (zI ((A 2).toNat : Int)), .ref (t 8)], cI M (t 8) 192 (lF 50 1 192 A), cO 6 (t 9) [.int (zI ((A 3).toNat : Int)), .ref (t 10)], cI M (t 10) 4 (lF 40 1 4 A), cO 2 (t 11) [.ref (t 12), .ref (t 13), .ref (t 14)], cI M (t 12) 32 (lD A), cZ M (t 13) 8 (lF 254 6 8 A), cZ M (t 14) 8 (lF 255 6 8 A), cO 8 (t 15) [.int (zI ((A 4).toNat : Int)), .ref (t 16), .ref (t 17), .ref (t 18)], cI M (t 16) 6 (lF 300 3 6 A), cI M (t 17) 6 (lF 301 3 6 A), cI M (t 18) 6 (lF 302 3 6 A), cT M im 3 iM, cO 3 hh [.ref e0, .ref e1, .ref e2], cI M e0 11 p0, cI M e1 11 p1, cI M e2 9 p2, cO 7 sr [.ref r1, .ref r2, .ref r3, .ref r4, .ref r5, .int (zI qn)], cZ M r1 32 fs, cI M r2 32 fq, cI M r3 32 ff, cI M r4 32 fb, cI M r5 32 fr, cO 11 n [.ref a0, .ref a1, .ref a2, .ref a3, .ref a4, .ref a5, .ref a6, .ref a7, .ref a8], cI M a0 1280 A, cZ M a1 3 hs, cI M a2 9 ht, cI M a3 9 bf, cI M a4 9 cu, cI M a5 32 mf, cI M a6 625 wo, cI M a7 625 wy, cI M a8 625 my] ++ PL M A g) [(3, .int (zI i)), (0, .ref b), (1, .ref h), (2, .ref n)] 18 [] := by
  intro k
  induction k with
  | zero => intro i A hs p0 p1 p2 fs fq ff fb fr wf ht bf cu mf wo wy my iM g qn kn bw f1 f2 m _ _ hk; exact absurd hk (Nat.not_lt_zero _)
  | succ k ih =>
    intro i A hs p0 p1 p2 fs fq ff fb fr wf ht bf cu mf wo wy my iM g qn kn bw f1 f2 m hi hG hk
    refine z_iload_n (pc := 18) 0 gg dL_law_18 rfl rfl ?_
    refine z_aload_n (pc := 19) 1 gg dL_law_19 rfl rfl ?_
    refine z_slen (pc := 20) gg hsc dL_law_20 ?_
    refine z_bipush (pc := 21) gg dL_law_21 (by decide +kernel) ?_
    refine z_isub (pc := 23) gg dL_law_23 ?_
    refine z_icmp_gt (pc := 24) 896 gg dL_law_24 (by decide) ⟨by omega, by omega⟩ ⟨by omega, by omega⟩ (fun h24 => ?_) (fun h24 => ?_)
    · refine z_iconst (pc := 896) gg dL_law_896 ?_
      exact hend _ _ _ _ (by omega) (by omega)
    · refine lw_body M E h im hh e0 e1 e2 sr r1 r2 r3 r4 r5 ct cw ma n a0 a1 a2 a3 a4 a5 a6 a7 a8 b L (100 + 19 * i.toNat) (10000 + 315 * i.toNat) t r xs i A hs p0 p1 p2 fs fq ff fb fr wf ht bf cu mf wo wy my iM g qn kn bw f1 f2 m gg hsc (by omega) hL hG (by omega) (by omega) ?_
      intro A hs p0 p1 p2 fs fq ff fb fr wf ht bf cu mf wo wy my iM g qn kn bw f1 f2 m hG
      refine z_iinc (pc := 890) 0 [(3, .int (zI (i + 6))), (0, .ref b), (1, .ref h), (2, .ref n)] gg dL_law_890 rfl (Nat.le_of_ble_eq_true rfl) rfl ?_
      refine z_goto (pc := 893) 18 gg dL_law_893 (by decide) ?_
      exact z_widen (by omega) (by omega) (ih (i + 6) A hs p0 p1 p2 fs fq ff fb fr wf ht bf cu mf wo wy my iM g qn kn bw f1 f2 m (by omega) hG (by omega))
