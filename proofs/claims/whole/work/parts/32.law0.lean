/-! the law: the row of numbers and the images behind it -/
def shA (A : Nat → Int) (k : Nat) : Nat → Int := fun i => A (320 * (k + 1) + i)
/-- the cells of what is told, at the addresses a, for the row B -/
def tW (M : KM) (a : Nat → Nat) (B : Nat → Int) : va_W := [cO 9 (a 0) [.ref (a 1), .ref (a 5), .ref (a 7), .ref (a 9), .ref (a 11), .ref (a 15), .int (zI (B 5)), .int (zI (B 6)), .int (zI (B 7)), .int (zI (B 8))], cO 0 (a 1) [.int (zI ((B 0).toNat : Int)), .ref (a 2), .ref (a 3), .ref (a 4)], cI M (a 2) 6 (lF 10 3 6 B), cI M (a 3) 6 (lF 11 3 6 B), cZ M (a 4) 6 (lF 12 3 6 B), cO 4 (a 5) [.int (zI ((B 1).toNat : Int)), .ref (a 6)], cI M (a 6) 8 (lF 30 1 8 B), cO 5 (a 7) [.int (zI ((B 2).toNat : Int)), .ref (a 8)], cI M (a 8) 192 (lF 50 1 192 B), cO 6 (a 9) [.int (zI ((B 3).toNat : Int)), .ref (a 10)], cI M (a 10) 4 (lF 40 1 4 B), cO 2 (a 11) [.ref (a 12), .ref (a 13), .ref (a 14)], cI M (a 12) 32 (lD B), cZ M (a 13) 8 (lF 254 6 8 B), cZ M (a 14) 8 (lF 255 6 8 B), cO 8 (a 15) [.int (zI ((B 4).toNat : Int)), .ref (a 16), .ref (a 17), .ref (a 18)], cI M (a 16) 6 (lF 300 3 6 B), cI M (a 17) 6 (lF 301 3 6 B), cI M (a 18) 6 (lF 302 3 6 B)]
theorem tW_cong {M : KM} {a : Nat → Nat} {B B' : Nat → Int} (h : ∀ i, i < 320 → B i = B' i) : tW M a B = tW M a B' := by
  have f2 : lF 10 3 6 B = lF 10 3 6 B' := lF_cong (fun j hj => h _ (by omega))
  have f3 : lF 11 3 6 B = lF 11 3 6 B' := lF_cong (fun j hj => h _ (by omega))
  have f4 : lF 12 3 6 B = lF 12 3 6 B' := lF_cong (fun j hj => h _ (by omega))
  have f6 : lF 30 1 8 B = lF 30 1 8 B' := lF_cong (fun j hj => h _ (by omega))
  have f8 : lF 50 1 192 B = lF 50 1 192 B' := lF_cong (fun j hj => h _ (by omega))
  have f10 : lF 40 1 4 B = lF 40 1 4 B' := lF_cong (fun j hj => h _ (by omega))
  have f12 : lD B = lD B' := lD_cong (fun i a b => h i (by omega))
  have f13 : lF 254 6 8 B = lF 254 6 8 B' := lF_cong (fun j hj => h _ (by omega))
  have f14 : lF 255 6 8 B = lF 255 6 8 B' := lF_cong (fun j hj => h _ (by omega))
  have f16 : lF 300 3 6 B = lF 300 3 6 B' := lF_cong (fun j hj => h _ (by omega))
  have f17 : lF 301 3 6 B = lF 301 3 6 B' := lF_cong (fun j hj => h _ (by omega))
  have f18 : lF 302 3 6 B = lF 302 3 6 B' := lF_cong (fun j hj => h _ (by omega))
  have n0 : B 0 = B' 0 := h 0 (by omega)
  have n1 : B 1 = B' 1 := h 1 (by omega)
  have n2 : B 2 = B' 2 := h 2 (by omega)
  have n3 : B 3 = B' 3 := h 3 (by omega)
  have n4 : B 4 = B' 4 := h 4 (by omega)
  have n5 : B 5 = B' 5 := h 5 (by omega)
  have n6 : B 6 = B' 6 := h 6 (by omega)
  have n7 : B 7 = B' 7 := h 7 (by omega)
  have n8 : B 8 = B' 8 := h 8 (by omega)
  unfold tW
  rw [f2, f3, f4, f6, f8, f10, f12, f13, f14, f16, f17, f18, n0, n1, n2, n3, n4, n5, n6, n7, n8]
def iW (M : KM) (A : Nat → Int) (k : Nat) : Option (Nat → Nat) → va_W
  | none => []
  | some a => tW M a (shA A k)
def PL (M : KM) (A : Nat → Int) (g : Nat → Option (Nat → Nat)) : va_W := iW M A 0 (g 0) ++ (iW M A 1 (g 1) ++ iW M A 2 (g 2))
/-- the images but the one of number k -/
def PR (M : KM) (A : Nat → Int) (g : Nat → Option (Nat → Nat)) (k : Nat) : va_W := if k = 0 then iW M A 1 (g 1) ++ iW M A 2 (g 2) else if k = 1 then iW M A 0 (g 0) ++ iW M A 2 (g 2) else iW M A 0 (g 0) ++ iW M A 1 (g 1)
theorem PL_perm {M : KM} {A : Nat → Int} {g : Nat → Option (Nat → Nat)} {k : Nat} (hk : k < 3) : (PL M A g).Perm (iW M A k (g k) ++ PR M A g k) := by
  unfold PL PR
  rcases (show k = 0 ∨ k = 1 ∨ k = 2 by omega) with rfl | rfl | rfl
  · exact List.Perm.refl _
  · rw [if_neg (by omega), if_pos rfl, ← List.append_assoc, ← List.append_assoc]
    exact List.Perm.append_right _ List.perm_append_comm
  · rw [if_neg (by omega), if_neg (by omega), ← List.append_assoc]
    exact List.perm_append_comm
theorem iW_cong {M : KM} {A A' : Nat → Int} {k : Nat} {o : Option (Nat → Nat)} (h : ∀ i, i < 320 → shA A k i = shA A' k i) : iW M A k o = iW M A' k o := by
  cases o with
  | none => rfl
  | some a => exact tW_cong h
theorem PL_cong {M : KM} {A A' : Nat → Int} {g : Nat → Option (Nat → Nat)} (h : ∀ i, 320 ≤ i → A i = A' i) : PL M A g = PL M A' g := by
  unfold PL
  rw [iW_cong (k := 0) (fun i _ => h _ (by omega)), iW_cong (k := 1) (fun i _ => h _ (by omega)), iW_cong (k := 2) (fun i _ => h _ (by omega))]
theorem PR_cong {M : KM} {A A' : Nat → Int} {g g' : Nat → Option (Nat → Nat)} {k : Nat} (hg : ∀ j, j < 3 → j ≠ k → g j = g' j) (h : ∀ j i, j < 3 → j ≠ k → i < 320 → shA A j i = shA A' j i) (hk : k < 3) : PR M A g k = PR M A' g' k := by
  unfold PR
  rcases (show k = 0 ∨ k = 1 ∨ k = 2 by omega) with rfl | rfl | rfl
  · show iW M A 1 (g 1) ++ iW M A 2 (g 2) = iW M A' 1 (g' 1) ++ iW M A' 2 (g' 2)
    rw [hg 1 (by omega) (by omega), hg 2 (by omega) (by omega), iW_cong (k := 1) (fun i hi => h 1 i (by omega) (by omega) hi), iW_cong (k := 2) (fun i hi => h 2 i (by omega) (by omega) hi)]
  · show iW M A 0 (g 0) ++ iW M A 2 (g 2) = iW M A' 0 (g' 0) ++ iW M A' 2 (g' 2)
    rw [hg 0 (by omega) (by omega), hg 2 (by omega) (by omega), iW_cong (k := 0) (fun i hi => h 0 i (by omega) (by omega) hi), iW_cong (k := 2) (fun i hi => h 2 i (by omega) (by omega) hi)]
  · show iW M A 0 (g 0) ++ iW M A 1 (g 1) = iW M A' 0 (g' 0) ++ iW M A' 1 (g' 1)
    rw [hg 0 (by omega) (by omega), hg 1 (by omega) (by omega), iW_cong (k := 0) (fun i hi => h 0 i (by omega) (by omega) hi), iW_cong (k := 1) (fun i hi => h 1 i (by omega) (by omega) hi)]
/-- what always holds of the row -/
def iA (A : Nat → Int) : Prop :=
  (0 ≤ A 0 ∧ A 0 ≤ 6) ∧ (0 ≤ A 1 ∧ A 1 ≤ 8) ∧ (0 ≤ A 2 ∧ A 2 ≤ 24) ∧ (0 ≤ A 3 ∧ A 3 ≤ 4) ∧ (0 ≤ A 4 ∧ A 4 ≤ 6) ∧ (1 ≤ A 5 ∧ A 5 ≤ 30) ∧ (0 ≤ A 6 ∧ A 6 ≤ 100) ∧ (1 ≤ A 7 ∧ A 7 ≤ 5000) ∧ (0 ≤ A 8 ∧ A 8 ≤ 3) ∧
  (∀ j, j < 6 → (0 ≤ A (10 + (3 * j)) ∧ A (10 + (3 * j)) ≤ 1000000) ∧ (0 ≤ A ((10 + (3 * j)) + 1) ∧ A ((10 + (3 * j)) + 1) ≤ 20) ∧ (A ((10 + (3 * j)) + 2) = 0 ∨ A ((10 + (3 * j)) + 2) = 1)) ∧
  (∀ j, j < 8 → 0 ≤ A (30 + j) ∧ A (30 + j) ≤ 100000) ∧
  (∀ j, j < (A 3).toNat → 100 ≤ A (40 + j) ∧ A (40 + j) ≤ 250) ∧
  (∀ i, 50 ≤ i → i < 242 → zR (A i)) ∧
  (∀ j, j < (A 2).toNat → 0 ≤ A ((50 + (8 * j)) + 2) ∧ A ((50 + (8 * j)) + 2) ≤ 20) ∧
  (∀ j, j < (A 2).toNat → -1 ≤ A ((50 + (8 * j)) + 7) ∧ A ((50 + (8 * j)) + 7) ≤ 400) ∧
  (∀ s e, s < 8 → e < 4 → 0 ≤ A ((250 + (6 * s)) + e) ∧ A ((250 + (6 * s)) + e) < 8) ∧
  (∀ s, s < 8 → (A ((250 + (6 * s)) + 4) = 0 ∨ A ((250 + (6 * s)) + 4) = 1) ∧ (A ((250 + (6 * s)) + 5) = 0 ∨ A ((250 + (6 * s)) + 5) = 1)) ∧
  (∀ j, j < 6 → (0 ≤ A (300 + (3 * j)) ∧ A (300 + (3 * j)) ≤ 24) ∧ (0 ≤ A ((300 + (3 * j)) + 1) ∧ A ((300 + (3 * j)) + 1) ≤ 24) ∧ (0 ≤ A ((300 + (3 * j)) + 2) ∧ A ((300 + (3 * j)) + 2) ≤ 999))
theorem iA_cong {A B : Nat → Int} (h : ∀ i, i < 320 → A i = B i) (hi : iA A) : iA B := by
  obtain ⟨h0, h1, h2, h3, h4, h5, h6, h7, h8, hbn, hlt, hpl, hmz, hmd, hmp, hld, hfw, hsh⟩ := hi
  rw [h _ (by omega)] at h0 h1 h2 h3 h4 h5 h6 h7 h8
  rw [h 3 (by omega)] at hpl
  rw [h 2 (by omega)] at hmd hmp
  refine ⟨h0, h1, h2, h3, h4, h5, h6, h7, h8, fun j hj => ?_, fun j hj => ?_, fun j hj => ?_, fun i a b => ?_, fun j hj => ?_, fun j hj => ?_, fun s e a b => ?_, fun s a => ?_, fun j hj => ?_⟩
  · rw [← h _ (by omega), ← h _ (by omega), ← h _ (by omega)]; exact hbn j hj
  · rw [← h _ (by omega)]; exact hlt j hj
  · rw [← h _ (by omega)]; exact hpl j hj
  · rw [← h _ (by omega)]; exact hmz i a b
  · rw [← h _ (by omega)]; exact hmd j hj
  · rw [← h _ (by omega)]; exact hmp j hj
  · rw [← h _ (by omega)]; exact hld s e a b
  · rw [← h _ (by omega), ← h _ (by omega)]; exact hfw s a
  · rw [← h _ (by omega), ← h _ (by omega), ← h _ (by omega)]; exact hsh j hj
theorem iA_fg {A : Nat → Int} (hi : iA A) : ∀ j, j < 6 → 0 ≤ lF 10 3 6 A j ∧ lF 10 3 6 A j ≤ 1000000 := by
  obtain ⟨h0, h1, h2, h3, h4, h5, h6, h7, h8, hbn, hlt, hpl, hmz, hmd, hmp, hld, hfw, hsh⟩ := hi
  intro j hj
  rw [lF_at hj]
  exact (hbn j hj).1
theorem iA_fd {A : Nat → Int} (hi : iA A) : ∀ j, j < 6 → 0 ≤ lF 11 3 6 A j ∧ lF 11 3 6 A j ≤ 20 := by
  obtain ⟨h0, h1, h2, h3, h4, h5, h6, h7, h8, hbn, hlt, hpl, hmz, hmd, hmp, hld, hfw, hsh⟩ := hi
  intro j hj
  rw [lF_at hj, show 11 + 3 * j = (10 + (3 * j)) + 1 by omega]
  exact (hbn j hj).2.1
theorem iA_fu {A : Nat → Int} (hi : iA A) : ∀ j, j < 6 → lF 12 3 6 A j = 0 ∨ lF 12 3 6 A j = 1 := by
  obtain ⟨h0, h1, h2, h3, h4, h5, h6, h7, h8, hbn, hlt, hpl, hmz, hmd, hmp, hld, hfw, hsh⟩ := hi
  intro j hj
  rw [lF_at hj, show 12 + 3 * j = (10 + (3 * j)) + 2 by omega]
  exact (hbn j hj).2.2
theorem iA_lg {A : Nat → Int} (hi : iA A) : ∀ j, j < 8 → 0 ≤ lF 30 1 8 A j ∧ lF 30 1 8 A j ≤ 100000 := by
  obtain ⟨h0, h1, h2, h3, h4, h5, h6, h7, h8, hbn, hlt, hpl, hmz, hmd, hmp, hld, hfw, hsh⟩ := hi
  intro j hj
  rw [lF30 hj]
  exact hlt j hj
theorem iA_F {A : Nat → Int} (hi : iA A) : ∀ j, j < 192 → zR (lF 50 1 192 A j) := by
  obtain ⟨h0, h1, h2, h3, h4, h5, h6, h7, h8, hbn, hlt, hpl, hmz, hmd, hmp, hld, hfw, hsh⟩ := hi
  intro j hj
  rw [lF_at hj, Nat.one_mul]
  exact hmz _ (by omega) (by omega)
theorem iA_ph {A : Nat → Int} (hi : iA A) : ∀ j, j < 4 → j < (A 3).toNat → 100 ≤ lF 40 1 4 A j ∧ lF 40 1 4 A j ≤ 250 := by
  obtain ⟨h0, h1, h2, h3, h4, h5, h6, h7, h8, hbn, hlt, hpl, hmz, hmd, hmp, hld, hfw, hsh⟩ := hi
  intro j hj hp
  rw [lF_at hj, Nat.one_mul]
  exact hpl j hp
theorem iA_d {A : Nat → Int} (hi : iA A) : ∀ j, j < (A 2).toNat → 0 ≤ lF 50 1 192 A (j * 8 + 2) ∧ lF 50 1 192 A (j * 8 + 2) ≤ 20 := by
  obtain ⟨h0, h1, h2, h3, h4, h5, h6, h7, h8, hbn, hlt, hpl, hmz, hmd, hmp, hld, hfw, hsh⟩ := hi
  intro j hj
  rw [lF50 (by omega) (by omega)]
  exact hmd j hj
theorem iA_dl {A : Nat → Int} (hi : iA A) : ∀ j, j < 32 → 0 ≤ lD A j ∧ lD A j < 8 := by
  obtain ⟨h0, h1, h2, h3, h4, h5, h6, h7, h8, hbn, hlt, hpl, hmz, hmd, hmp, hld, hfw, hsh⟩ := hi
  intro j hj
  rw [lD_at hj]
  exact hld (j / 4) (j % 4) (by omega) (by omega)
theorem iA_df {A : Nat → Int} (hi : iA A) : ∀ j, j < 8 → lF 254 6 8 A j = 0 ∨ lF 254 6 8 A j = 1 := by
  obtain ⟨h0, h1, h2, h3, h4, h5, h6, h7, h8, hbn, hlt, hpl, hmz, hmd, hmp, hld, hfw, hsh⟩ := hi
  intro j hj
  rw [lF254 hj]
  exact (hfw j hj).1
theorem iA_dw {A : Nat → Int} (hi : iA A) : ∀ j, j < 8 → lF 255 6 8 A j = 0 ∨ lF 255 6 8 A j = 1 := by
  obtain ⟨h0, h1, h2, h3, h4, h5, h6, h7, h8, hbn, hlt, hpl, hmz, hmd, hmp, hld, hfw, hsh⟩ := hi
  intro j hj
  rw [lF255 hj]
  exact (hfw j hj).2
theorem iA_s {A : Nat → Int} (hi : iA A) : ∀ j, j < 6 → 0 ≤ lF 300 3 6 A j ∧ lF 300 3 6 A j ≤ 24 ∧ 0 ≤ lF 301 3 6 A j ∧ lF 301 3 6 A j ≤ 24 ∧ 0 ≤ lF 302 3 6 A j ∧ lF 302 3 6 A j ≤ 999 := by
  obtain ⟨h0, h1, h2, h3, h4, h5, h6, h7, h8, hbn, hlt, hpl, hmz, hmd, hmp, hld, hfw, hsh⟩ := hi
  intro j hj
  rw [lF_at hj, lF_at hj, lF_at hj, show 301 + 3 * j = (300 + (3 * j)) + 1 by omega, show 302 + 3 * j = (300 + (3 * j)) + 2 by omega]
  have := hsh j hj
  omega
theorem zU_e {f : Nat → Int} {k i : Nat} {v : Int} (h : i = k) : zU f k v i = v := by
  rw [h, zU_s]
theorem lF_one {o st n : Nat} {A B : Nat → Int} {k : Nat} {v : Int} (hk : k < n) (h1 : B (o + st * k) = v) (h2 : ∀ j, j < n → j ≠ k → B (o + st * j) = A (o + st * j)) : lF o st n B = zU (lF o st n A) k v := by
  funext j
  by_cases e : j = k
  · subst e
    rw [lF_at hk, zU_s, h1]
  · rw [zU_n _ _ e]
    by_cases c : j < n
    · rw [lF_at c, lF_at c, h2 j c e]
    · unfold lF
      rw [if_neg c, if_neg c]
theorem lD_one {A B : Nat → Int} {k : Nat} {v : Int} (hk : k < 32) (h1 : B (250 + 6 * (k / 4) + k % 4) = v) (h2 : ∀ j, j < 32 → j ≠ k → B (250 + 6 * (j / 4) + j % 4) = A (250 + 6 * (j / 4) + j % 4)) : lD B = zU (lD A) k v := by
  funext j
  by_cases e : j = k
  · subst e
    rw [lD_at hk, zU_s, h1]
  · rw [zU_n _ _ e]
    by_cases c : j < 32
    · rw [lD_at c, lD_at c, h2 j c e]
    · unfold lD
      rw [if_neg c, if_neg c]
/-- one number is written -/
def okW (A : Nat → Int) (i : Nat) (v : Int) : Prop :=
  (i = 0 → 0 ≤ v ∧ v ≤ 6) ∧ (i = 1 → 0 ≤ v ∧ v ≤ 8) ∧ (i = 2 → (0 ≤ v ∧ v ≤ 24) ∧ ∀ j, j < v.toNat → (0 ≤ A ((50 + (8 * j)) + 2) ∧ A ((50 + (8 * j)) + 2) ≤ 20) ∧ (-1 ≤ A ((50 + (8 * j)) + 7) ∧ A ((50 + (8 * j)) + 7) ≤ 400)) ∧
  (i = 3 → (0 ≤ v ∧ v ≤ 4) ∧ ∀ j, j < v.toNat → 100 ≤ A (40 + j) ∧ A (40 + j) ≤ 250) ∧ (i = 4 → 0 ≤ v ∧ v ≤ 6) ∧ (i = 5 → 1 ≤ v ∧ v ≤ 30) ∧ (i = 6 → 0 ≤ v ∧ v ≤ 100) ∧ (i = 7 → 1 ≤ v ∧ v ≤ 5000) ∧ (i = 8 → 0 ≤ v ∧ v ≤ 3) ∧
  (∀ j, j < 6 → (10 + (3 * j) = i → 0 ≤ v ∧ v ≤ 1000000) ∧ ((10 + (3 * j)) + 1 = i → 0 ≤ v ∧ v ≤ 20) ∧ ((10 + (3 * j)) + 2 = i → v = 0 ∨ v = 1)) ∧
  (∀ j, j < 8 → 30 + j = i → 0 ≤ v ∧ v ≤ 100000) ∧ (∀ j, j < 4 → 40 + j = i → 100 ≤ v ∧ v ≤ 250) ∧ (50 ≤ i → i < 242 → zR v) ∧
  (∀ j, j < 24 → (50 + (8 * j)) + 2 = i → 0 ≤ v ∧ v ≤ 20) ∧ (∀ j, j < 24 → (50 + (8 * j)) + 7 = i → -1 ≤ v ∧ v ≤ 400) ∧
  (∀ s e, s < 8 → e < 4 → (250 + (6 * s)) + e = i → 0 ≤ v ∧ v < 8) ∧ (∀ s, s < 8 → ((250 + (6 * s)) + 4 = i ∨ (250 + (6 * s)) + 5 = i) → v = 0 ∨ v = 1) ∧
  (∀ j, j < 6 → (300 + (3 * j) = i → 0 ≤ v ∧ v ≤ 24) ∧ ((300 + (3 * j)) + 1 = i → 0 ≤ v ∧ v ≤ 24) ∧ ((300 + (3 * j)) + 2 = i → 0 ≤ v ∧ v ≤ 999))
theorem zU_p {A : Nat → Int} {i k : Nat} {v : Int} {P : Int → Prop} (h : P (A k)) (h2 : k = i → P v) : P (zU A i v k) := by
  by_cases e : k = i
  · rw [zU_e e]; exact h2 e
  · rw [zU_n _ _ e]; exact h
theorem iA_set {A : Nat → Int} {i : Nat} {v : Int} (hi : iA A) (hw : okW A i v) : iA (zU A i v) := by
  obtain ⟨h0, h1, h2, h3, h4, h5, h6, h7, h8, hbn, hlt, hpl, hmz, hmd, hmp, hld, hfw, hsh⟩ := hi
  obtain ⟨w0, w1, w2, w3, w4, w5, w6, w7, w8, wbn, wlt, wpl, wmz, wmd, wmp, wld, wfw, wsh⟩ := hw
  refine ⟨zU_p (P := fun x => 0 ≤ x ∧ x ≤ 6) h0 (fun e => w0 e.symm), zU_p (P := fun x => 0 ≤ x ∧ x ≤ 8) h1 (fun e => w1 e.symm), zU_p (P := fun x => 0 ≤ x ∧ x ≤ 24) h2 (fun e => (w2 e.symm).1), zU_p (P := fun x => 0 ≤ x ∧ x ≤ 4) h3 (fun e => (w3 e.symm).1), zU_p (P := fun x => 0 ≤ x ∧ x ≤ 6) h4 (fun e => w4 e.symm), zU_p (P := fun x => 1 ≤ x ∧ x ≤ 30) h5 (fun e => w5 e.symm), zU_p (P := fun x => 0 ≤ x ∧ x ≤ 100) h6 (fun e => w6 e.symm), zU_p (P := fun x => 1 ≤ x ∧ x ≤ 5000) h7 (fun e => w7 e.symm), zU_p (P := fun x => 0 ≤ x ∧ x ≤ 3) h8 (fun e => w8 e.symm), fun j hj => ⟨?_, ?_, ?_⟩, fun j hj => ?_, fun j hj => ?_, fun k a b => ?_, fun j hj => ?_, fun j hj => ?_, fun s e a b => ?_, fun s a => ⟨?_, ?_⟩, fun j hj => ⟨?_, ?_, ?_⟩⟩
  · exact zU_p (P := fun x => 0 ≤ x ∧ x ≤ 1000000) (hbn j hj).1 (wbn j hj).1
  · exact zU_p (P := fun x => 0 ≤ x ∧ x ≤ 20) (hbn j hj).2.1 (wbn j hj).2.1
  · exact zU_p (P := fun x => x = 0 ∨ x = 1) (hbn j hj).2.2 (wbn j hj).2.2
  · exact zU_p (P := fun x => 0 ≤ x ∧ x ≤ 100000) (hlt j hj) (wlt j hj)
  · by_cases e : i = 3
    · subst e
      rw [zU_s] at hj
      rw [zU_n _ _ (by omega)]
      exact (w3 rfl).2 j hj
    · rw [zU_n _ _ (fun q => e q.symm)] at hj
      exact zU_p (P := fun x => 100 ≤ x ∧ x ≤ 250) (hpl j hj) (wpl j (by omega))
  · exact zU_p (P := zR) (hmz k a b) (fun e => wmz (by omega) (by omega))
  · by_cases e : i = 2
    · subst e
      rw [zU_s] at hj
      rw [zU_n _ _ (by omega)]
      exact ((w2 rfl).2 j hj).1
    · rw [zU_n _ _ (fun q => e q.symm)] at hj
      exact zU_p (P := fun x => 0 ≤ x ∧ x ≤ 20) (hmd j hj) (wmd j (by omega))
  · by_cases e : i = 2
    · subst e
      rw [zU_s] at hj
      rw [zU_n _ _ (by omega)]
      exact ((w2 rfl).2 j hj).2
    · rw [zU_n _ _ (fun q => e q.symm)] at hj
      exact zU_p (P := fun x => -1 ≤ x ∧ x ≤ 400) (hmp j hj) (wmp j (by omega))
  · exact zU_p (P := fun x => 0 ≤ x ∧ x < 8) (hld s e a b) (wld s e a b)
  · exact zU_p (P := fun x => x = 0 ∨ x = 1) (hfw s a).1 (fun q => wfw s a (Or.inl q))
  · exact zU_p (P := fun x => x = 0 ∨ x = 1) (hfw s a).2 (fun q => wfw s a (Or.inr q))
  · exact zU_p (P := fun x => 0 ≤ x ∧ x ≤ 24) (hsh j hj).1 (wsh j hj).1
  · exact zU_p (P := fun x => 0 ≤ x ∧ x ≤ 24) (hsh j hj).2.1 (wsh j hj).2.1
  · exact zU_p (P := fun x => 0 ≤ x ∧ x ≤ 999) (hsh j hj).2.2 (wsh j hj).2.2
/-- what holds between the calls -/
def lG (A hs : Nat → Int) (iM : Nat → Option Nat) (g : Nat → Option (Nat → Nat)) (kn : Int) (wf : Nat → Int) (m : Nat → Nat → Int) : Prop :=
  iA A ∧ (kn = 0 ∨ (kn = 1 ∧ tOK (A 4).toNat (lF 300 3 6 A) (lF 301 3 6 A) (lF 302 3 6 A) (A 8).toNat wf m 25 1)) ∧
  ∀ k, k < 3 → (hs k = 1 ∧ (∃ a, g k = some a ∧ iM k = some (a 0)) ∧ iA (shA A k)) ∨ (hs k = 0 ∧ g k = none ∧ iM k = none)
section LAW
variable {M : KM} {E : KE} {nL cells slots d mc ms : Nat} {lv : List (Nat × Value)} {st : List Value} {cc : ByteArray} {own : String}
theorem va_D1_nodup {A : Nat → Prop} {ws : va_W} (h : va_D A ws) : (ws.map Prod.fst).Nodup := by
  refine List.pairwise_iff_getElem.mpr (fun i j hi hj hij he => ?_)
  rw [List.length_map] at hi hj
  rw [List.getElem_map, List.getElem_map] at he
  have := h.1 i j _ _ (List.getElem?_eq_getElem hi) (List.getElem?_eq_getElem hj) he
  omega
theorem va_D_perm {A : Nat → Prop} {ws ws' : va_W} (hp : ws.Perm ws') (h : va_D A ws) : va_D A ws' := by
  have h1 : (ws'.map Prod.fst).Nodup := (hp.map Prod.fst).nodup_iff.mp (va_D1_nodup h)
  refine ⟨fun i j p q hi hj he => ?_, fun k q hk => ?_⟩
  · obtain ⟨li, ei⟩ := List.getElem?_eq_some_iff.mp hi
    obtain ⟨lj, ej⟩ := List.getElem?_eq_some_iff.mp hj
    have h2 := List.pairwise_iff_getElem.mp h1
    rcases Nat.lt_trichotomy i j with c | c | c
    · refine absurd ?_ (h2 i j (by rw [List.length_map]; exact li) (by rw [List.length_map]; exact lj) c)
      rw [List.getElem_map, List.getElem_map, ei, ej]; exact he
    · exact c
    · refine absurd ?_ (h2 j i (by rw [List.length_map]; exact lj) (by rw [List.length_map]; exact li) c)
      rw [List.getElem_map, List.getElem_map, ei, ej]; exact he.symm
  · obtain ⟨i, hi⟩ := List.getElem?_of_mem (hp.mem_iff.mpr (List.mem_of_getElem? hk))
    exact h.2 i q hi
theorem z_perm {pc : Nat} {ws ws' : va_W} (hp : ws.Perm ws') (k : kV M E nL cells slots ws' lv pc st) : kV M E nL cells slots ws lv pc st := by
  obtain ⟨p, e, R, s, m, args, below, meth, c, A, Q⟩ := E
  intro H locs ls hP hD hS hl
  refine k H locs ls (fun i q hq => ?_) (va_D_perm hp hD) hS hl
  obtain ⟨j, hj⟩ := List.getElem?_of_mem (hp.mem_iff.mpr (List.mem_of_getElem? hq))
  exact hP j q hj
set_option maxHeartbeats 4000000 in
/-- a call that leaves the cells pl at the end alone -/
theorem z_callTi {S : Type} {pc index maxL n d' mc' ms' ci b : Nat} {y : MethodName} {bytes : ByteArray} {rt : FieldType} {X pl wc wr : va_W} {post : Int → S → Prop} {w' : S → va_W} {fs As stk : List Value} (rp : Nat) (isC isR pm : List Nat) (ws' : S → va_W) (g : kG M E nL d mc ms cc own) (hM : kCI M y bytes maxL rt d' mc' ms' wc (.ref b :: As) post w') (hY : kYV y bytes maxL (some rt) ci n) (hlk : Cond.methodLink own index y ∈ wsA) (hd : decode cc pc = .ok (.invokevirtual index, 3)) (hdd : d' + 1 ≤ d) (hc : cells + mc' ≤ mc) (hs : slots + ms' ≤ ms) (hs8 : (st.map fun v => v.category).sum ≤ 8) (hC : isC.map (fun i => X[i]?) = wc.map some) (hR : isR.map (fun i => X[i]?) = wr.map some) (hndC : va_nd isC = true) (hnd : va_nd isR = true) (hdis : ∀ i ∈ isR, i ∉ isC) (hrec : wc[rp]? = some (cO ci b fs)) (hpm : ∀ u, pm.map (fun i => (wr ++ w' u)[i]?) = (ws' u).map some) (hndp : va_nd pm = true) (hn : As.length = n) (hstk : stk = As.reverse ++ .ref b :: st)
    (kk : ∀ (z : Int) (u : S), post z u → kV M E nL (cells + mc') (slots + ms') (ws' u ++ pl) lv (pc + 3) (.int (zI z) :: st)) : kV M E nL cells slots (X ++ pl) lv pc stk := by
  subst hstk
  obtain ⟨p, e, R, s, m, args, below, meth, c, A, Q⟩ := E
  obtain ⟨hx, hb, hml, hown, hts, hK, hA, hX, hR1, hR2, hR3, hR4⟩ := g
  intro H locs ls hP hD hS hl
  have hPX : va_P M.1 vwCl X H := fun k q h => hP k q (by rw [List.getElem?_append_left (List.getElem?_eq_some_iff.mp h).1]; exact h)
  have hDX : va_D A X := ⟨fun i j x y hi hj he => hD.1 i j x y (by rw [List.getElem?_append_left (List.getElem?_eq_some_iff.mp hi).1]; exact hi) (by rw [List.getElem?_append_left (List.getElem?_eq_some_iff.mp hj).1]; exact hj) he, fun k q h => hD.2 k q (by rw [List.getElem?_append_left (List.getElem?_eq_some_iff.mp h).1]; exact h)⟩
  have hPc := hPX.subm isC hC
  have hDc := hDX.sub isC hndC hC
  have hFc := va_free (wc := wc) hDX hS hA isC hC
  have hG : GoodIn wsA (.code y bytes maxL (some rt) :: wsA) := wsL_in hY.1
  obtain ⟨y1, y2, y3, y4, y5, y6, T, N, y7⟩ := hY
  have hcb : CallB R s args own index y bytes maxL (some rt) (.code y bytes maxL (some rt) :: wsA) (rmD d' mc' ms') mc' ms' n := callB_of n hts hG rfl rfl rfl (hts _ y4) (hts _ hlk) y5 ⟨by show d' + 1 ≤ R.frames; omega, by show 8 + (maxL + 11) + 35 * d' ≤ R.locals; omega⟩
  refine va_calli (va_runV (As := As) (rest := st) ⟨hx, hb, hml, hown, hts⟩ (hM H.size) ⟨hcb, hts _ y2, hts _ y3⟩ ⟨kPre.blind, va_recv hK hPc y7 hrec, fun U hU hW => ⟨rfl, by rw [hU], by rw [hU]; exact hPc, va_K.moved hW.alike hK, hDc.weaken (fun _ _ _ _ => trivial), hX.warm hW⟩⟩ rfl hn hl.1 rfl (lv_room hs8) hd ⟨by omega, by omega⟩) hS (fun q _ h => hFc q h) hFc (fun r u t H1 locs1 ht hvm hw hB hz1 hk1 hS1 => ?_)
  obtain ⟨z, rfl, hp⟩ := hw
  obtain ⟨hP1, hD1⟩ := hB
  rw [ht] at hP1
  obtain ⟨hP2, hD2⟩ := va_joinQ (wr := wr) (w1 := w' u) hP hD isC isR hC hR hnd hdis hk1 hFc hP1 hD1
  exact kk z u hp H1 locs1 ls (hP2.part pm (hpm u)) (hD2.part pm hndp (hpm u)) hS1 hl
end LAW
