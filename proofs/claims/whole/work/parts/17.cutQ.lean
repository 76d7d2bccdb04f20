theorem scn_neg {g : Nat → Int} {off b0 y0 : Int} (ho : 0 ≤ off) : ∀ {m : Nat}, (scn g off b0 y0 m).2 < 0 → (scn g off b0 y0 m).2 = y0
  | 0, _ => rfl
  | m + 1, h => by
    have ih := scn_neg (g := g) (b0 := b0) (y0 := y0) ho (m := m)
    have e : scn g off b0 y0 (m + 1) = if (scn g off b0 y0 m).1 < g (m + 1) then (g (m + 1), off + ((m : Int) + 1)) else scn g off b0 y0 m := rfl
    rw [e] at h ⊢
    split at h
    · have : off + ((m : Int) + 1) < 0 := h
      omega
    · rename_i c
      rw [if_neg c]
      exact ih h
theorem up_yes {n : Nat} {sw sh sv wf : Nat → Int} {saw w h : Nat} {i b : Int} (hi : 1 ≤ i) (hb : b = (upS n sw sh sv wf saw w h (i.toNat - 1)).1) (hc : b < gU wf saw w h i.toNat) : upS n sw sh sv wf saw w h ((i + 1).toNat - 1) = (gU wf saw w h i.toNat, i) := by
  rw [show (i + 1).toNat - 1 = (i.toNat - 1) + 1 by omega]
  have e : upS n sw sh sv wf saw w h (i.toNat - 1 + 1) = if (upS n sw sh sv wf saw w h (i.toNat - 1)).1 < gU wf saw w h (i.toNat - 1 + 1) then (gU wf saw w h (i.toNat - 1 + 1), 0 + (((i.toNat - 1 : Nat) : Int) + 1)) else upS n sw sh sv wf saw w h (i.toNat - 1) := rfl
  rw [e, ← hb, show i.toNat - 1 + 1 = i.toNat by omega, if_pos hc, show (0 : Int) + (((i.toNat - 1 : Nat) : Int) + 1) = i by omega]
theorem up_no {n : Nat} {sw sh sv wf : Nat → Int} {saw w h : Nat} {i b : Int} (hi : 1 ≤ i) (hb : b = (upS n sw sh sv wf saw w h (i.toNat - 1)).1) (hc : ¬ b < gU wf saw w h i.toNat) : upS n sw sh sv wf saw w h ((i + 1).toNat - 1) = upS n sw sh sv wf saw w h (i.toNat - 1) := by
  rw [show (i + 1).toNat - 1 = (i.toNat - 1) + 1 by omega]
  have e : upS n sw sh sv wf saw w h (i.toNat - 1 + 1) = if (upS n sw sh sv wf saw w h (i.toNat - 1)).1 < gU wf saw w h (i.toNat - 1 + 1) then (gU wf saw w h (i.toNat - 1 + 1), 0 + (((i.toNat - 1 : Nat) : Int) + 1)) else upS n sw sh sv wf saw w h (i.toNat - 1) := rfl
  rw [e, ← hb, show i.toNat - 1 + 1 = i.toNat by omega, if_neg hc]
theorem lv_yes {n : Nat} {sw sh sv wf : Nat → Int} {saw w h : Nat} {i b : Int} (hi : 1 ≤ i) (hb : b = (lvS n sw sh sv wf saw w h (i.toNat - 1)).1) (hc : b < gL wf saw w h i.toNat) : lvS n sw sh sv wf saw w h ((i + 1).toNat - 1) = (gL wf saw w h i.toNat, 100 + i) := by
  rw [show (i + 1).toNat - 1 = (i.toNat - 1) + 1 by omega]
  have e : lvS n sw sh sv wf saw w h (i.toNat - 1 + 1) = if (lvS n sw sh sv wf saw w h (i.toNat - 1)).1 < gL wf saw w h (i.toNat - 1 + 1) then (gL wf saw w h (i.toNat - 1 + 1), 100 + (((i.toNat - 1 : Nat) : Int) + 1)) else lvS n sw sh sv wf saw w h (i.toNat - 1) := rfl
  rw [e, ← hb, show i.toNat - 1 + 1 = i.toNat by omega, if_pos hc, show (100 : Int) + (((i.toNat - 1 : Nat) : Int) + 1) = 100 + i by omega]
theorem lv_no {n : Nat} {sw sh sv wf : Nat → Int} {saw w h : Nat} {i b : Int} (hi : 1 ≤ i) (hb : b = (lvS n sw sh sv wf saw w h (i.toNat - 1)).1) (hc : ¬ b < gL wf saw w h i.toNat) : lvS n sw sh sv wf saw w h ((i + 1).toNat - 1) = lvS n sw sh sv wf saw w h (i.toNat - 1) := by
  rw [show (i + 1).toNat - 1 = (i.toNat - 1) + 1 by omega]
  have e : lvS n sw sh sv wf saw w h (i.toNat - 1 + 1) = if (lvS n sw sh sv wf saw w h (i.toNat - 1)).1 < gL wf saw w h (i.toNat - 1 + 1) then (gL wf saw w h (i.toNat - 1 + 1), 100 + (((i.toNat - 1 : Nat) : Int) + 1)) else lvS n sw sh sv wf saw w h (i.toNat - 1) := rfl
  rw [e, ← hb, show i.toNat - 1 + 1 = i.toNat by omega, if_neg hc]
/-- what is best so far stays in bounds -/
theorem up_b {n : Nat} {sw sh sv wf : Nat → Int} {saw w h k : Nat} {B : Int} (hB : 999 ≤ 2 * B) (hs : ∀ j, j < n → 0 ≤ sv j ∧ sv j ≤ 999) (hw : ∀ x y, 1 ≤ x → x ≤ w → 1 ≤ y → y ≤ h → (x < w ∨ y < h) → 0 ≤ wf (x * 25 + y) ∧ wf (x * 25 + y) ≤ B) (hh : 1 ≤ h) (hk : k ≤ w - saw - 1) : 0 ≤ (upS n sw sh sv wf saw w h k).1 ∧ (upS n sw sh sv wf saw w h k).1 ≤ 2 * B := by
  have h0 := w0B_b (n := n) (sw := sw) (sh := sh) (sv := sv) (w := w) (h := h) hs
  refine scn_b ⟨h0.1, by omega⟩ (fun j a b => ?_)
  unfold gU
  have h1 := hw j h a (by omega) hh (Nat.le_refl h) (Or.inl (by omega))
  have h2 := hw (w - saw - j) h (by omega) (by omega) hh (Nat.le_refl h) (Or.inl (by omega))
  omega
theorem lv_b {n : Nat} {sw sh sv wf : Nat → Int} {saw w h k : Nat} {B : Int} (hB : 999 ≤ 2 * B) (hs : ∀ j, j < n → 0 ≤ sv j ∧ sv j ≤ 999) (hw : ∀ x y, 1 ≤ x → x ≤ w → 1 ≤ y → y ≤ h → (x < w ∨ y < h) → 0 ≤ wf (x * 25 + y) ∧ wf (x * 25 + y) ≤ B) (hw1 : 1 ≤ w) (hh : 1 ≤ h) (hk : k ≤ h - saw - 1) : 0 ≤ (lvS n sw sh sv wf saw w h k).1 ∧ (lvS n sw sh sv wf saw w h k).1 ≤ 2 * B := by
  refine scn_b (up_b hB hs hw hh (Nat.le_refl _)) (fun j a b => ?_)
  unfold gL
  have h1 := hw w j hw1 (Nat.le_refl w) a (by omega) (Or.inr (by omega))
  have h2 := hw w (h - saw - j) hw1 (Nat.le_refl w) (by omega) (by omega) (Or.inr (by omega))
  omega
theorem cm_rel {mk : Nat → Int} {k : Nat} {s w h y f1 f2 : Int} (hr : rlY s w h y f1 f2) (hs : 0 ≤ s) (hw : 1 ≤ w ∧ w ≤ 24) (hh : 1 ≤ h ∧ h ≤ 24) (hy : ¬ y < 0) : cm mk k s.toNat w.toNat h.toNat y = mk f1.toNat + mk f2.toNat + (if k = 6 then 1 else 0) := by
  unfold cm
  rw [if_neg hy]
  rcases hr with ⟨a, -, -⟩ | ⟨a, b, c, d⟩ | ⟨a, b, c, d⟩
  · exact absurd a hy
  · rw [if_pos (by omega), show f1.toNat = y.toNat * 25 + h.toNat by omega, show f2.toNat = (w.toNat - s.toNat - y.toNat) * 25 + h.toNat by omega]
  · rw [if_neg (by omega), show f1.toNat = w.toNat * 25 + (y.toNat - 100) by omega, show f2.toNat = w.toNat * 25 + (h.toNat - s.toNat - (y.toNat - 100)) by omega]
theorem cm_whole {mk : Nat → Int} {k n : Nat} {sw sh sv wf : Nat → Int} {s w h : Nat} (hk : k < 7) (hy : (fin n sw sh sv wf s w h).2 < 0) : cm mk k s w h (fin n sw sh sv wf s w h).2 = if (k : Int) = dI sw sh sv w h n then 1 else 0 := by
  have h1 : (fin n sw sh sv wf s w h).2 = (upS n sw sh sv wf s w h (w - s - 1)).2 := scn_neg (by omega) hy
  rw [h1] at hy
  have h2 : (upS n sw sh sv wf s w h (w - s - 1)).2 = w0Y n sw sh sv w h := scn_neg (by omega) hy
  rw [h1]
  unfold cm
  rw [if_pos hy, h2]
  unfold w0Y
  have hl := dI_lo sw sh sv w h n
  by_cases c : dI sw sh sv w h n < 0
  · rw [if_pos c, if_neg (by omega), if_neg (by omega)]
  · rw [if_neg c]
    by_cases e : (k : Int) = dI sw sh sv w h n
    · rw [if_pos e, if_pos (by omega)]
    · rw [if_neg e, if_neg (by omega)]
theorem rlY_0 {n : Nat} {sw sh sv : Nat → Int} {w h : Nat} {s w' h' : Int} : rlY s w' h' (w0Y n sw sh sv w h) (-1) (-1) := by
  refine Or.inl ⟨?_, rfl, rfl⟩
  unfold w0Y
  split <;> omega
/-! the whole table -/
theorem scn_rg {g : Nat → Int} {off b0 y0 : Int} : ∀ {m : Nat}, (scn g off b0 y0 m).2 = y0 ∨ (off + 1 ≤ (scn g off b0 y0 m).2 ∧ (scn g off b0 y0 m).2 ≤ off + m)
  | 0 => Or.inl rfl
  | m + 1 => by
    have ih := scn_rg (g := g) (off := off) (b0 := b0) (y0 := y0) (m := m)
    have e : scn g off b0 y0 (m + 1) = if (scn g off b0 y0 m).1 < g (m + 1) then (g (m + 1), off + ((m : Int) + 1)) else scn g off b0 y0 m := rfl
    rw [e]
    split
    · right
      show off + 1 ≤ off + ((m : Int) + 1) ∧ off + ((m : Int) + 1) ≤ off + ((m + 1 : Nat) : Int)
      omega
    · rcases ih with h | h
      · exact Or.inl h
      · exact Or.inr ⟨h.1, by omega⟩
theorem fin_rg {n : Nat} {sw sh sv wf : Nat → Int} {s w h : Nat} : (fin n sw sh sv wf s w h).2 < 0 ∨ (1 ≤ (fin n sw sh sv wf s w h).2 ∧ (fin n sw sh sv wf s w h).2 + s < w ∧ (fin n sw sh sv wf s w h).2 ≤ w) ∨ (101 ≤ (fin n sw sh sv wf s w h).2 ∧ (fin n sw sh sv wf s w h).2 - 100 + s < h) := by
  have h1 := scn_rg (g := gL wf s w h) (off := 100) (b0 := (upS n sw sh sv wf s w h (w - s - 1)).1) (y0 := (upS n sw sh sv wf s w h (w - s - 1)).2) (m := h - s - 1)
  have h2 := scn_rg (g := gU wf s w h) (off := 0) (b0 := w0B n sw sh sv w h) (y0 := w0Y n sw sh sv w h) (m := w - s - 1)
  have h3 : w0Y n sw sh sv w h < 0 := by
    have := dI_lo sw sh sv w h n
    unfold w0Y
    split <;> omega
  have e1 : (fin n sw sh sv wf s w h).2 = (scn (gL wf s w h) 100 (upS n sw sh sv wf s w h (w - s - 1)).1 (upS n sw sh sv wf s w h (w - s - 1)).2 (h - s - 1)).2 := rfl
  have e2 : (upS n sw sh sv wf s w h (w - s - 1)).2 = (scn (gU wf s w h) 0 (w0B n sw sh sv w h) (w0Y n sw sh sv w h) (w - s - 1)).2 := rfl
  rw [← e1] at h1
  rw [← e2] at h2
  omega
theorem cm_cong {mk mk' : Nat → Int} {k s w h : Nat} {y : Int} (hw : w ≤ 24) (hy : y < 0 ∨ (1 ≤ y ∧ y + s < w ∧ y ≤ w) ∨ (101 ≤ y ∧ y - 100 + s < h)) (h1 : ∀ j, 1 ≤ j → j < w → mk (j * 25 + h) = mk' (j * 25 + h)) (h2 : ∀ j, 1 ≤ j → j < h → mk (w * 25 + j) = mk' (w * 25 + j)) : cm mk k s w h y = cm mk' k s w h y := by
  unfold cm
  split
  · rfl
  · split
    · rw [h1 y.toNat (by omega) (by omega), h1 (w - s - y.toNat) (by omega) (by omega)]
    · rw [h2 (y.toNat - 100) (by omega) (by omega), h2 (h - s - (y.toNat - 100)) (by omega) (by omega)]
def tOK (n : Nat) (sw sh sv : Nat → Int) (s : Nat) (wf : Nat → Int) (m : Nat → Nat → Int) (w h : Nat) : Prop :=
  ∀ x y, 1 ≤ x → x ≤ 24 → 1 ≤ y → y ≤ 24 → (x < w ∨ (x = w ∧ y < h)) → wf (x * 25 + y) = (fin n sw sh sv wf s x y).1 ∧ (∀ i, i < 7 → m i (x * 25 + y) = cm (m i) i s x y (fin n sw sh sv wf s x y).2) ∧ 0 ≤ wf (x * 25 + y) ∧ wf (x * 25 + y) ≤ ((999 * (x * y) : Nat) : Int)
theorem fin_b {n : Nat} {sw sh sv wf : Nat → Int} {s w h : Nat} (hs : ∀ j, j < n → 0 ≤ sv j ∧ sv j ≤ 999) (hw : ∀ x y, 1 ≤ x → x ≤ w → 1 ≤ y → y ≤ h → (x < w ∨ y < h) → 0 ≤ wf (x * 25 + y) ∧ wf (x * 25 + y) ≤ ((999 * (x * y) : Nat) : Int)) (hw1 : 1 ≤ w) (hh : 1 ≤ h) : 0 ≤ (fin n sw sh sv wf s w h).1 ∧ (fin n sw sh sv wf s w h).1 ≤ ((999 * (w * h) : Nat) : Int) := by
  have h0 := w0B_b (n := n) (sw := sw) (sh := sh) (sv := sv) (w := w) (h := h) hs
  have hwh : 1 ≤ w * h := Nat.mul_le_mul hw1 hh
  have hu : 0 ≤ (upS n sw sh sv wf s w h (w - s - 1)).1 ∧ (upS n sw sh sv wf s w h (w - s - 1)).1 ≤ ((999 * (w * h) : Nat) : Int) := by
    refine scn_b ⟨h0.1, by omega⟩ (fun j a b => ?_)
    unfold gU
    have h1 := hw j h a (by omega) hh (Nat.le_refl h) (Or.inl (by omega))
    have h2 := hw (w - s - j) h (by omega) (by omega) hh (Nat.le_refl h) (Or.inl (by omega))
    have h3 : j * h + (w - s - j) * h ≤ w * h := by
      rw [← Nat.add_mul]
      exact Nat.mul_le_mul_right h (by omega)
    omega
  refine scn_b hu (fun j a b => ?_)
  unfold gL
  have h1 := hw w j hw1 (Nat.le_refl w) a (by omega) (Or.inr (by omega))
  have h2 := hw w (h - s - j) hw1 (Nat.le_refl w) (by omega) (by omega) (Or.inr (by omega))
  have h3 : w * j + w * (h - s - j) ≤ w * h := by
    rw [← Nat.mul_add]
    exact Nat.mul_le_mul_left w (by omega)
  omega
theorem tOK_B {n : Nat} {sw sh sv : Nat → Int} {s : Nat} {wf : Nat → Int} {m : Nat → Nat → Int} {w h : Nat} (t : tOK n sw sh sv s wf m w h) (hw : w ≤ 24) (hh : h ≤ 24) : ∀ x y, 1 ≤ x → x ≤ w → 1 ≤ y → y ≤ h → (x < w ∨ y < h) → 0 ≤ wf (x * 25 + y) ∧ wf (x * 25 + y) ≤ ((999 * (x * y) : Nat) : Int) := by
  intro x y a b c d e
  exact (t x y a (by omega) c (by omega) (by omega)).2.2
theorem tOK_600 {n : Nat} {sw sh sv : Nat → Int} {s : Nat} {wf : Nat → Int} {m : Nat → Nat → Int} {w h : Nat} (t : tOK n sw sh sv s wf m w h) (hw : w ≤ 24) (hh : h ≤ 24) : ∀ x y, 1 ≤ x → x ≤ w → 1 ≤ y → y ≤ h → (x < w ∨ y < h) → 0 ≤ wf (x * 25 + y) ∧ wf (x * 25 + y) ≤ 600000 := by
  intro x y a b c d e
  have h1 := tOK_B t hw hh x y a b c d e
  have h2 : x * y ≤ 24 * 24 := Nat.mul_le_mul (by omega) (by omega)
  omega
theorem tOK_step {n : Nat} {sw sh sv : Nat → Int} {s : Nat} {wf : Nat → Int} {m m' : Nat → Nat → Int} {w h : Nat} (t : tOK n sw sh sv s wf m w h) (hs : ∀ j, j < n → 0 ≤ sv j ∧ sv j ≤ 999) (hw : 1 ≤ w ∧ w ≤ 24) (hh : 1 ≤ h ∧ h ≤ 24) (hm : ∀ i, i < 7 → m' i = zU (m i) (w * 25 + h) (cm (m i) i s w h (fin n sw sh sv wf s w h).2)) : tOK n sw sh sv s (zU wf (w * 25 + h) (fin n sw sh sv wf s w h).1) m' w (h + 1) := by
  have ne : ∀ x y, 1 ≤ y → y ≤ 24 → (x < w ∨ (x = w ∧ y < h)) → x * 25 + y ≠ w * 25 + h := fun x y a b c => by omega
  have fe : ∀ x y, 1 ≤ y → y ≤ 24 → (x < w ∨ (x = w ∧ y ≤ h)) → fin n sw sh sv (zU wf (w * 25 + h) (fin n sw sh sv wf s w h).1) s x y = fin n sw sh sv wf s x y := by
    intro x y a b c
    refine fin_cong (fun k k1 k2 => ?_) (fun k k1 k2 => ?_)
    · rw [zU_n _ _ (by omega)]
    · rw [zU_n _ _ (by omega)]
  intro x y a b c d e
  rw [fe x y c d (by omega)]
  by_cases q : x = w ∧ y = h
  · obtain ⟨q1, q2⟩ := q
    subst q1; subst q2
    rw [zU_s]
    refine ⟨rfl, fun i hi => ?_, fin_b hs (tOK_B t b d) a c⟩
    rw [hm i hi, zU_s]
    refine cm_cong (by omega) fin_rg (fun j j1 j2 => ?_) (fun j j1 j2 => ?_)
    · rw [zU_n _ _ (by omega)]
    · rw [zU_n _ _ (by omega)]
  · have e' : x < w ∨ (x = w ∧ y < h) := by omega
    obtain ⟨t1, t2, t3⟩ := t x y a b c d e'
    rw [zU_n _ _ (ne x y c d e')]
    refine ⟨t1, fun i hi => ?_, t3⟩
    rw [hm i hi, zU_n _ _ (ne x y c d e'), t2 i hi]
    refine cm_cong (by omega) fin_rg (fun j j1 j2 => ?_) (fun j j1 j2 => ?_)
    · rw [zU_n _ _ (by omega)]
    · rw [zU_n _ _ (by omega)]
theorem tOK_row {n : Nat} {sw sh sv : Nat → Int} {s : Nat} {wf : Nat → Int} {m : Nat → Nat → Int} {w : Nat} (t : tOK n sw sh sv s wf m w 25) : tOK n sw sh sv s wf m (w + 1) 1 := fun x y a b c d e => t x y a b c d (by omega)
theorem tOK_0 {n : Nat} {sw sh sv : Nat → Int} {s : Nat} {wf : Nat → Int} {m : Nat → Nat → Int} : tOK n sw sh sv s wf m 1 1 := fun x y a b c d e => by omega
