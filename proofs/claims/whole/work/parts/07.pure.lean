/-! numbers that both the class and the reference come to -/
def zS (f : Nat → Int) : Nat → Int
  | 0 => 0
  | n + 1 => zS f n + f n
theorem zS_cong {f g : Nat → Int} : ∀ {n : Nat}, (∀ j, j < n → f j = g j) → zS f n = zS g n
  | 0, _ => rfl
  | n + 1, h => by
    have h1 := zS_cong (n := n) (fun j hj => h j (by omega))
    have h2 := h n (by omega)
    show zS f n + f n = zS g n + g n
    rw [h1, h2]
theorem zS_lo {f : Nat → Int} {c : Int} : ∀ {n : Nat}, (∀ j, j < n → 0 ≤ f j ∧ f j ≤ c) → 0 ≤ zS f n ∧ zS f n ≤ n * c
  | 0, _ => by
    constructor
    · exact Int.le_refl 0
    · show (0 : Int) ≤ ((0 : Nat) : Int) * c
      simp
  | n + 1, h => by
    have h1 := zS_lo (n := n) (fun j hj => h j (by omega))
    have h2 := h n (by omega)
    have e : ((n + 1 : Nat) : Int) * c = (n : Int) * c + c := by
      rw [Int.natCast_add, Int.add_mul]
      simp
    have e2 : zS f (n + 1) = zS f n + f n := rfl
    rw [e, e2]
    omega
theorem zS_step {f : Nat → Int} {i : Int} (h : 0 ≤ i) : zS f (i + 1).toNat = zS f i.toNat + f i.toNat := by
  have e : (i + 1).toNat = i.toNat + 1 := by omega
  rw [e]
  rfl
theorem zU_ext {f g : Nat → Int} {i : Int} (h0 : 0 ≤ i) (h : ∀ j, j < i.toNat → f j = g j) : ∀ j, j < (i + 1).toNat → zU f i.toNat (g i.toNat) j = g j := by
  intro j hj
  by_cases e : j = i.toNat
  · subst e
    exact zU_s _ _ _
  · rw [zU_n _ _ e]
    exact h j (by omega)
theorem zU_eq {f : Nat → Int} {i : Int} {x : Int} {g : Nat → Int} (h0 : 0 ≤ i) (h : ∀ j, j < i.toNat → f j = g j) (hx : x = g i.toNat) : ∀ j, j < (i + 1).toNat → zU f i.toNat x j = g j := by
  subst hx
  exact zU_ext h0 h
/-! glue: what each lot gives -/
def dL (f : Nat → Int) (q : Int) : Nat → Int
  | 0 => q
  | l + 1 => dL f q l - (if f l < dL f q l then f l else dL f q l)
def dV (f : Nat → Int) (q : Int) (l : Nat) : Int := if f l < dL f q l then f l else dL f q l
def dB (f : Nat → Int) (q : Int) : Nat → Int
  | 0 => 0
  | l + 1 => if 0 < dV f q l then zOr (dB f q l) (zShl 1 l) else dB f q l
def dG (f : Nat → Int) (q : Int) (n : Nat) : Nat → Int := fun j => if j < n then f j - dV f q j else f j
theorem dL_nn {f : Nat → Int} {q : Int} (hq : 0 ≤ q) : ∀ {n : Nat}, (∀ j, j < n → 0 ≤ f j) → 0 ≤ dL f q n ∧ dL f q n ≤ q
  | 0, _ => ⟨hq, Int.le_refl q⟩
  | n + 1, h => by
    have h1 := dL_nn hq (n := n) (fun j hj => h j (by omega))
    have h2 := h n (by omega)
    show 0 ≤ dL f q n - (if f n < dL f q n then f n else dL f q n) ∧ dL f q n - (if f n < dL f q n then f n else dL f q n) ≤ q
    split <;> omega
theorem dB_R (f : Nat → Int) (q : Int) : ∀ n, zR (dB f q n)
  | 0 => zR_0
  | n + 1 => by
    show zR (if 0 < dV f q n then zOr (dB f q n) (zShl 1 n) else dB f q n)
    split
    · exact zOr_R _ _
    · exact dB_R f q n
theorem dG_0 (f : Nat → Int) (q : Int) : dG f q 0 = f := by
  funext j
  simp [dG]
theorem dG_s (f : Nat → Int) (q : Int) (n : Nat) : zU (dG f q n) n (f n - dV f q n) = dG f q (n + 1) := by
  funext j
  unfold zU dG
  by_cases e : j = n
  · subst e
    simp
  · rw [if_neg e]
    by_cases h : j < n
    · rw [if_pos h, if_pos (by omega)]
    · rw [if_neg h, if_neg (by omega)]
theorem dG_at (f : Nat → Int) (q : Int) (n : Nat) : dG f q n n = f n := by simp [dG]
theorem dG_z (f : Nat → Int) (q : Int) (n : Nat) (h : dV f q n = 0) : dG f q (n + 1) = dG f q n := by
  rw [← dG_s, h, Int.sub_zero]
  funext j
  unfold zU
  by_cases e : j = n
  · subst e
    rw [if_pos rfl, dG_at]
  · rw [if_neg e]
/-! bits -/
theorem zI_toIntR (x : Int32) : zI x.toInt = x := zI_self x
theorem zAnd_1 (a : Int) : zAnd a 1 = 0 ∨ zAnd a 1 = 1 := by
  unfold zAnd
  rw [zI_1]
  obtain ⟨j, hj, e⟩ := pk_andE (zI a) (m := 1) 1 (by decide)
  rw [e]
  have : j = 0 ∨ j = 1 := by omega
  rcases this with rfl | rfl
  · left; decide +kernel
  · right; decide +kernel
theorem zShl_0 (m : Int) : zShl 0 m = 0 := by
  unfold zShl
  rw [zI_0]
  have : (0 : Int32) <<< (zI m &&& 31) = 0 := by
    apply Int32.toBitVec_inj.mp
    simp
  rw [this]
  rfl
theorem zOr_0 {a : Int} (h : zR a) : zOr a 0 = a := by
  unfold zOr
  rw [zI_0]
  have : zI a ||| 0 = zI a := by
    apply Int32.toBitVec_inj.mp
    simp
  rw [this, zI_toInt h]
/-- which mats hold glue of a lot -/
def rB (F : Nat → Int) (lot : Int) : Nat → Int
  | 0 => 0
  | m + 1 => if zAnd (zShr (F (m * 8 + 6)) lot) 1 = 0 then rB F lot m else zOr (rB F lot m) (zShl 1 m)
theorem rB_R (F : Nat → Int) (lot : Int) : ∀ n, zR (rB F lot n)
  | 0 => zR_0
  | n + 1 => by
    show zR (if zAnd (zShr (F (n * 8 + 6)) lot) 1 = 0 then rB F lot n else zOr (rB F lot n) (zShl 1 n))
    split
    · exact rB_R F lot n
    · exact zOr_R _ _
theorem rB_or (F : Nat → Int) (lot : Int) (m : Nat) : zOr (rB F lot m) (zShl (zAnd (zShr (F (m * 8 + 6)) lot) 1) m) = rB F lot (m + 1) := by
  show _ = if zAnd (zShr (F (m * 8 + 6)) lot) 1 = 0 then rB F lot m else zOr (rB F lot m) (zShl 1 m)
  rcases zAnd_1 (zShr (F (m * 8 + 6)) lot) with h | h
  · rw [h, if_pos rfl, zShl_0, zOr_0 (rB_R F lot m)]
  · rw [h, if_neg (by omega)]
/-- how many mats were pressed -/
def pC (F : Nat → Int) (n : Nat) : Int := zS (fun m => if F (m * 8 + 7) = -1 then 0 else 1) n
/-- the dearest sheet that fits, of several the first -/
def dW (sv : Nat → Int) (k : Int) : Int := if k < 0 then 0 else sv k.toNat
def dI (sw sh sv : Nat → Int) (w h : Int) : Nat → Int
  | 0 => -1
  | n + 1 => if sw n ≤ w ∧ sh n ≤ h ∧ dW sv (dI sw sh sv w h n) < sv n then (n : Int) else dI sw sh sv w h n
theorem dI_lo (sw sh sv : Nat → Int) (w h : Int) : ∀ n, -1 ≤ dI sw sh sv w h n ∧ dI sw sh sv w h n < n
  | 0 => by
    have e : dI sw sh sv w h 0 = -1 := rfl
    rw [e]
    omega
  | n + 1 => by
    have ih := dI_lo sw sh sv w h n
    have e : dI sw sh sv w h (n + 1) = if sw n ≤ w ∧ sh n ≤ h ∧ dW sv (dI sw sh sv w h n) < sv n then (n : Int) else dI sw sh sv w h n := rfl
    rw [e]
    split <;> omega
theorem dI_step {sw sh sv : Nat → Int} {w h i : Int} (h0 : 0 ≤ i) : dI sw sh sv w h (i + 1).toNat = if sw i.toNat ≤ w ∧ sh i.toNat ≤ h ∧ dW sv (dI sw sh sv w h i.toNat) < sv i.toNat then i else dI sw sh sv w h i.toNat := by
  have e : (i + 1).toNat = i.toNat + 1 := by omega
  rw [e]
  have e2 : dI sw sh sv w h (i.toNat + 1) = if sw i.toNat ≤ w ∧ sh i.toNat ≤ h ∧ dW sv (dI sw sh sv w h i.toNat) < sv i.toNat then (i.toNat : Int) else dI sw sh sv w h i.toNat := rfl
  rw [e2]
  have e3 : (i.toNat : Int) = i := by omega
  rw [e3]
theorem rB_step {F : Nat → Int} {lot i : Int} (h0 : 0 ≤ i) : rB F lot (i + 1).toNat = if zAnd (zShr (F (i.toNat * 8 + 6)) lot) 1 = 0 then rB F lot i.toNat else zOr (rB F lot i.toNat) (zShl 1 i) := by
  have e : (i + 1).toNat = i.toNat + 1 := by omega
  rw [e]
  have e3 : (i.toNat : Int) = i := by omega
  have e2 : rB F lot (i.toNat + 1) = if zAnd (zShr (F (i.toNat * 8 + 6)) lot) 1 = 0 then rB F lot i.toNat else zOr (rB F lot i.toNat) (zShl 1 (i.toNat : Int)) := rfl
  rw [e2, e3]
theorem dL_step {f : Nat → Int} {q i : Int} (h0 : 0 ≤ i) : dL f q (i + 1).toNat = dL f q i.toNat - dV f q i.toNat := by
  have e : (i + 1).toNat = i.toNat + 1 := by omega
  rw [e]
  rfl
theorem dB_step {f : Nat → Int} {q i : Int} (h0 : 0 ≤ i) : dB f q (i + 1).toNat = if 0 < dV f q i.toNat then zOr (dB f q i.toNat) (zShl 1 i) else dB f q i.toNat := by
  have e : (i + 1).toNat = i.toNat + 1 := by omega
  rw [e]
  have e3 : (i.toNat : Int) = i := by omega
  have e2 : dB f q (i.toNat + 1) = if 0 < dV f q i.toNat then zOr (dB f q i.toNat) (zShl 1 (i.toNat : Int)) else dB f q i.toNat := rfl
  rw [e2, e3]
theorem dG_step {f : Nat → Int} {q i : Int} (h0 : 0 ≤ i) : dG f q (i + 1).toNat = zU (dG f q i.toNat) i.toNat (f i.toNat - dV f q i.toNat) := by
  have e : (i + 1).toNat = i.toNat + 1 := by omega
  rw [e, dG_s]
theorem dG_stepz {f : Nat → Int} {q i : Int} (h0 : 0 ≤ i) (h : dV f q i.toNat = 0) : dG f q (i + 1).toNat = dG f q i.toNat := by
  have e : (i + 1).toNat = i.toNat + 1 := by omega
  rw [e, dG_z f q _ h]
