/-! the press: heats and cures, tick by tick -/
theorem z_top {M : KM} {E : KE} {nL cells slots : Nat} {ws : va_W} {lv : List (Nat × Value)} {pc : Nat} {st : List Value} {v : Int} (k : ∀ y : Int, y = v → kV M E nL cells slots ws lv pc (.int (zI y) :: st)) : kV M E nL cells slots ws lv pc (.int (zI v) :: st) := k v rfl
/-- the heats of nine shells with the plate on both sides -/
def hx (P : Int) (f : Nat → Int) : Nat → Int := fun j => if 1 ≤ j ∧ j ≤ 9 then f (j - 1) else P
theorem hx_s {P : Int} {f : Nat → Int} {k : Nat} (hk : k < 9) : hx P f (k + 1) = f k := by
  unfold hx
  rw [if_pos ⟨by omega, by omega⟩]
  rfl
theorem hx_b {P : Int} {f : Nat → Int} (hP : 0 ≤ P ∧ P ≤ 25000) (hf : ∀ j, j < 9 → 0 ≤ f j ∧ f j ≤ 25000) : ∀ j, j < 11 → 0 ≤ hx P f j ∧ hx P f j ≤ 25000 := by
  intro j hj
  unfold hx
  split
  · exact hf _ (by omega)
  · exact hP
def tkH (P : Int) (f : Nat → Int) (s : Nat) : Int := hx P f (s + 1) + Int.tdiv (hx P f s + hx P f (s + 2) - 2 * hx P f (s + 1)) 8
def tkC (x : Int) : Int := if 8000 < x then (x - 8000) / 100 else 0
theorem td8 (x : Int) : (0 ≤ x → 0 ≤ Int.tdiv x 8 ∧ Int.tdiv x 8 * 8 ≤ x) ∧ (x ≤ 0 → x ≤ Int.tdiv x 8 * 8 ∧ Int.tdiv x 8 ≤ 0) := by
  constructor
  · intro h
    rw [Int.tdiv_eq_ediv_of_nonneg h]
    omega
  · intro h
    have e : Int.tdiv x 8 = -(Int.tdiv (-x) 8) := by rw [Int.neg_tdiv, Int.neg_neg]
    rw [e, Int.tdiv_eq_ediv_of_nonneg (by omega)]
    omega
theorem tkH_b {P : Int} {f : Nat → Int} {s : Nat} (h : ∀ j, j < 11 → 0 ≤ hx P f j ∧ hx P f j ≤ 25000) (hs : s < 9) : 0 ≤ tkH P f s ∧ tkH P f s ≤ 25000 := by
  have h1 := h s (by omega)
  have h2 := h (s + 1) (by omega)
  have h3 := h (s + 2) (by omega)
  unfold tkH
  have t := td8 (hx P f s + hx P f (s + 2) - 2 * hx P f (s + 1))
  generalize Int.tdiv (hx P f s + hx P f (s + 2) - 2 * hx P f (s + 1)) 8 = q at t ⊢
  by_cases c : 0 ≤ hx P f s + hx P f (s + 2) - 2 * hx P f (s + 1)
  · have := t.1 c
    omega
  · have := t.2 (by omega)
    omega
/-- the heats and cures of a mat after t ticks by a plate of P hundredths -/
def sH (P : Int) : Nat → Nat → Int
  | 0 => fun _ => 2000
  | t + 1 => tkH P (sH P t)
def sC (P : Int) : Nat → Nat → Int
  | 0 => fun _ => 0
  | t + 1 => fun s => sC P t s + tkC (sH P (t + 1) s)
theorem sH_b {P : Int} (hP : 0 ≤ P ∧ P ≤ 25000) : ∀ (t j : Nat), j < 9 → 0 ≤ sH P t j ∧ sH P t j ≤ 25000
  | 0, j, _ => by
    show 0 ≤ (2000 : Int) ∧ (2000 : Int) ≤ 25000
    omega
  | t + 1, j, hj => tkH_b (hx_b hP (sH_b hP t)) hj
theorem tkC_b {x : Int} (h : x ≤ 25000) : 0 ≤ tkC x ∧ tkC x ≤ 170 := by
  unfold tkC
  split <;> omega
theorem sC_b {P : Int} (hP : 0 ≤ P ∧ P ≤ 25000) : ∀ (t j : Nat), j < 9 → 0 ≤ sC P t j ∧ sC P t j ≤ 170 * t
  | 0, j, _ => by
    show 0 ≤ (0 : Int) ∧ (0 : Int) ≤ 170 * ((0 : Nat) : Int)
    omega
  | t + 1, j, hj => by
    have h1 := sC_b hP t j hj
    have h2 := tkC_b (sH_b hP (t + 1) j hj).2
    have e : sC P (t + 1) j = sC P t j + tkC (sH P (t + 1) j) := rfl
    rw [e]
    omega
def stm (x d : Int) : Int := if 10000 < x then (x - 10000) * d / 100 else 0
theorem stm_b {x d : Int} (hx : x ≤ 25000) (hd : 0 ≤ d ∧ d ≤ 20) : 0 ≤ stm x d ∧ stm x d ≤ 3000 := by
  unfold stm
  split
  · have h1 : 0 ≤ (x - 10000) * d := Int.mul_nonneg (by omega) hd.1
    have h2 : (x - 10000) * d ≤ 15000 * 20 := Int.mul_le_mul (by omega) hd.2 hd.1 (by omega)
    omega
  · omega
/-- it may be opened -/
def opn (h c : Nat → Int) (need d : Int) : Prop := ∀ s, s < 9 → need ≤ c s ∧ stm (h s) d ≤ c s
/-- how the heats stand in the middle of a tick -/
def hm (P : Int) (f : Nat → Int) (i : Nat) : Nat → Int := fun j => if 1 ≤ j ∧ j ≤ i then tkH P f (j - 1) else hx P f j
theorem hm_0 (P : Int) (f : Nat → Int) : hm P f 0 = hx P f := by
  funext j
  unfold hm
  rw [if_neg (by omega)]
theorem hm_s (P : Int) (f : Nat → Int) (i : Nat) : zU (hm P f i) (i + 1) (tkH P f i) = hm P f (i + 1) := by
  funext j
  unfold zU hm
  by_cases e : j = i + 1
  · subst e
    rw [if_pos rfl, if_pos (by omega)]
    rfl
  · rw [if_neg e]
    by_cases c : 1 ≤ j ∧ j ≤ i
    · rw [if_pos c, if_pos (by omega)]
    · rw [if_neg c, if_neg (by omega)]
theorem hm_9 (P : Int) (f : Nat → Int) : hm P f 9 = hx P (tkH P f) := by
  funext j
  unfold hm
  by_cases c : 1 ≤ j ∧ j ≤ 9
  · rw [if_pos c]
    unfold hx
    rw [if_pos c]
  · rw [if_neg c]
    unfold hx
    rw [if_neg c, if_neg c]
theorem hm_step {P : Int} {f : Nat → Int} {i : Int} (h0 : 0 ≤ i) : hm P f (i + 1).toNat = zU (hm P f i.toNat) (i.toNat + 1) (tkH P f i.toNat) := by
  have e : (i + 1).toNat = i.toNat + 1 := by omega
  rw [e, hm_s]
