/-! all that is told as one row of numbers: n places from o on, each st behind the one before -/
def lF (o st n : Nat) (A : Nat → Int) : Nat → Int := fun j => if j < n then A (o + st * j) else 0
def lD (A : Nat → Int) : Nat → Int := fun p => if p < 32 then A (250 + 6 * (p / 4) + p % 4) else 0
theorem lF_at {o st n : Nat} {A : Nat → Int} {k : Nat} (hk : k < n) : lF o st n A k = A (o + st * k) := if_pos hk
theorem lF_in {o st n : Nat} {A : Nat → Int} {k : Nat} {v : Int} (hk : k < n) (hst : 0 < st) : lF o st n (zU A (o + st * k) v) = zU (lF o st n A) k v := by
  funext j
  unfold lF zU
  by_cases e : j = k
  · subst e
    rw [if_pos hk, if_pos rfl, if_pos rfl]
  · rw [if_neg e]
    show (if j < n then (if o + st * j = o + st * k then v else A (o + st * j)) else 0) = if j < n then A (o + st * j) else 0
    by_cases h : j < n
    · rw [if_pos h, if_pos h]
      rw [if_neg]
      intro q
      have q2 : st * j = st * k := by omega
      exact e (Nat.eq_of_mul_eq_mul_left hst q2)
    · rw [if_neg h, if_neg h]
theorem lF_out {o st n : Nat} {A : Nat → Int} {i : Nat} {v : Int} (h : ∀ j, j < n → o + st * j ≠ i) : lF o st n (zU A i v) = lF o st n A := by
  funext j
  unfold lF
  by_cases c : j < n
  · rw [if_pos c, if_pos c, zU_n _ _ (h j c)]
  · rw [if_neg c, if_neg c]
theorem lF_cong {o st n : Nat} {A B : Nat → Int} (h : ∀ j, j < n → A (o + st * j) = B (o + st * j)) : lF o st n A = lF o st n B := by
  funext j
  unfold lF
  by_cases c : j < n
  · rw [if_pos c, if_pos c, h j c]
  · rw [if_neg c, if_neg c]
theorem lD_cong {A B : Nat → Int} (h : ∀ i, 250 ≤ i → i < 298 → A i = B i) : lD A = lD B := by
  funext j
  unfold lD
  by_cases c : j < 32
  · rw [if_pos c, if_pos c]
    exact h _ (by omega) (by omega)
  · rw [if_neg c, if_neg c]
theorem lD_in {A : Nat → Int} {s e : Nat} {v : Int} (hs : s < 8) (he : e < 4) : lD (zU A (250 + 6 * s + e) v) = zU (lD A) (s * 4 + e) v := by
  funext j
  unfold lD zU
  by_cases q : j = s * 4 + e
  · subst q
    rw [if_pos (by omega), if_pos (by omega), if_pos rfl]
  · rw [if_neg q]
    show (if j < 32 then (if 250 + 6 * (j / 4) + j % 4 = 250 + 6 * s + e then v else A (250 + 6 * (j / 4) + j % 4)) else 0) = if j < 32 then A (250 + 6 * (j / 4) + j % 4) else 0
    by_cases c : j < 32
    · rw [if_pos c, if_pos c, if_neg (by omega)]
    · rw [if_neg c, if_neg c]
theorem lD_at {A : Nat → Int} {p : Nat} (h : p < 32) : lD A p = A (250 + 6 * (p / 4) + p % 4) := if_pos h
/-- the time: after how many ticks it may be opened first, -1 if not within 400 -/
def isT (T need d : Int) (z : Int) : Prop :=
  (z = -1 ∧ ∀ t, 1 ≤ t → t ≤ 400 → ¬ opn (sH T t) (sC T t) need d) ∨ (1 ≤ z ∧ z ≤ 400 ∧ opn (sH T z.toNat) (sC T z.toNat) need d ∧ ∀ t, 1 ≤ t → t < z.toNat → ¬ opn (sH T t) (sC T t) need d)
theorem isT_one {T need d z z' : Int} (h : isT T need d z) (h' : isT T need d z') : z = z' := by
  rcases h with ⟨a, b⟩ | ⟨a, b, c, e⟩ <;> rcases h' with ⟨a', b'⟩ | ⟨a', b', c', e'⟩
  · omega
  · exact absurd c' (b z'.toNat (by omega) (by omega))
  · exact absurd c (b' z.toNat (by omega) (by omega))
  · rcases Nat.lt_trichotomy z.toNat z'.toNat with q | q | q
    · exact absurd c (e' z.toNat (by omega) q)
    · omega
    · exact absurd c' (e z'.toNat (by omega) q)
theorem isT_b {T need d z : Int} (h : isT T need d z) : z = -1 ∨ (1 ≤ z ∧ z ≤ 400) := by
  rcases h with ⟨a, b⟩ | ⟨a, b, c, e⟩
  · exact Or.inl a
  · exact Or.inr ⟨a, b⟩
/-- the fastest of n plates with times tf: (plate, least so far) -/
def faS (tf : Nat → Int) : Nat → Int × Int
  | 0 => (-1, 401)
  | p + 1 => if tf p = -1 ∨ (faS tf p).2 ≤ tf p then faS tf p else ((p : Int), tf p)
theorem faS_cong {f g : Nat → Int} : ∀ {n : Nat}, (∀ p, p < n → f p = g p) → faS f n = faS g n
  | 0, _ => rfl
  | n + 1, h => by
    have h1 := faS_cong (f := f) (g := g) (n := n) (fun p hp => h p (by omega))
    show (if f n = -1 ∨ (faS f n).2 ≤ f n then faS f n else ((n : Int), f n)) = (if g n = -1 ∨ (faS g n).2 ≤ g n then faS g n else ((n : Int), g n))
    rw [h1, h n (by omega)]
theorem faS_b {f : Nat → Int} : ∀ {n : Nat}, (∀ p, p < n → f p = -1 ∨ (1 ≤ f p ∧ f p ≤ 400)) → (-1 ≤ (faS f n).1 ∧ (faS f n).1 < n) ∧ 1 ≤ (faS f n).2 ∧ (faS f n).2 ≤ 401
  | 0, _ => by
    show (-1 ≤ (-1 : Int) ∧ (-1 : Int) < ((0 : Nat) : Int)) ∧ 1 ≤ (401 : Int) ∧ (401 : Int) ≤ 401
    omega
  | n + 1, h => by
    have h1 := faS_b (f := f) (n := n) (fun p hp => h p (by omega))
    have h2 := h n (by omega)
    have e : faS f (n + 1) = if f n = -1 ∨ (faS f n).2 ≤ f n then faS f n else ((n : Int), f n) := rfl
    rw [e]
    split
    · omega
    · rename_i c
      show (-1 ≤ (n : Int) ∧ (n : Int) < ((n + 1 : Nat) : Int)) ∧ 1 ≤ f n ∧ f n ≤ 401
      omega
theorem faS_no {f : Nat → Int} {n m : Nat} (h : n ≤ m) (hz : ∀ p, n ≤ p → p < m → f p = -1) : faS f m = faS f n := by
  induction m with
  | zero => rw [show n = 0 by omega]
  | succ m ih =>
    by_cases e : n = m + 1
    · rw [e]
    · have e2 : faS f (m + 1) = if f m = -1 ∨ (faS f m).2 ≤ f m then faS f m else ((m : Int), f m) := rfl
      rw [e2, if_pos (Or.inl (hz m (by omega) (by omega))), ih (by omega) (fun p a b => hz p a (by omega))]
