theorem lF_in' {o st n i k : Nat} {A : Nat → Int} {v : Int} (h : i = o + st * k) (hk : k < n) (hst : 0 < st) : lF o st n (zU A i v) = zU (lF o st n A) k v := by
  subst h
  exact lF_in hk hst
theorem lF_tk {A : Nat → Int} {q : Int} {n : Nat} (hn : n ≤ 8) : lF 30 1 8 (tkA A q n) = dG (lF 30 1 8 A) q n := by
  funext j
  by_cases c : j < 8
  · rw [lF30 c]
    unfold tkA dG
    by_cases e : j < n
    · rw [if_pos (by omega), if_pos e, lF30 c, show 30 + j - 30 = j by omega]
    · rw [if_neg (by omega), if_neg e, lF30 c]
  · unfold dG
    rw [if_neg (by omega)]
    unfold lF
    rw [if_neg c, if_neg c]
theorem lF_tkO {o st m : Nat} {A : Nat → Int} {q : Int} {n : Nat} (hn : n ≤ 8) (h : ∀ j, j < m → o + st * j < 30 ∨ 38 ≤ o + st * j) : lF o st m (tkA A q n) = lF o st m A := lF_cong (fun j hj => tkA_out hn (h j hj))
theorem dV_b {f : Nat → Int} {q : Int} (hq : 0 ≤ q) {n : Nat} (h : ∀ j, j ≤ n → 0 ≤ f j) : 0 ≤ dV f q n ∧ dV f q n ≤ f n := by
  have h1 := dL_nn (f := f) hq (n := n) (fun j hj => h j (by omega))
  have h2 := h n (Nat.le_refl n)
  unfold dV
  split <;> omega
theorem iA_tk {A : Nat → Int} {q : Int} (hq : 0 ≤ q) (hi : iA A) : ∀ n, n ≤ 8 → iA (tkA A q n)
  | 0, _ => by
    rw [tkA_0]
    exact hi
  | n + 1, hn => by
    have ih := iA_tk hq hi n (by omega)
    rw [← tkA_s]
    have hl := iA_lg hi
    have hd := dV_b (f := lF 30 1 8 A) hq (n := n) (fun j hj => (hl j (by omega)).1)
    have hb := hl n (by omega)
    rw [lF30 (by omega)] at hd hb
    exact iA_set ih ⟨fun e => by omega, fun e => by omega, fun e => absurd e (by omega), fun e => absurd e (by omega), fun e => by omega, fun e => by omega, fun e => by omega, fun e => by omega, fun e => by omega, fun j hj => ⟨fun e => by omega, fun e => by omega, fun e => by omega⟩, fun j hj e => by omega, fun j hj e => by omega, fun a b => by exfalso; omega, fun j hj e => by omega, fun j hj e => by omega, fun s e a b q => by omega, fun s a q => by omega, fun j hj => ⟨fun e => by omega, fun e => by omega, fun e => by omega⟩⟩
/-- how much of used chips a part takes -/
theorem ex_u {A : Nat → Int} (hi : iA A) (f x : Int) : ∃ u : Int, 0 ≤ f → f < A 0 → ((A ((10 + (3 * f.toNat)) + 2) = 1 ∧ u = x) ∨ (A ((10 + (3 * f.toNat)) + 2) = 0 ∧ u = 0)) := by
  obtain ⟨h0, h1, h2, h3, h4, h5, h6, h7, h8, hbn, hlt, hpl, hmz, hmd, hmp, hld, hfw, hsh⟩ := hi
  by_cases c : 0 ≤ f ∧ f < A 0
  · rcases (hbn f.toNat (by omega)).2.2 with e | e
    · exact ⟨0, fun _ _ => Or.inr ⟨e, rfl⟩⟩
    · exact ⟨x, fun _ _ => Or.inl ⟨e, rfl⟩⟩
  · exact ⟨0, fun a b => absurd ⟨a, b⟩ c⟩
def adr19 (u : Nat × Nat × Nat × Nat × Nat × Nat × Nat × Nat × Nat × Nat × Nat × Nat × Nat × Nat × Nat × Nat × Nat × Nat × Nat) : Nat → Nat
  | 0 => u.1
  | 1 => u.2.1
  | 2 => u.2.2.1
  | 3 => u.2.2.2.1
  | 4 => u.2.2.2.2.1
  | 5 => u.2.2.2.2.2.1
  | 6 => u.2.2.2.2.2.2.1
  | 7 => u.2.2.2.2.2.2.2.1
  | 8 => u.2.2.2.2.2.2.2.2.1
  | 9 => u.2.2.2.2.2.2.2.2.2.1
  | 10 => u.2.2.2.2.2.2.2.2.2.2.1
  | 11 => u.2.2.2.2.2.2.2.2.2.2.2.1
  | 12 => u.2.2.2.2.2.2.2.2.2.2.2.2.1
  | 13 => u.2.2.2.2.2.2.2.2.2.2.2.2.2.1
  | 14 => u.2.2.2.2.2.2.2.2.2.2.2.2.2.2.1
  | 15 => u.2.2.2.2.2.2.2.2.2.2.2.2.2.2.2.1
  | 16 => u.2.2.2.2.2.2.2.2.2.2.2.2.2.2.2.2.1
  | 17 => u.2.2.2.2.2.2.2.2.2.2.2.2.2.2.2.2.2.1
  | _ => u.2.2.2.2.2.2.2.2.2.2.2.2.2.2.2.2.2.2
theorem lD_cong2 {A B : Nat → Int} (h : ∀ j, j < 32 → A (250 + 6 * (j / 4) + j % 4) = B (250 + 6 * (j / 4) + j % 4)) : lD A = lD B := by
  funext j
  unfold lD
  by_cases c : j < 32
  · rw [if_pos c, if_pos c, h j c]
  · rw [if_neg c, if_neg c]
