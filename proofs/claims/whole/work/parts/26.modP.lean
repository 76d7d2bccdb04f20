/-! the reference: its one row of numbers -/
/-- the lots from place 30 on, q grams taken of the first n -/
def tkA (A : Nat → Int) (q : Int) (n : Nat) : Nat → Int := fun i => if 30 ≤ i ∧ i < 30 + n then A i - dV (lF 30 1 8 A) q (i - 30) else A i
theorem tkA_out {A : Nat → Int} {q : Int} {n i : Nat} (hn : n ≤ 8) (h : i < 30 ∨ 38 ≤ i) : tkA A q n i = A i := by
  unfold tkA
  rw [if_neg (by omega)]
theorem tkA_at {A : Nat → Int} {q : Int} {n : Nat} : tkA A q n (30 + n) = A (30 + n) := by
  unfold tkA
  rw [if_neg (by omega)]
theorem tkA_0 (A : Nat → Int) (q : Int) : tkA A q 0 = A := by
  funext i
  unfold tkA
  rw [if_neg (by omega)]
theorem tkA_s {A : Nat → Int} {q : Int} {n : Nat} : zU (tkA A q n) (30 + n) (A (30 + n) - dV (lF 30 1 8 A) q n) = tkA A q (n + 1) := by
  funext i
  unfold zU tkA
  by_cases e : i = 30 + n
  · rw [if_pos e, if_pos (by omega), e, show 30 + n - 30 = n by omega]
  · rw [if_neg e]
    by_cases c : 30 ≤ i ∧ i < 30 + n
    · rw [if_pos c, if_pos (by omega)]
    · rw [if_neg c, if_neg (by omega)]
theorem tkA_lF {A : Nat → Int} {q : Int} {n : Nat} (hn : n ≤ 8) : lF 30 1 8 (tkA A q n) = lF 30 1 8 (tkA A q n) := rfl
theorem dV_lt {f : Nat → Int} {q l : Int} {n : Nat} (hl : l = dL f q n) (h : l < f n) : dV f q n = l := by
  unfold dV
  rw [← hl, if_neg (by omega)]
theorem dV_ge {f : Nat → Int} {q l : Int} {n : Nat} (hl : l = dL f q n) (h : ¬ l < f n) : dV f q n = f n := by
  unfold dV
  rw [← hl]
  split
  · rfl
  · omega
theorem lF30 {A : Nat → Int} {i : Nat} (h : i < 8) : lF 30 1 8 A i = A (30 + i) := by
  rw [lF_at h, Nat.one_mul]
theorem lF50 {A : Nat → Int} {m k : Nat} (h : m < 24) (hk : k < 8) : lF 50 1 192 A (m * 8 + k) = A ((50 + (8 * m)) + k) := by
  rw [lF_at (by omega), Nat.one_mul]
  congr 1
  omega
theorem tkH_of {T : Int} {f : Nat → Int} {s : Nat} {l r : Int} (hs : s < 9) (hl : (s = 0 ∧ l = T) ∨ (1 ≤ s ∧ l = f (s - 1))) (hr : (s = 8 ∧ r = T) ∨ (s < 8 ∧ r = f (s + 1))) : f s + Int.tdiv (l + r - 2 * f s) 8 = tkH T f s := by
  unfold tkH
  rw [hx_s hs]
  have e1 : hx T f s = l := by
    rcases hl with ⟨a, b⟩ | ⟨a, b⟩
    · unfold hx
      rw [if_neg (by omega), b]
    · obtain ⟨k, rfl⟩ : ∃ k, s = k + 1 := ⟨s - 1, by omega⟩
      rw [hx_s (by omega), b]
      rfl
  have e2 : hx T f (s + 2) = r := by
    rcases hr with ⟨a, b⟩ | ⟨a, b⟩
    · unfold hx
      rw [if_neg (by omega), b]
    · rw [show s + 2 = (s + 1) + 1 from rfl, hx_s (by omega), b]
  rw [e1, e2]
/-- n places copied from src to dst -/
def cpA (A : Nat → Int) (src dst n : Nat) : Nat → Int := fun i => if dst ≤ i ∧ i < dst + n then A (src + (i - dst)) else A i
theorem cpA_0 (A : Nat → Int) (src dst : Nat) : cpA A src dst 0 = A := by
  funext i
  unfold cpA
  rw [if_neg (by omega)]
theorem cpA_s {A : Nat → Int} {src dst n : Nat} : zU (cpA A src dst n) (dst + n) (A (src + n)) = cpA A src dst (n + 1) := by
  funext i
  unfold zU cpA
  by_cases e : i = dst + n
  · rw [if_pos e, if_pos (by omega), e, show dst + n - dst = n by omega]
  · rw [if_neg e]
    by_cases c : dst ≤ i ∧ i < dst + n
    · rw [if_pos c, if_pos (by omega)]
    · rw [if_neg c, if_neg (by omega)]
theorem cpA_out {A : Nat → Int} {src dst n i : Nat} (h : i < dst ∨ dst + n ≤ i) : cpA A src dst n i = A i := by
  unfold cpA
  rw [if_neg (by omega)]
theorem cpA_in {A : Nat → Int} {src dst n i : Nat} (h : dst ≤ i ∧ i < dst + n) : cpA A src dst n i = A (src + (i - dst)) := by
  unfold cpA
  rw [if_pos h]
/-- the row at the beginning, n leads set -/
def iniA (n : Nat) : Nat → Int := fun i => if i = 5 then 10 else if i = 6 then 50 else if i = 7 then 200 else if i = 8 then 1 else if 250 ≤ i ∧ (i - 250) % 6 < 4 ∧ 4 * ((i - 250) / 6) + (i - 250) % 6 < n then (((i - 250) / 6 : Nat) : Int) else 0
theorem iniA_0 : zU (zU (zU (zU (fun _ => 0) 5 10) 6 50) 7 200) 8 1 = iniA 0 := by
  funext i
  unfold zU iniA
  by_cases e5 : i = 5
  · subst e5; rfl
  by_cases e6 : i = 6
  · subst e6; rfl
  by_cases e7 : i = 7
  · subst e7; rfl
  by_cases e8 : i = 8
  · subst e8; rfl
  rw [if_neg e8, if_neg e7, if_neg e6, if_neg e5, if_neg e5, if_neg e6, if_neg e7, if_neg e8, if_neg (by omega)]
theorem iniA_s {s e : Nat} {x : Int} (hs : s < 8) (he : e < 4) (hx : x = (s : Int)) : zU (iniA (4 * s + e)) ((250 + (6 * s)) + e) x = iniA (4 * s + e + 1) := by
  funext i
  unfold zU iniA
  by_cases q : i = (250 + (6 * s)) + e
  · rw [if_pos q, if_neg (by omega), if_neg (by omega), if_neg (by omega), if_neg (by omega), if_pos (by omega), hx]
    omega
  · rw [if_neg q]
    by_cases c : 250 ≤ i ∧ (i - 250) % 6 < 4 ∧ 4 * ((i - 250) / 6) + (i - 250) % 6 < 4 * s + e
    · rw [if_pos c]
      by_cases c2 : 250 ≤ i ∧ (i - 250) % 6 < 4 ∧ 4 * ((i - 250) / 6) + (i - 250) % 6 < 4 * s + e + 1
      · rw [if_pos c2]
      · omega
    · by_cases c2 : 250 ≤ i ∧ (i - 250) % 6 < 4 ∧ 4 * ((i - 250) / 6) + (i - 250) % 6 < 4 * s + e + 1
      · omega
      · rw [if_neg c, if_neg c2]
