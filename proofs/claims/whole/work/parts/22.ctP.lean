/-- what count answers -/
def ctF (nb nl nm np ns : Nat) (fg lg F : Nat → Int) (w : Int) : Int :=
  if w = 0 then nb else if w = 1 then nl else if w = 2 then nm else if w = 3 then np else if w = 4 then ns else if w = 5 then zS fg nb else if w = 6 then zS lg nl else if w = 7 then pC F nm
  else if 10 ≤ w ∧ w < 16 then (if w - 10 < nb then fg (w - 10).toNat else -1) else if 20 ≤ w ∧ w < 28 then (if w - 20 < nl then lg (w - 20).toNat else -1) else -1
/-- a mat is laid: faces, core, glue -/
def lyF (g : Int) : Int := g * 4 / 10
theorem lyF_b {g : Int} (h : 10 ≤ g ∧ g ≤ 10000) : 0 ≤ lyF g ∧ lyF g ≤ g := by
  unfold lyF
  omega
theorem ly_q {g a : Int} (h : 10 ≤ g ∧ g ≤ 10000) (ha : 1 ≤ a ∧ a ≤ 30) : 0 ≤ g * a ∧ g * a ≤ 300000 := by
  constructor
  · exact Int.mul_nonneg (by omega) (by omega)
  · have q : g * a ≤ 10000 * 30 := Int.mul_le_mul h.2 ha.2 (by omega) (by omega)
    omega
theorem ly_m {g a : Int} (h : 10 ≤ g ∧ g ≤ 10000) (ha : 0 ≤ a ∧ a ≤ 100) : 0 ≤ a * g ∧ a * g ≤ 1000000 := by
  constructor
  · exact Int.mul_nonneg (by omega) (by omega)
  · have q : a * g ≤ 100 * 10000 := Int.mul_le_mul ha.2 h.2 (by omega) (by omega)
    omega
theorem ly_d {x d : Int} (h : 0 ≤ x ∧ x ≤ 10000) (hd : 0 ≤ d ∧ d ≤ 20) : 0 ≤ d * x ∧ d * x ≤ 200000 := by
  constructor
  · exact Int.mul_nonneg (by omega) (by omega)
  · have q : d * x ≤ 20 * 10000 := Int.mul_le_mul hd.2 h.2 (by omega) (by omega)
    omega
