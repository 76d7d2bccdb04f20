/-! boards: the worth of the best way, which way it is, what comes of it -/
/-- ways in their order: g 1, g 2 .. against what is best so far; off + k names way k -/
def scn (g : Nat → Int) (off b0 y0 : Int) : Nat → Int × Int
  | 0 => (b0, y0)
  | k + 1 => if (scn g off b0 y0 k).1 < g (k + 1) then (g (k + 1), off + ((k : Int) + 1)) else scn g off b0 y0 k
theorem scn_cong {g g' : Nat → Int} {off b0 y0 : Int} : ∀ {m : Nat}, (∀ k, 1 ≤ k → k ≤ m → g k = g' k) → scn g off b0 y0 m = scn g' off b0 y0 m
  | 0, _ => rfl
  | m + 1, h => by
    have h1 := scn_cong (g := g) (g' := g') (off := off) (b0 := b0) (y0 := y0) (m := m) (fun k a b => h k a (by omega))
    show (if (scn g off b0 y0 m).1 < g (m + 1) then _ else _) = (if (scn g' off b0 y0 m).1 < g' (m + 1) then _ else _)
    rw [h1, h (m + 1) (by omega) (by omega)]
theorem scn_b {g : Nat → Int} {off b0 y0 B : Int} (h0 : 0 ≤ b0 ∧ b0 ≤ B) : ∀ {m : Nat}, (∀ k, 1 ≤ k → k ≤ m → g k ≤ B) → 0 ≤ (scn g off b0 y0 m).1 ∧ (scn g off b0 y0 m).1 ≤ B
  | 0, _ => h0
  | m + 1, h => by
    have h1 := scn_b (g := g) (off := off) (y0 := y0) h0 (m := m) (fun k a b => h k a (by omega))
    have h2 := h (m + 1) (by omega) (by omega)
    show 0 ≤ (if (scn g off b0 y0 m).1 < g (m + 1) then (g (m + 1), off + ((m : Int) + 1)) else scn g off b0 y0 m).1 ∧ (if (scn g off b0 y0 m).1 < g (m + 1) then (g (m + 1), off + ((m : Int) + 1)) else scn g off b0 y0 m).1 ≤ B
    split
    · show 0 ≤ g (m + 1) ∧ g (m + 1) ≤ B
      omega
    · exact h1
def gU (wf : Nat → Int) (saw w h k : Nat) : Int := wf (k * 25 + h) + wf ((w - saw - k) * 25 + h)
def gL (wf : Nat → Int) (saw w h k : Nat) : Int := wf (w * 25 + k) + wf (w * 25 + (h - saw - k))
/-- whole: worth and way of the dearest sheet, or lost -/
def w0B (n : Nat) (sw sh sv : Nat → Int) (w h : Nat) : Int := dW sv (dI sw sh sv w h n)
def w0Y (n : Nat) (sw sh sv : Nat → Int) (w h : Nat) : Int := if dI sw sh sv w h n < 0 then -100 else -1 - dI sw sh sv w h n
def upS (n : Nat) (sw sh sv wf : Nat → Int) (saw w h : Nat) (k : Nat) : Int × Int := scn (gU wf saw w h) 0 (w0B n sw sh sv w h) (w0Y n sw sh sv w h) k
def lvS (n : Nat) (sw sh sv wf : Nat → Int) (saw w h : Nat) (k : Nat) : Int × Int := scn (gL wf saw w h) 100 (upS n sw sh sv wf saw w h (w - saw - 1)).1 (upS n sw sh sv wf saw w h (w - saw - 1)).2 k
def fin (n : Nat) (sw sh sv wf : Nat → Int) (saw w h : Nat) : Int × Int := lvS n sw sh sv wf saw w h (h - saw - 1)
theorem fin_cong {n : Nat} {sw sh sv wf wf' : Nat → Int} {saw w h : Nat} (h1 : ∀ k, 1 ≤ k → k < w → wf (k * 25 + h) = wf' (k * 25 + h)) (h2 : ∀ k, 1 ≤ k → k < h → wf (w * 25 + k) = wf' (w * 25 + k)) : fin n sw sh sv wf saw w h = fin n sw sh sv wf' saw w h := by
  have e : ∀ k, k ≤ w - saw - 1 → upS n sw sh sv wf saw w h k = upS n sw sh sv wf' saw w h k := fun k hk => scn_cong (fun j a b => by
    unfold gU
    rw [h1 j a (by omega), h1 (w - saw - j) (by omega) (by omega)])
  unfold fin lvS
  rw [e _ (Nat.le_refl _)]
  exact scn_cong (fun j a b => by
    unfold gL
    rw [h2 j a (by omega), h2 (h - saw - j) (by omega) (by omega)])
theorem w0B_b {n : Nat} {sw sh sv : Nat → Int} {w h : Nat} (hs : ∀ j, j < n → 0 ≤ sv j ∧ sv j ≤ 999) : 0 ≤ w0B n sw sh sv w h ∧ w0B n sw sh sv w h ≤ 999 := by
  unfold w0B dW
  have := dI_lo sw sh sv w h n
  split
  · omega
  · exact hs _ (by omega)
/-- what comes of a board: of a sheet k, or (6) of cuts -/
def cm (mk : Nat → Int) (k saw w h : Nat) (y : Int) : Int :=
  if y < 0 then (if (k : Int) = -1 - y then 1 else 0)
  else if y < 100 then mk (y.toNat * 25 + h) + mk ((w - saw - y.toNat) * 25 + h) + (if k = 6 then 1 else 0)
  else mk (w * 25 + (y.toNat - 100)) + mk (w * 25 + (h - saw - (y.toNat - 100))) + (if k = 6 then 1 else 0)
/-- the way, as two boards' places -/
def rlY (saw w h : Int) (y f1 f2 : Int) : Prop :=
  (y < 0 ∧ f1 = -1 ∧ f2 = -1) ∨ (1 ≤ y ∧ y + saw < w ∧ f1 = y * 25 + h ∧ f2 = (w - saw - y) * 25 + h) ∨ (101 ≤ y ∧ y - 100 + saw < h ∧ f1 = w * 25 + (y - 100) ∧ f2 = w * 25 + (h - saw - (y - 100)))
/-- seven rows under one array of rows -/
def gr (r : Nat → Nat) : Nat → Option Nat := fun i => if i < 7 then some (r i) else none
def upR (m : Nat → Nat → Int) (k : Nat) (f : Nat → Int) : Nat → Nat → Int := fun i => if i = k then f else m i
theorem upR_s (m : Nat → Nat → Int) (k : Nat) (f : Nat → Int) : upR m k f k = f := if_pos rfl
theorem upR_n (m : Nat → Nat → Int) {k i : Nat} (f : Nat → Int) (h : i ≠ k) : upR m k f i = m i := if_neg h
theorem fam_at {M : KM} {r : Nat → Nat} {m : Nat → Nat → Int} {a b c : Nat × va_E} {tl : va_W} {k : Nat} (hk : k < 7) : (a :: b :: c :: cI M (r 0) 625 (m 0) :: cI M (r 1) 625 (m 1) :: cI M (r 2) 625 (m 2) :: cI M (r 3) 625 (m 3) :: cI M (r 4) 625 (m 4) :: cI M (r 5) 625 (m 5) :: cI M (r 6) 625 (m 6) :: tl)[3 + k]? = some (cI M (r k) 625 (m k)) := by
  rcases (show k = 0 ∨ k = 1 ∨ k = 2 ∨ k = 3 ∨ k = 4 ∨ k = 5 ∨ k = 6 by omega) with rfl | rfl | rfl | rfl | rfl | rfl | rfl <;> rfl
theorem fam_set {M : KM} {r : Nat → Nat} {m : Nat → Nat → Int} {a b c : Nat × va_E} {tl : va_W} {k : Nat} (hk : k < 7) (f : Nat → Int) : (a :: b :: c :: cI M (r 0) 625 (m 0) :: cI M (r 1) 625 (m 1) :: cI M (r 2) 625 (m 2) :: cI M (r 3) 625 (m 3) :: cI M (r 4) 625 (m 4) :: cI M (r 5) 625 (m 5) :: cI M (r 6) 625 (m 6) :: tl).set (3 + k) (cI M (r k) 625 f) = a :: b :: c :: cI M (r 0) 625 (upR m k f 0) :: cI M (r 1) 625 (upR m k f 1) :: cI M (r 2) 625 (upR m k f 2) :: cI M (r 3) 625 (upR m k f 3) :: cI M (r 4) 625 (upR m k f 4) :: cI M (r 5) 625 (upR m k f 5) :: cI M (r 6) 625 (upR m k f 6) :: tl := by
  rcases (show k = 0 ∨ k = 1 ∨ k = 2 ∨ k = 3 ∨ k = 4 ∨ k = 5 ∨ k = 6 by omega) with rfl | rfl | rfl | rfl | rfl | rfl | rfl <;> rfl
section KG
variable {M : KM} {E : KE} {nL cells slots d mc ms : Nat} {ws : va_W} {lv : List (Nat × Value)} {st : List Value} {cc : ByteArray} {own : String}
theorem z_grow {pc a : Nat} {r : Nat → Nat} {z : Int} (q0 k : Nat) (g : kG M E nL d mc ms cc own) (hd : decode cc pc = .ok (.aaload, 1)) (he : ws[q0]? = some (cG M a 7 (gr r))) (hz : z = (k : Int)) (hk : k < 7) (kk : kV M E nL cells slots ws lv (pc + 1) (.ref (r k) :: st)) : kV M E nL cells slots ws lv pc (.int (zI z) :: .ref a :: st) := by
  refine z_gald q0 k g hd he hz hk (by decide) ?_
  have e : va_rf (gr r k) = .ref (r k) := by
    unfold gr
    rw [if_pos hk]
    rfl
  rw [e]
  exact kk
set_option maxHeartbeats 4000000 in
theorem z_mna {pc index : Nat} (g : kG M E nL d mc ms cc own) (hd : decode cc pc = .ok (.multianewarray index 2, 4)) (hcl : Cond.classLink own index "[[I" ∈ wsA) (harr : Cond.arrayClass .int ∈ wsA) (hc : cells + 8 ≤ mc) (hs : slots + 4382 ≤ ms) (kk : ∀ (q : Nat) (r : Nat → Nat), kV M E nL (cells + 8) (slots + 4382) (ws ++ [cG M q 7 (gr r), cI M (r 0) 625 (fun _ => 0), cI M (r 1) 625 (fun _ => 0), cI M (r 2) 625 (fun _ => 0), cI M (r 3) 625 (fun _ => 0), cI M (r 4) 625 (fun _ => 0), cI M (r 5) 625 (fun _ => 0), cI M (r 6) 625 (fun _ => 0)]) lv (pc + 4) (.ref q :: st)) : kV M E nL cells slots ws lv pc (.int (zI 625) :: .int (zI 7) :: st) := by
  obtain ⟨p, e, R, s, m, args, below, meth, c, A, Q⟩ := E
  obtain ⟨hx, hb, hml, hown, hts, hK, hA, hX, hR1, hR2, hR3, hR4⟩ := g
  intro H locs ls hP hD hS hl
  have hPn : va_P M.1 vwCl (ws ++ va_pl [] (fun _ => .inr (0, []))) H := by
    rw [show va_pl [] (fun _ => (.inr (0, []) : va_E)) = [] from rfl, List.append_nil]
    exact hP
  have hDn : va_D A (ws ++ va_pl [] (fun _ => .inr (0, []))) := by
    rw [show va_pl [] (fun _ => (.inr (0, []) : va_E)) = [] from rfl, List.append_nil]
    exact hD
  have es : ("[" ++ (FieldType.array FieldType.int).toString) = "[[I" := by decide +kernel
  have ei : (FieldType.array FieldType.int).toString = "[I" := by decide +kernel
  have h7 : zI 7 = zI ((7 : Nat) : Int) := rfl
  have h625 : zI 625 = zI ((625 : Nat) : Int) := rfl
  refine va_mna (ty := .int) (cy := M.2.1 0) (z := (625, .inl (fun _ => zI 0))) (N' := 7) (K' := 625) hx hb hown (by rw [es]; exact hts _ hcl) hX.2.2.2.2.2.2.2.2.2.2 (hts _ harr) (by rw [ei]; exact va_nm_int (hK.2 0 _ rfl).2) hK hPn hDn hS hA (by rw [h7]; exact zI_nneg (by decide)) (by rw [h625]; exact zI_nneg (by decide)) (zI_clamp (k := 7) rfl (by decide)) (zI_clamp (k := 625) rfl (by decide)) (by decide) (by decide) (by decide) rfl rfl (by omega) (by omega) (fun cl => ?_) hd (fun q r cA H1 hr1 hr2 hK1 hP1 hD1 hS1 => ?_)
  · rw [vp_cell_i, zI_0]
    exact arrV_new cl 625 (defaultValue .int)
  · have e1 : s.vm.findClass ("[" ++ (FieldType.array FieldType.int).toString) = some cA := (hK1.2 4 _ rfl).2
    have e2 : s.vm.findClass ("[" ++ (FieldType.array FieldType.int).toString) = some (M.2.1 3) := (hK.2 3 _ rfl).2
    have e3 : some cA = some (M.2.1 3) := e1.symm.trans e2
    cases e3
    have er : va_pl ([] ++ (List.range 7).map r) (vr_up (fun _ => (.inr (0, []) : va_E)) ((List.range 7).map r) (.inl (M.2.1 0, 625, .inl (fun _ => zI 0)))) = [cI M (r 0) 625 (fun _ => 0), cI M (r 1) 625 (fun _ => 0), cI M (r 2) 625 (fun _ => 0), cI M (r 3) 625 (fun _ => 0), cI M (r 4) 625 (fun _ => 0), cI M (r 5) 625 (fun _ => 0), cI M (r 6) 625 (fun _ => 0)] := by
      rw [List.nil_append]
      unfold va_pl
      rw [List.map_congr_left (g := fun a => (a, (.inl (M.2.1 0, 625, .inl (fun _ => zI 0)) : va_E))) (fun a ha => by rw [vr_up_in ha])]
      rfl
    rw [er, List.append_assoc] at hP1 hD1
    exact W.widen (by omega) (by omega) (kk q r H1 locs ls hP1 hD1 hS1 hl)
end KG
