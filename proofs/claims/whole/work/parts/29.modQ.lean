/-! the reference's table of distances -/
def cnF (f : Nat → Int) : Int := zS (fun j => if f j < 0 then 0 else 1) 32
def phF (f : Nat → Int) : Int := zS (fun j => if f j < 0 then 40 else f j) 32
theorem zS_upd {f : Nat → Int} {g : Int → Int} {k : Nat} {v : Int} : ∀ {n : Nat}, k < n → zS (fun j => g (zU f k v j)) n + g (f k) = zS (fun j => g (f j)) n + g v
  | 0, h => absurd h (Nat.not_lt_zero _)
  | n + 1, h => by
    show zS (fun j => g (zU f k v j)) n + g (zU f k v n) + g (f k) = zS (fun j => g (f j)) n + g (f n) + g v
    by_cases e : k = n
    · subst e
      have h1 : zS (fun j => g (zU f k v j)) k = zS (fun j => g (f j)) k := zS_cong (fun j hj => by rw [zU_n _ _ (by omega)])
      rw [h1, zU_s]
      omega
    · have h1 := zS_upd (f := f) (g := g) (k := k) (v := v) (n := n) (by omega)
      rw [zU_n _ _ (show n ≠ k by omega)]
      omega
def gF (nx : Nat → Nat → Nat) (bd : Nat → Prop) (f : Nat → Int) : Prop := ∀ k, k < 32 → f k = -1 ∨ (1 ≤ f k ∧ f k ≤ cnF f ∧ rch nx bd (f k).toNat k)
def fxF (nx : Nat → Nat → Nat) (bd : Nat → Prop) (f : Nat → Int) (k e : Nat) : Prop := (bd (nx k e) → 0 ≤ f k ∧ f k ≤ 1) ∧ (¬ bd (nx k e) → 0 ≤ f (nx k e) → 0 ≤ f k ∧ f k ≤ f (nx k e) + 1)
theorem cnF_b (f : Nat → Int) : 0 ≤ cnF f ∧ cnF f ≤ 32 := by
  have := zS_lo (f := fun j => if f j < 0 then (0 : Int) else 1) (c := 1) (n := 32) (fun j _ => by
    show 0 ≤ (if f j < 0 then (0 : Int) else 1) ∧ (if f j < 0 then (0 : Int) else 1) ≤ 1
    split <;> omega)
  unfold cnF
  omega
theorem gF_b {nx : Nat → Nat → Nat} {bd : Nat → Prop} {f : Nat → Int} (h : gF nx bd f) : ∀ k, k < 32 → -1 ≤ f k ∧ f k ≤ 32 ∧ f k ≠ 0 := by
  intro k hk
  have := cnF_b f
  rcases h k hk with q | ⟨a, b, c⟩ <;> omega
theorem phF_b {nx : Nat → Nat → Nat} {bd : Nat → Prop} {f : Nat → Int} (h : gF nx bd f) : 0 ≤ phF f := by
  have := zS_lo (f := fun j => if f j < 0 then (40 : Int) else f j) (c := 40) (n := 32) (fun j hj => by
    have hb := gF_b h j hj
    show 0 ≤ (if f j < 0 then (40 : Int) else f j) ∧ (if f j < 0 then (40 : Int) else f j) ≤ 40
    split <;> omega)
  exact this.1
theorem gF_start (nx : Nat → Nat → Nat) (bd : Nat → Prop) : gF nx bd (fun _ => -1) := fun _ _ => Or.inl rfl
theorem gF_upd {nx : Nat → Nat → Nat} {bd : Nat → Prop} {f : Nat → Int} {k : Nat} {v : Int} (h : gF nx bd f) (hk : k < 32) (hv : 1 ≤ v) (hv2 : v ≤ cnF f + 1) (hr : rch nx bd v.toNat k) (hc : f k < 0 ∨ v < f k) : gF nx bd (zU f k v) ∧ phF (zU f k v) + 1 ≤ phF f := by
  have c0 := cnF_b f
  have e1 : cnF (zU f k v) + (if f k < 0 then 0 else 1) = cnF f + (if v < 0 then 0 else 1) := zS_upd (f := f) (g := fun x => if x < 0 then 0 else 1) hk
  have e2 : phF (zU f k v) + (if f k < 0 then 40 else f k) = phF f + (if v < 0 then 40 else v) := zS_upd (f := f) (g := fun x => if x < 0 then 40 else x) hk
  rw [if_neg (show ¬ v < 0 by omega)] at e1 e2
  have hb := gF_b h k hk
  have hcn : cnF f ≤ cnF (zU f k v) ∧ v ≤ cnF (zU f k v) := by
    by_cases c : f k < 0
    · rw [if_pos c] at e1
      omega
    · rw [if_neg c] at e1
      rcases h k hk with q | ⟨a, b, d⟩ <;> omega
  constructor
  · intro j hj
    by_cases e : j = k
    · subst e
      rw [zU_s]
      exact Or.inr ⟨hv, hcn.2, hr⟩
    · rw [zU_n _ _ e]
      rcases h j hj with q | ⟨a, b, d⟩
      · exact Or.inl q
      · exact Or.inr ⟨a, by omega, d⟩
  · by_cases c : f k < 0
    · rw [if_pos c] at e2
      omega
    · rw [if_neg c] at e2
      omega
def dsF (nx : Nat → Nat → Nat) (bd : Nat → Prop) (f : Nat → Int) : Prop := gF nx bd f ∧ ∀ k e, k < 32 → e < 4 → fxF nx bd f k e
theorem dsF_le {nx : Nat → Nat → Nat} {bd : Nat → Prop} {f : Nat → Int} (h : dsF nx bd f) (hn : ∀ k e, k < 32 → e < 4 → nx k e < 32) : ∀ m k, k < 32 → rch nx bd (m + 1) k → 0 ≤ f k ∧ f k ≤ (m : Int) + 1 := by
  intro m
  induction m with
  | zero =>
    intro k hk ⟨e, he, hr⟩
    have := (h.2 k e hk he).1 hr
    omega
  | succ m ih =>
    intro k hk ⟨e, he, hr⟩
    by_cases c : bd (nx k e)
    · have := (h.2 k e hk he).1 c
      omega
    · have h1 := ih (nx k e) (hn k e hk he) hr
      have := (h.2 k e hk he).2 c h1.1
      omega
theorem dsF_none {nx : Nat → Nat → Nat} {bd : Nat → Prop} {f : Nat → Int} (h : dsF nx bd f) (hn : noRow nx bd) : f 0 = -1 := by
  rcases h.1 0 (by omega) with q | ⟨a, b, c⟩
  · exact q
  · exact absurd c (hn _ (by omega))
theorem dsF_row {nx : Nat → Nat → Nat} {bd : Nat → Prop} {f : Nat → Int} {L : Nat} {ev : Nat → Nat} (h : dsF nx bd f) (hn : ∀ k e, k < 32 → e < 4 → nx k e < 32) (hr : isRow nx bd L ev) : f 0 = (L : Int) := by
  have h1 := dsF_le h hn (L - 1) 0 (by omega) (by rw [show L - 1 + 1 = L by have := hr.1; omega]; exact isRow_rch hr)
  have h2 := hr.1
  rcases h.1 0 (by omega) with q | ⟨a, b, c⟩
  · omega
  · by_cases q : (f 0).toNat < L
    · exact absurd c (hr.2.2.2.1 _ (by omega) q)
    · omega
/-- a path, and what can be reached from its end -/
theorem pth_more {nx : Nat → Nat → Nat} {bd : Nat → Prop} {L : Nat} {ev : Nat → Nat} (h4 : ∀ i, i < L → ev i < 4) : ∀ i m, i ≤ L → rch nx bd m (pth nx ev i) → rch nx bd (m + i) 0
  | 0, m, _, h => h
  | i + 1, m, hi, h => by
    have := pth_more h4 i (m + 1) (by omega) ⟨ev i, h4 i (by omega), h⟩
    rw [show m + (i + 1) = m + 1 + i by omega]
    exact this
theorem pth_lt {nx : Nat → Nat → Nat} {L : Nat} {ev : Nat → Nat} (h4 : ∀ i, i < L → ev i < 4) (hn : ∀ k e, k < 32 → e < 4 → nx k e < 32) : ∀ i, i ≤ L → pth nx ev i < 32
  | 0, _ => by
    show 0 < 32
    omega
  | i + 1, hi => hn _ _ (pth_lt h4 hn i (by omega)) (h4 i (by omega))
/-- what onward answers -/
def onF (nx : Nat → Nat → Nat) (bd : Nat → Prop) (f : Nat → Int) (k e : Nat) (z : Int) : Prop := (bd (nx k e) ∧ z = 1) ∨ (¬ bd (nx k e) ∧ f (nx k e) < 0 ∧ z = -1) ∨ (¬ bd (nx k e) ∧ 0 ≤ f (nx k e) ∧ z = f (nx k e) + 1)
theorem onF_b {nx : Nat → Nat → Nat} {bd : Nat → Prop} {f : Nat → Int} {k e : Nat} {z : Int} (h : onF nx bd f k e z) (hf : ∀ k, k < 32 → -1 ≤ f k ∧ f k ≤ 32 ∧ f k ≠ 0) (hn : nx k e < 32) : z = -1 ∨ (1 ≤ z ∧ z ≤ 33) := by
  have := hf _ hn
  rcases h with ⟨a, b⟩ | ⟨a, b, c⟩ | ⟨a, b, c⟩ <;> omega
theorem onF_rch {nx : Nat → Nat → Nat} {bd : Nat → Prop} {f : Nat → Int} {k e : Nat} {z : Int} (h : onF nx bd f k e z) (hf : gF nx bd f) (hn : nx k e < 32) (he : e < 4) (hz : 0 ≤ z) : rch nx bd z.toNat k ∧ z ≤ cnF f + 1 := by
  have c0 := cnF_b f
  rcases h with ⟨a, b⟩ | ⟨a, b, c⟩ | ⟨a, b, c⟩
  · subst b
    exact ⟨⟨e, he, a⟩, by omega⟩
  · omega
  · rcases hf _ hn with q | ⟨q1, q2, q3⟩
    · omega
    · subst c
      rw [show (f (nx k e) + 1).toNat = (f (nx k e)).toNat + 1 by omega]
      exact ⟨⟨e, he, q3⟩, by omega⟩
theorem onF_fx {nx : Nat → Nat → Nat} {bd : Nat → Prop} {f : Nat → Int} {k e : Nat} {z : Int} (h : onF nx bd f k e z) (hc : z < 0 ∨ (0 ≤ f k ∧ f k ≤ z)) : fxF nx bd f k e := by
  rcases h with ⟨a, b⟩ | ⟨a, b, c⟩ | ⟨a, b, c⟩
  · exact ⟨fun _ => by omega, fun q => absurd a q⟩
  · exact ⟨fun q => absurd q a, fun _ q => by omega⟩
  · exact ⟨fun q => absurd q a, fun _ q => by omega⟩
/-- the event that the least row takes is the first whose onward is what is left -/
theorem onF_yes {nx : Nat → Nat → Nat} {bd : Nat → Prop} {f : Nat → Int} {L i : Nat} {ev : Nat → Nat} {z : Int} (h : dsF nx bd f) (hn : ∀ k e, k < 32 → e < 4 → nx k e < 32) (hr : isRow nx bd L ev) (hi : i < L) (ho : onF nx bd f (pth nx ev i) (ev i) z) : z = (L : Int) - i := by
  have p0 := pth_lt hr.2.1 hn i (by omega)
  have p1 := pth_lt hr.2.1 hn (i + 1) (by omega)
  have e1 : nx (pth nx ev i) (ev i) = pth nx ev (i + 1) := rfl
  unfold onF at ho
  rw [e1] at ho
  have hm : ∀ m, 1 ≤ m → rch nx bd m 0 → L ≤ m := fun m a b => by
    rcases Nat.lt_or_ge m L with q | q
    · exact absurd b (hr.2.2.2.1 m a q)
    · exact q
  have hb : bd (pth nx ev (i + 1)) → i + 1 = L := fun q => by
    have := hm (0 + (i + 1)) (by omega) (pth_more hr.2.1 (i + 1) 0 (by omega) q)
    omega
  have hback := pth_rch hr.2.1 hr.2.2.1 (L - (i + 1)) (by omega)
  rw [show L - (L - (i + 1)) = i + 1 by omega] at hback
  by_cases c : i + 1 = L
  · have hbb : bd (pth nx ev (i + 1)) := by rw [c]; exact hr.2.2.1
    rcases ho with ⟨a, b⟩ | ⟨a, b, c⟩ | ⟨a, b, c⟩
    · omega
    · exact absurd hbb a
    · exact absurd hbb a
  · have hle := dsF_le h hn (L - (i + 1) - 1) (pth nx ev (i + 1)) p1 (by rw [show L - (i + 1) - 1 + 1 = L - (i + 1) by omega]; exact hback)
    rcases ho with ⟨a, b⟩ | ⟨a, b, d⟩ | ⟨a, b, d⟩
    · exact absurd (hb a) c
    · omega
    · rcases h.1 _ p1 with q | ⟨q1, q2, q3⟩
      · omega
      · have := hm _ (by omega) (pth_more hr.2.1 (i + 1) _ (by omega) q3)
        omega
theorem onF_no {nx : Nat → Nat → Nat} {bd : Nat → Prop} {f : Nat → Int} {L i e : Nat} {ev : Nat → Nat} {z : Int} (h : dsF nx bd f) (hn : ∀ k e, k < 32 → e < 4 → nx k e < 32) (hr : isRow nx bd L ev) (hi : i < L) (he : e < ev i) (ho : onF nx bd f (pth nx ev i) e z) : z ≠ (L : Int) - i := by
  intro hz
  have p0 := pth_lt hr.2.1 hn i (by omega)
  have h4 := hr.2.1 i hi
  have p1 := hn _ e p0 (by omega)
  refine hr.2.2.2.2 i e hi he ?_
  rcases ho with ⟨a, b⟩ | ⟨a, b, d⟩ | ⟨a, b, d⟩
  · rw [show L - 1 - i = 0 by omega]
    exact a
  · omega
  · rcases h.1 _ p1 with q | ⟨q1, q2, q3⟩
    · omega
    · rw [show L - 1 - i = (f (nx (pth nx ev i) e)).toNat by omega]
      exact q3
theorem lD_ve {A : Nat → Int} {v e : Nat} (hv : v < 32) (he : e < 4) : lD A (v / 4 * 4 + e) = A ((250 + (6 * (v / 4))) + e) := by
  rw [lD_at (by omega), show (v / 4 * 4 + e) / 4 = v / 4 by omega, show (v / 4 * 4 + e) % 4 = e by omega]
theorem lF255 {A : Nat → Int} {s : Nat} (h : s < 8) : lF 255 6 8 A s = A ((250 + (6 * s)) + 5) := by
  rw [lF_at h]
  congr 1
  omega
theorem lF254 {A : Nat → Int} {s : Nat} (h : s < 8) : lF 254 6 8 A s = A ((250 + (6 * s)) + 4) := by
  rw [lF_at h]
  congr 1
  omega
theorem nxD_lt {dl dw : Nat → Int} (hdl : ∀ j, j < 32 → 0 ≤ dl j ∧ dl j < 8) : ∀ k e, k < 32 → e < 4 → nxD dl dw k e < 32 := by
  intro k e hk he
  have := hdl (k / 4 * 4 + e) (by omega)
  unfold nxD
  repeat split
  all_goals omega
/-! boards -/
theorem zU_zU (f : Nat → Int) (k : Nat) (a b : Int) : zU (zU f k a) k b = zU f k b := by
  funext j
  unfold zU
  split <;> rfl
theorem w0_yes {n : Nat} {sw sh sv : Nat → Int} {w h : Nat} (hc : sw n ≤ w ∧ sh n ≤ h ∧ w0B n sw sh sv w h < sv n) : w0B (n + 1) sw sh sv w h = sv n ∧ w0Y (n + 1) sw sh sv w h = -1 - (n : Int) := by
  have e : dI sw sh sv w h (n + 1) = (n : Int) := by
    show (if sw n ≤ w ∧ sh n ≤ h ∧ dW sv (dI sw sh sv w h n) < sv n then (n : Int) else dI sw sh sv w h n) = n
    exact if_pos hc
  unfold w0B w0Y dW
  rw [e, if_neg (by omega), if_neg (by omega)]
  exact ⟨rfl, rfl⟩
theorem w0_no {n : Nat} {sw sh sv : Nat → Int} {w h : Nat} (hc : ¬ (sw n ≤ w ∧ sh n ≤ h ∧ w0B n sw sh sv w h < sv n)) : w0B (n + 1) sw sh sv w h = w0B n sw sh sv w h ∧ w0Y (n + 1) sw sh sv w h = w0Y n sw sh sv w h := by
  have e : dI sw sh sv w h (n + 1) = dI sw sh sv w h n := by
    show (if sw n ≤ w ∧ sh n ≤ h ∧ dW sv (dI sw sh sv w h n) < sv n then (n : Int) else dI sw sh sv w h n) = _
    exact if_neg hc
  unfold w0B w0Y
  rw [e]
  exact ⟨rfl, rfl⟩
theorem w0Y_rg {n : Nat} {sw sh sv : Nat → Int} {w h : Nat} : w0Y n sw sh sv w h = -100 ∨ (-(n : Int) ≤ w0Y n sw sh sv w h ∧ w0Y n sw sh sv w h ≤ -1) := by
  have := dI_lo sw sh sv w h n
  unfold w0Y
  split <;> omega
theorem fin_rg2 {n : Nat} {sw sh sv wf : Nat → Int} {s w h : Nat} (hn : n ≤ 6) : (fin n sw sh sv wf s w h).2 = -100 ∨ (-6 ≤ (fin n sw sh sv wf s w h).2 ∧ (fin n sw sh sv wf s w h).2 ≤ -1) ∨ (1 ≤ (fin n sw sh sv wf s w h).2 ∧ (fin n sw sh sv wf s w h).2 + s < w) ∨ (101 ≤ (fin n sw sh sv wf s w h).2 ∧ (fin n sw sh sv wf s w h).2 - 100 + s < h) := by
  have h1 := scn_rg (g := gL wf s w h) (off := 100) (b0 := (upS n sw sh sv wf s w h (w - s - 1)).1) (y0 := (upS n sw sh sv wf s w h (w - s - 1)).2) (m := h - s - 1)
  have h2 := scn_rg (g := gU wf s w h) (off := 0) (b0 := w0B n sw sh sv w h) (y0 := w0Y n sw sh sv w h) (m := w - s - 1)
  have h3 := w0Y_rg (n := n) (sw := sw) (sh := sh) (sv := sv) (w := w) (h := h)
  have e1 : (fin n sw sh sv wf s w h).2 = (scn (gL wf s w h) 100 (upS n sw sh sv wf s w h (w - s - 1)).1 (upS n sw sh sv wf s w h (w - s - 1)).2 (h - s - 1)).2 := rfl
  have e2 : (upS n sw sh sv wf s w h (w - s - 1)).2 = (scn (gU wf s w h) 0 (w0B n sw sh sv w h) (w0Y n sw sh sv w h) (w - s - 1)).2 := rfl
  rw [← e1] at h1
  rw [← e2] at h2
  omega
section SAME
variable {M : KM} {E : KE} {nL cells slots d mc ms : Nat} {ws : va_W} {lv : List (Nat × Value)} {st : List Value} {cc : ByteArray} {own : String}
theorem z_same {pc : Nat} {a b off : Int} (tgt : Nat) (g : kG M E nL d mc ms cc own) (hd : decode cc pc = .ok (.if_icmp .eq off, 3)) (ht : (pc : Int) + off = (tgt : Int)) (hab : a = b) (kt : kV M E nL cells slots ws lv tgt st) : kV M E nL cells slots ws lv pc (.int (zI b) :: .int (zI a) :: st) := by
  obtain ⟨p, e, R, s, m, args, below, meth, c, A, Q⟩ := E
  obtain ⟨hx, hb, hml, hown, hts, hK, hA, hX, hR1, hR2, hR3, hR4⟩ := g
  intro H locs ls hP hD hS hl
  exact lv_icmp_eq hx hb hd ht (fun h => kt H locs ls hP hD hS hl) (fun h => absurd (by rw [hab]) h)
end SAME
