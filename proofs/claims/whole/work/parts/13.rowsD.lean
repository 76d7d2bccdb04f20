/-! the drawers' law, pasted from the kit's texts to paste -/
theorem fb_holes : ∀ (m n : Nat) (f : Nat → Nat), (∀ i, i < n → f i < m) → (∀ i j, i < j → j < n → f i ≠ f j) → n ≤ m := by
  intro m
  induction m with
  | zero =>
    intro n f h1 _
    rcases Nat.eq_zero_or_pos n with h | h
    · omega
    · exact absurd (h1 0 h) (Nat.not_lt_zero _)
  | succ m ih =>
    intro n f h1 h2
    by_cases hx : ∃ i, i < n ∧ f i = m
    · obtain ⟨a, ha, hfa⟩ := hx
      have hg := ih (n - 1) (fun i => if i < a then f i else f (i + 1)) (by
        intro i hi
        by_cases q : i < a
        · simp only [if_pos q]
          have b1 := h1 i (by omega)
          have b2 := h2 i a q ha
          omega
        · simp only [if_neg q]
          have b1 := h1 (i + 1) (by omega)
          have b2 := h2 a (i + 1) (by omega) (by omega)
          omega) (by
        intro i j hij hj
        by_cases q : i < a
        · by_cases r : j < a
          · simp only [if_pos q, if_pos r]
            exact h2 i j hij (by omega)
          · simp only [if_pos q, if_neg r]
            exact h2 i (j + 1) (by omega) (by omega)
        · have r : ¬ j < a := by omega
          simp only [if_neg q, if_neg r]
          exact h2 (i + 1) (j + 1) (by omega) (by omega))
      omega
    · have hg := ih n f (fun i hi => by
        have b1 := h1 i hi
        have b2 : f i ≠ m := fun e => hx ⟨i, hi, e⟩
        omega) h2
      omega

/-! the dryer's table as spots (4 times the state, and the danger) and events -/
def nxD (dl dw : Nat → Int) (v e : Nat) : Nat := 4 * (dl (v / 4 * 4 + e)).toNat + (if e = 1 then 3 else v % 4 - (if dw (dl (v / 4 * 4 + e)).toNat = 0 then 1 else 2))
def bdD (df : Nat → Int) (v : Nat) : Prop := df (v / 4) = 1 ∧ 2 ≤ v % 4
theorem bdD_0 (df : Nat → Int) : ¬ bdD df 0 := fun h => absurd h.2 (by omega)
/-- the search's rows hold what the search knows -/
def QI (dl dw df : Nat → Int) (n : Int) (fs fq ff fb : Nat → Int) (qn fn bn dp : Nat → Nat) (K : Nat) : Prop :=
  BI (nxD dl dw) (bdD df) n.toNat qn fn bn dp K ∧ (0 ≤ n ∧ n ≤ 32) ∧ (∀ c, c < n.toNat → fq c = (qn c : Int)) ∧ (∀ c, 1 ≤ c → c < n.toNat → ff c = (fn c : Int) ∧ fb c = (bn c : Int)) ∧
  (∀ v, v < 32 → (fs v = 1 ∧ ∃ c, c < n.toNat ∧ qn c = v) ∨ (fs v = 0 ∧ ∀ c, c < n.toNat → qn c ≠ v))
theorem QI_start {dl dw df fs fq ff fb : Nat → Int} (h0 : ∀ j, j < 32 → fs j = 0) : QI dl dw df 1 (zU fs 0 1) (zU fq 0 0) ff fb (fun _ => 0) (fun _ => 0) (fun _ => 0) (fun _ => 0) 0 := by
  refine ⟨BI_0 rfl rfl, by omega, fun c hc => ?_, fun c c1 c2 => ?_, fun v hv => ?_⟩
  · have e : c = 0 := by have : (1 : Int).toNat = 1 := rfl; omega
    rw [e, zU_s]; rfl
  · have : (1 : Int).toNat = 1 := rfl
    omega
  · by_cases e : v = 0
    · left; rw [e, zU_s]; exact ⟨rfl, 0, by decide, rfl⟩
    · right; rw [zU_n _ _ e]; exact ⟨h0 v hv, fun c _ h => e h.symm⟩
theorem QI_old {dl dw df : Nat → Int} {n : Int} {fs fq ff fb : Nat → Int} {qn fn bn dp : Nat → Nat} {p e : Int} {v : Nat} (h : QI dl dw df n fs fq ff fb qn fn bn dp (4 * p.toNat + e.toNat)) (hp : 0 ≤ p ∧ p < n) (he : 0 ≤ e ∧ e < 4) (hv : v = nxD dl dw (qn p.toNat) e.toNat) (hv2 : v < 32) (hs : fs v = 1) : QI dl dw df n fs fq ff fb qn fn bn dp (4 * p.toNat + (e + 1).toNat) := by
  obtain ⟨h1, h2, h3, h4, h5⟩ := h
  have hc : ∃ c, c < n.toNat ∧ qn c = v := by
    rcases h5 v hv2 with q | q
    · exact q.2
    · omega
  refine ⟨?_, h2, h3, h4, h5⟩
  rw [show 4 * p.toNat + (e + 1).toNat = 4 * p.toNat + e.toNat + 1 by omega]
  subst hv
  refine BI_old h1 (by omega) (by omega) ?_ hc
  obtain ⟨c, c1, c2⟩ := hc
  rw [← c2]
  exact BI_fresh h1 (bdD_0 df) c c1
theorem QI_room {dl dw df : Nat → Int} {n : Int} {fs fq ff fb : Nat → Int} {qn fn bn dp : Nat → Nat} {K v : Nat} (h : QI dl dw df n fs fq ff fb qn fn bn dp K) (hv2 : v < 32) (hs : fs v = 0) : n < 32 := by
  obtain ⟨h1, h2, h3, h4, h5⟩ := h
  have hc : ∀ c, c < n.toNat → qn c ≠ v := by
    rcases h5 v hv2 with q | q
    · omega
    · exact q.2
  obtain ⟨⟨g1, g2, g3, g4⟩, i2, -⟩ := h1
  have := fb_holes 32 (n.toNat + 1) (nU qn n.toNat v) (fun i hi => by
    by_cases e : i = n.toNat
    · rw [e, nU_s]; exact hv2
    · rw [nU_n _ _ e]; exact g4 i (by omega)) (fun i j hij hj => by
    by_cases e : j = n.toNat
    · rw [e, nU_s, nU_n _ _ (by omega)]; exact hc i (by omega)
    · rw [nU_n _ _ e, nU_n _ _ (by omega)]
      intro q
      have := i2 i j (by omega) (by omega) q
      omega)
  omega
theorem QI_new {dl dw df : Nat → Int} {n : Int} {fs fq ff fb : Nat → Int} {qn fn bn dp : Nat → Nat} {p e : Int} {v : Nat} (h : QI dl dw df n fs fq ff fb qn fn bn dp (4 * p.toNat + e.toNat)) (hp : 0 ≤ p ∧ p < n) (he : 0 ≤ e ∧ e < 4) (hv : v = nxD dl dw (qn p.toNat) e.toNat) (hv2 : v < 32) (hs : fs v = 0) (hnb : ¬ bdD df v) {x : Int} (hx : x = (v : Int)) :
    QI dl dw df (n + 1) (zU fs v 1) (zU fq n.toNat x) (zU ff n.toNat p) (zU fb n.toNat e) (nU qn n.toNat v) (nU fn n.toNat p.toNat) (nU bn n.toNat e.toNat) (nU dp n.toNat (dp p.toNat + 1)) (4 * p.toNat + (e + 1).toNat) := by
  subst hx
  have hr := QI_room h hv2 hs
  obtain ⟨h1, h2, h3, h4, h5⟩ := h
  have hc : ∀ c, c < n.toNat → qn c ≠ v := by
    rcases h5 v hv2 with q | q
    · omega
    · exact q.2
  have en : (n + 1).toNat = n.toNat + 1 := by omega
  unfold QI
  rw [en]
  refine ⟨?_, by omega, fun c hcc => ?_, fun c c1 c2 => ?_, fun w hw => ?_⟩
  · rw [show 4 * p.toNat + (e + 1).toNat = 4 * p.toNat + e.toNat + 1 by omega]
    subst hv
    exact BI_new h1 (by omega) (by omega) hv2 hnb hc
  · by_cases q : c = n.toNat
    · rw [q, zU_s, nU_s]
    · rw [zU_n _ _ q, nU_n _ _ q]; exact h3 c (by omega)
  · by_cases q : c = n.toNat
    · rw [q, zU_s, nU_s, zU_s, nU_s]; omega
    · rw [zU_n _ _ q, nU_n _ _ q, zU_n _ _ q, nU_n _ _ q]; exact h4 c c1 (by omega)
  · by_cases q : w = v
    · left
      rw [q, zU_s]
      exact ⟨rfl, n.toNat, by omega, nU_s _ _ _⟩
    · rw [zU_n _ _ q]
      rcases h5 w hw with ⟨a, c, c1, c2⟩ | ⟨a, a2⟩
      · left; exact ⟨a, c, by omega, by rw [nU_n _ _ (by omega)]; exact c2⟩
      · right
        refine ⟨a, fun c hcc => ?_⟩
        by_cases r : c = n.toNat
        · rw [r, nU_s]; exact fun x => q x.symm
        · rw [nU_n _ _ r]; exact a2 c (by omega)
theorem anc_cong {f g : Nat → Nat} {a : Nat} : ∀ j, (∀ i, i < j → f (anc f a i) = g (anc f a i)) → anc f a j = anc g a j
  | 0, _ => rfl
  | j + 1, h => by
    have h1 := anc_cong (f := f) (g := g) (a := a) j (fun i hi => h i (by omega))
    show f (anc f a j) = g (anc g a j)
    rw [← h1]
    exact h j (by omega)
/-- the bad spot is found: the chain from its place, and what it says -/
theorem QI_found {dl dw df : Nat → Int} {n : Int} {fs fq ff fb : Nat → Int} {qn fn bn dp : Nat → Nat} {p e : Int} {v : Nat} (h : QI dl dw df n fs fq ff fb qn fn bn dp (4 * p.toNat + e.toNat)) (hp : 0 ≤ p ∧ p < n) (he : 0 ≤ e ∧ e < 4) (hv : v = nxD dl dw (qn p.toNat) e.toNat) (hn : n < 32) (hb : bdD df v) :
    ∃ (f2 b2 : Nat → Nat) (L : Nat), L ≤ 31 ∧ isRow (nxD dl dw) (bdD df) L (fun i => b2 (anc f2 n.toNat (L - 1 - i))) ∧ anc f2 n.toNat L = 0 ∧ (∀ j, j < L → 1 ≤ anc f2 n.toNat j ∧ anc f2 n.toNat j < 32 ∧ zU ff n.toNat p (anc f2 n.toNat j) = (f2 (anc f2 n.toNat j) : Int)) ∧ ∀ j, j < L → zU fb n.toNat e (anc f2 n.toNat j) = (b2 (anc f2 n.toNat j) : Int) := by
  obtain ⟨h1, h2, h3, h4, h5⟩ := h
  obtain ⟨⟨g1, g2, g3, g4⟩, i2, i3, i4, i5⟩ := h1
  have hN : ∀ (f : Nat → Nat) (x : Nat) {j : Nat}, j < n.toNat → nU f n.toNat x j = f j := fun f x j hj => nU_n _ _ (by omega)
  have key := BI_found (nx := nxD dl dw) (bd := bdD df) (n := n.toNat) (qn := nU qn n.toNat v) (fn := nU fn n.toNat p.toNat) (bn := nU bn n.toNat e.toNat) (dp := nU dp n.toNat (dp p.toNat + 1)) g1 (by rw [hN _ _ (by omega)]; exact g2) (by rw [hN _ _ (by omega)]; exact g3) (fun c c1 c2 => by
      by_cases q : c = n.toNat
      · rw [q, nU_s, nU_s, nU_s, nU_s, hN _ _ (by omega), hN _ _ (by omega)]
        exact ⟨by omega, by omega, hv, rfl⟩
      · obtain ⟨a1, a2, a3, a4, a5⟩ := i3 c c1 (by omega)
        rw [hN _ _ (by omega), hN _ _ (by omega), hN _ _ (by omega), hN _ _ (by omega), hN _ _ (by omega), hN _ _ (by omega)]
        exact ⟨a1, a2, a3, a4⟩) (fun c c' c1 c2 c3 => by
      by_cases q : c' = n.toNat
      · rw [q, nU_s, nU_s, hN _ _ (by omega), hN _ _ (by omega)]
        exact (i3 c c1 (by omega)).2.2.2.2
      · rw [hN _ _ (by omega), hN _ _ (by omega), hN _ _ (by omega), hN _ _ (by omega)]
        exact i4 c c' c1 c2 (by omega)) (fun a b hb4 hk => by
      rw [nU_s, nU_s] at hk
      obtain ⟨b1, b2, c, b3, b4, b5⟩ := i5 a b hb4 hk
      rw [hN _ _ b1]
      refine ⟨b2, c, by omega, by rw [hN _ _ b3]; exact b4, ?_⟩
      rw [hN _ _ b3, hN _ _ b3]
      exact b5) (by rw [nU_s]; exact hb)
  obtain ⟨k1, k2, k3⟩ := key
  refine ⟨nU fn n.toNat p.toNat, nU bn n.toNat e.toNat, nU dp n.toNat (dp p.toNat + 1) n.toNat, ?_, k1, k2, fun j hj => ?_, fun j hj => ?_⟩
  · -- the chain's places are apart and below 32
    have := fb_holes 31 (nU dp n.toNat (dp p.toNat + 1) n.toNat) (fun j => anc (nU fn n.toNat p.toNat) n.toNat j - 1) (fun i hi => by
      have := k3 i hi
      show anc (nU fn n.toNat p.toNat) n.toNat i - 1 < 31
      omega) (fun i j hij hj => by
      have hdec : ∀ t, i + t < nU dp n.toNat (dp p.toNat + 1) n.toNat → anc (nU fn n.toNat p.toNat) n.toNat (i + t) + t ≤ anc (nU fn n.toNat p.toNat) n.toNat i := by
        intro t
        induction t with
        | zero => intro _; exact Nat.le_refl _
        | succ t ih =>
          intro ht
          have a := ih (by omega)
          have b := k3 (i + t) (by omega)
          have c : anc (nU fn n.toNat p.toNat) n.toNat (i + (t + 1)) = nU fn n.toNat p.toNat (anc (nU fn n.toNat p.toNat) n.toNat (i + t)) := rfl
          have d : nU fn n.toNat p.toNat (anc (nU fn n.toNat p.toNat) n.toNat (i + t)) < anc (nU fn n.toNat p.toNat) n.toNat (i + t) := by
            by_cases q : anc (nU fn n.toNat p.toNat) n.toNat (i + t) = n.toNat
            · rw [q, nU_s]; omega
            · rw [hN _ _ (by omega)]
              exact (i3 _ b.1 (by omega)).1
          rw [c]
          omega
      have q1 := hdec (j - i) (by omega)
      rw [show i + (j - i) = j by omega] at q1
      have q2 := k3 j hj
      show anc (nU fn n.toNat p.toNat) n.toNat i - 1 ≠ anc (nU fn n.toNat p.toNat) n.toNat j - 1
      omega)
    exact this
  · obtain ⟨a1, a2⟩ := k3 j hj
    refine ⟨a1, by omega, ?_⟩
    by_cases q : anc (nU fn n.toNat p.toNat) n.toNat j = n.toNat
    · rw [q, zU_s, nU_s]; omega
    · rw [zU_n _ _ q, hN _ _ (by omega)]
      exact (h4 _ a1 (by omega)).1
  · obtain ⟨a1, a2⟩ := k3 j hj
    by_cases q : anc (nU fn n.toNat p.toNat) n.toNat j = n.toNat
    · rw [q, zU_s, nU_s]; omega
    · rw [zU_n _ _ q, hN _ _ (by omega)]
      exact (h4 _ a1 (by omega)).2
theorem QI_end {dl dw df : Nat → Int} {n : Int} {fs fq ff fb : Nat → Int} {qn fn bn dp : Nat → Nat} {K : Nat} (h : QI dl dw df n fs fq ff fb qn fn bn dp K) (hK : K = 4 * n.toNat) : noRow (nxD dl dw) (bdD df) := by
  subst hK
  exact BI_end h.1
/-- where an event leads: the program's own numbers -/
theorem nxD_of {dl dw : Nat → Int} {Q e : Nat} {to w d : Int} (ht : to = dl (Q / 4 * 4 + e)) (ht2 : 0 ≤ to ∧ to < 8) (hw : w = dw to.toNat) (hw2 : w = 0 ∨ w = 1) (hQ : Q < 32)
    (hd : (e = 1 ∧ d = 3) ∨ (e ≠ 1 ∧ w = 0 ∧ (((Q % 4 : Nat) : Int) < 1 ∧ d = 0 ∨ 1 ≤ ((Q % 4 : Nat) : Int) ∧ d = ((Q % 4 : Nat) : Int) - 1)) ∨ (e ≠ 1 ∧ w = 1 ∧ (((Q % 4 : Nat) : Int) < 2 ∧ d = 0 ∨ 2 ≤ ((Q % 4 : Nat) : Int) ∧ d = ((Q % 4 : Nat) : Int) - 2))) :
    (to * 4 + d).toNat = nxD dl dw Q e ∧ 0 ≤ d ∧ d ≤ 3 ∧ nxD dl dw Q e < 32 ∧ nxD dl dw Q e / 4 = to.toNat ∧ ((nxD dl dw Q e % 4 : Nat) : Int) = d := by
  unfold nxD
  rw [← ht, ← hw]
  rcases hd with ⟨a, b⟩ | ⟨a, b, c⟩ | ⟨a, b, c⟩
  · rw [if_pos a]
    omega
  · rw [if_neg a, if_pos b]
    omega
  · rw [if_neg a, if_neg (by omega)]
    omega
