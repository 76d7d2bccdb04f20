/-! rows of events: reaching a bad spot, the least shortest row; a search breadth first finds it; a table of distances finds it too -/
def rch (nx : Nat → Nat → Nat) (bd : Nat → Prop) : Nat → Nat → Prop
  | 0, v => bd v
  | m + 1, v => ∃ e, e < 4 ∧ rch nx bd m (nx v e)
def pth (nx : Nat → Nat → Nat) (ev : Nat → Nat) : Nat → Nat
  | 0 => 0
  | i + 1 => nx (pth nx ev i) (ev i)
/-- the least of the shortest rows has L events, ev -/
def isRow (nx : Nat → Nat → Nat) (bd : Nat → Prop) (L : Nat) (ev : Nat → Nat) : Prop :=
  1 ≤ L ∧ (∀ i, i < L → ev i < 4) ∧ bd (pth nx ev L) ∧ (∀ m, 1 ≤ m → m < L → ¬ rch nx bd m 0) ∧ ∀ i e, i < L → e < ev i → ¬ rch nx bd (L - 1 - i) (nx (pth nx ev i) e)
def noRow (nx : Nat → Nat → Nat) (bd : Nat → Prop) : Prop := ∀ m, 1 ≤ m → ¬ rch nx bd m 0
theorem pth_rch {nx : Nat → Nat → Nat} {bd : Nat → Prop} {L : Nat} {ev : Nat → Nat} (h4 : ∀ i, i < L → ev i < 4) (hb : bd (pth nx ev L)) : ∀ j, j ≤ L → rch nx bd j (pth nx ev (L - j))
  | 0, _ => hb
  | j + 1, h => by
    refine ⟨ev (L - (j + 1)), h4 _ (by omega), ?_⟩
    have e : nx (pth nx ev (L - (j + 1))) (ev (L - (j + 1))) = pth nx ev (L - j) := by
      rw [show L - j = (L - (j + 1)) + 1 by omega]
      rfl
    rw [e]
    exact pth_rch h4 hb j (by omega)
theorem isRow_rch {nx : Nat → Nat → Nat} {bd : Nat → Prop} {L : Nat} {ev : Nat → Nat} (h : isRow nx bd L ev) : rch nx bd L 0 := by
  have := pth_rch h.2.1 h.2.2.1 L (Nat.le_refl L)
  rw [Nat.sub_self] at this
  exact this
theorem isRow_len {nx : Nat → Nat → Nat} {bd : Nat → Prop} {L L' : Nat} {ev ev' : Nat → Nat} (h : isRow nx bd L ev) (h' : isRow nx bd L' ev') : L = L' := by
  rcases Nat.lt_trichotomy L L' with c | c | c
  · exact absurd (isRow_rch h) (h'.2.2.2.1 L h.1 c)
  · exact c
  · exact absurd (isRow_rch h') (h.2.2.2.1 L' h'.1 c)
theorem isRow_ev {nx : Nat → Nat → Nat} {bd : Nat → Prop} {L : Nat} {ev ev' : Nat → Nat} (h : isRow nx bd L ev) (h' : isRow nx bd L ev') : ∀ i, i ≤ L → pth nx ev i = pth nx ev' i ∧ (i < L → ev i = ev' i) := by
  have key : ∀ {ev ev' : Nat → Nat}, isRow nx bd L ev → isRow nx bd L ev' → ∀ i, i < L → pth nx ev i = pth nx ev' i → ¬ ev i < ev' i := by
    intro ev ev' h h' i hi hp hlt
    refine h'.2.2.2.2 i (ev i) hi hlt ?_
    have := pth_rch h.2.1 h.2.2.1 (L - 1 - i) (by omega)
    rw [show L - (L - 1 - i) = i + 1 by omega] at this
    rw [← hp]
    exact this
  intro i
  induction i with
  | zero =>
    intro hi
    refine ⟨rfl, fun h0 => ?_⟩
    have a := key h h' 0 h0 rfl
    have b := key h' h 0 h0 rfl
    omega
  | succ i ih =>
    intro hi
    obtain ⟨p1, e1⟩ := ih (by omega)
    have hp : pth nx ev (i + 1) = pth nx ev' (i + 1) := by
      show nx (pth nx ev i) (ev i) = nx (pth nx ev' i) (ev' i)
      rw [p1, e1 (by omega)]
    refine ⟨hp, fun h0 => ?_⟩
    have a := key h h' (i + 1) h0 hp
    have b := key h' h (i + 1) h0 hp.symm
    omega
theorem isRow_no {nx : Nat → Nat → Nat} {bd : Nat → Prop} {L : Nat} {ev : Nat → Nat} (h : isRow nx bd L ev) (h' : noRow nx bd) : False := h' L h.1 (isRow_rch h)
/-! the search: n spots in the queue, K pairs (place, event) tried -/
def nU (f : Nat → Nat) (k x : Nat) : Nat → Nat := fun j => if j = k then x else f j
theorem nU_s (f : Nat → Nat) (k x : Nat) : nU f k x k = x := if_pos rfl
theorem nU_n (f : Nat → Nat) {k j : Nat} (x : Nat) (h : j ≠ k) : nU f k x j = f j := if_neg h
def BI (nx : Nat → Nat → Nat) (bd : Nat → Prop) (n : Nat) (qn fn bn dp : Nat → Nat) (K : Nat) : Prop :=
  (1 ≤ n ∧ qn 0 = 0 ∧ dp 0 = 0 ∧ ∀ c, c < n → qn c < 32) ∧ (∀ c c', c < n → c' < n → qn c = qn c' → c = c') ∧
  (∀ c, 1 ≤ c → c < n → fn c < c ∧ bn c < 4 ∧ qn c = nx (qn (fn c)) (bn c) ∧ dp c = dp (fn c) + 1 ∧ 4 * fn c + bn c < K) ∧
  (∀ c c', 1 ≤ c → c < c' → c' < n → 4 * fn c + bn c < 4 * fn c' + bn c') ∧
  (∀ p e, e < 4 → 4 * p + e < K → p < n ∧ ¬ bd (nx (qn p) e) ∧ ∃ c, c < n ∧ qn c = nx (qn p) e ∧ (c = 0 ∨ 4 * fn c + bn c ≤ 4 * p + e))
theorem BI_0 {nx : Nat → Nat → Nat} {bd : Nat → Prop} {qn fn bn dp : Nat → Nat} (h0 : qn 0 = 0) (h1 : dp 0 = 0) : BI nx bd 1 qn fn bn dp 0 :=
  ⟨⟨Nat.le_refl 1, h0, h1, fun c hc => by rw [show c = 0 by omega, h0]; omega⟩, fun c c' hc hc' _ => by omega, fun c h1 h2 => by omega, fun c c' h1 h2 h3 => by omega, fun p e _ h => by omega⟩
theorem BI_old {nx : Nat → Nat → Nat} {bd : Nat → Prop} {n : Nat} {qn fn bn dp : Nat → Nat} {P b : Nat} (h : BI nx bd n qn fn bn dp (4 * P + b)) (hP : P < n) (hb : b < 4) (hnb : ¬ bd (nx (qn P) b)) (hold : ∃ c, c < n ∧ qn c = nx (qn P) b) : BI nx bd n qn fn bn dp (4 * P + b + 1) := by
  obtain ⟨h1, h2, h3, h4, h5⟩ := h
  refine ⟨h1, h2, fun c c1 c2 => ?_, h4, fun p e he hk => ?_⟩
  · obtain ⟨a1, a2, a3, a4, a5⟩ := h3 c c1 c2
    exact ⟨a1, a2, a3, a4, by omega⟩
  · by_cases c : 4 * p + e < 4 * P + b
    · exact h5 p e he c
    · have e1 : p = P := by omega
      have e2 : e = b := by omega
      subst e1; subst e2
      obtain ⟨c, k1, k2⟩ := hold
      refine ⟨hP, hnb, c, k1, k2, ?_⟩
      by_cases c0 : c = 0
      · exact Or.inl c0
      · have := (h3 c (by omega) k1).2.2.2.2
        exact Or.inr (by omega)
theorem BI_new {nx : Nat → Nat → Nat} {bd : Nat → Prop} {n : Nat} {qn fn bn dp : Nat → Nat} {P b : Nat} (h : BI nx bd n qn fn bn dp (4 * P + b)) (hP : P < n) (hb : b < 4) (hv : nx (qn P) b < 32) (hnb : ¬ bd (nx (qn P) b)) (hnew : ∀ c, c < n → qn c ≠ nx (qn P) b) : BI nx bd (n + 1) (nU qn n (nx (qn P) b)) (nU fn n P) (nU bn n b) (nU dp n (dp P + 1)) (4 * P + b + 1) := by
  obtain ⟨⟨g1, g2, g3, g4⟩, h2, h3, h4, h5⟩ := h
  refine ⟨⟨by omega, by rw [nU_n _ _ (by omega)]; exact g2, by rw [nU_n _ _ (by omega)]; exact g3, fun c hc => ?_⟩, fun c c' hc hc' he => ?_, fun c c1 c2 => ?_, fun c c' c1 c2 c3 => ?_, fun p e he hk => ?_⟩
  · by_cases e : c = n
    · rw [e, nU_s]; exact hv
    · rw [nU_n _ _ e]; exact g4 c (by omega)
  · by_cases e : c = n <;> by_cases e' : c' = n
    · omega
    · rw [e, nU_s, nU_n _ _ e'] at he
      exact absurd he.symm (hnew c' (by omega))
    · rw [e', nU_s, nU_n _ _ e] at he
      exact absurd he (hnew c (by omega))
    · rw [nU_n _ _ e, nU_n _ _ e'] at he
      exact h2 c c' (by omega) (by omega) he
  · by_cases e : c = n
    · subst e
      rw [nU_s, nU_s, nU_s, nU_s, nU_n _ _ (by omega), nU_n _ _ (by omega)]
      exact ⟨hP, hb, rfl, rfl, by omega⟩
    · obtain ⟨a1, a2, a3, a4, a5⟩ := h3 c c1 (by omega)
      rw [nU_n _ _ e, nU_n _ _ e, nU_n _ _ e, nU_n _ _ e, nU_n _ _ (by omega), nU_n _ _ (by omega)]
      exact ⟨a1, a2, a3, a4, by omega⟩
  · by_cases e' : c' = n
    · subst e'
      rw [nU_s, nU_s, nU_n _ _ (by omega), nU_n _ _ (by omega)]
      exact (h3 c c1 (by omega)).2.2.2.2
    · rw [nU_n _ _ e', nU_n _ _ e', nU_n _ _ (by omega), nU_n _ _ (by omega)]
      exact h4 c c' c1 c2 (by omega)
  · by_cases c : 4 * p + e < 4 * P + b
    · obtain ⟨b1, b2, c, b3, b4, b5⟩ := h5 p e he c
      rw [nU_n _ _ (show p ≠ n by omega)]
      refine ⟨by omega, b2, c, by omega, by rw [nU_n _ _ (by omega)]; exact b4, ?_⟩
      rw [nU_n _ _ (show c ≠ n by omega), nU_n _ _ (show c ≠ n by omega)]
      exact b5
    · have e1 : p = P := by omega
      have e2 : e = b := by omega
      subst e1; subst e2
      rw [nU_n _ _ (show p ≠ n by omega)]
      refine ⟨by omega, hnb, n, by omega, nU_s _ _ _, Or.inr ?_⟩
      rw [nU_s, nU_s]
      omega
/-- a bad spot is never an old one -/
theorem BI_fresh {nx : Nat → Nat → Nat} {bd : Nat → Prop} {n : Nat} {qn fn bn dp : Nat → Nat} {K : Nat} (h : BI nx bd n qn fn bn dp K) (h0 : ¬ bd 0) : ∀ c, c < n → ¬ bd (qn c) := by
  obtain ⟨⟨g1, g2, g3, g4⟩, h2, h3, h4, h5⟩ := h
  intro c hc
  by_cases c0 : c = 0
  · rw [c0, g2]; exact h0
  · obtain ⟨a1, a2, a3, a4, a5⟩ := h3 c (by omega) hc
    rw [a3]
    exact (h5 _ _ a2 a5).2.1
theorem BI_end {nx : Nat → Nat → Nat} {bd : Nat → Prop} {n : Nat} {qn fn bn dp : Nat → Nat} (h : BI nx bd n qn fn bn dp (4 * n)) : noRow nx bd := by
  obtain ⟨⟨g1, g2, g3, g4⟩, h2, h3, h4, h5⟩ := h
  have key : ∀ m c, c < n → ¬ rch nx bd (m + 1) (qn c) := by
    intro m
    induction m with
    | zero =>
      intro c hc ⟨e, he, hr⟩
      exact (h5 c e he (by omega)).2.1 hr
    | succ m ih =>
      intro c hc ⟨e, he, hr⟩
      obtain ⟨b1, b2, c', b3, b4, b5⟩ := h5 c e he (by omega)
      rw [← b4] at hr
      exact ih c' b3 hr
  intro m hm
  have := key (m - 1) 0 (by omega)
  rw [g2, show m - 1 + 1 = m by omega] at this
  exact this
/-- the chain of places back to the first one -/
def anc (fn : Nat → Nat) (a : Nat) : Nat → Nat
  | 0 => a
  | j + 1 => fn (anc fn a j)
/-- found: place n was reached last, and its spot is bad -/
theorem BI_found {nx : Nat → Nat → Nat} {bd : Nat → Prop} {n : Nat} {qn fn bn dp : Nat → Nat} (hn : 1 ≤ n) (q0 : qn 0 = 0) (d0 : dp 0 = 0) (h3 : ∀ c, 1 ≤ c → c ≤ n → fn c < c ∧ bn c < 4 ∧ qn c = nx (qn (fn c)) (bn c) ∧ dp c = dp (fn c) + 1)
    (h4 : ∀ c c', 1 ≤ c → c < c' → c' ≤ n → 4 * fn c + bn c < 4 * fn c' + bn c')
    (h5 : ∀ p e, e < 4 → 4 * p + e < 4 * fn n + bn n → ¬ bd (nx (qn p) e) ∧ ∃ c, c ≤ n ∧ qn c = nx (qn p) e ∧ (c = 0 ∨ 4 * fn c + bn c ≤ 4 * p + e)) (hb : bd (qn n)) :
    isRow nx bd (dp n) (fun i => bn (anc fn n (dp n - 1 - i))) ∧ anc fn n (dp n) = 0 ∧ ∀ j, j < dp n → 1 ≤ anc fn n j ∧ anc fn n j ≤ n := by
  have ha : ∀ j, j ≤ dp n → dp (anc fn n j) + j = dp n ∧ anc fn n j ≤ n := by
    intro j
    induction j with
    | zero => intro _; exact ⟨rfl, Nat.le_refl n⟩
    | succ j ih =>
      intro hj
      obtain ⟨i1, i2⟩ := ih (by omega)
      have c0 : 1 ≤ anc fn n j := by
        rcases Nat.eq_zero_or_pos (anc fn n j) with e | e
        · rw [e, d0] at i1; omega
        · exact e
      obtain ⟨a1, a2, a3, a4⟩ := h3 _ c0 i2
      show dp (fn (anc fn n j)) + (j + 1) = dp n ∧ fn (anc fn n j) ≤ n
      omega
  have hpos : ∀ j, j < dp n → 1 ≤ anc fn n j := by
    intro j hj
    rcases Nat.eq_zero_or_pos (anc fn n j) with e | e
    · have := (ha j (by omega)).1
      rw [e, d0] at this
      omega
    · exact e
  have hend : anc fn n (dp n) = 0 := by
    obtain ⟨i1, i2⟩ := ha (dp n) (Nat.le_refl _)
    rcases Nat.eq_zero_or_pos (anc fn n (dp n)) with e | e
    · exact e
    · have := (h3 _ e i2).2.2.2
      omega
  have hmono : ∀ c' c, c ≤ c' → c' ≤ n → dp c ≤ dp c' := by
    intro c'
    induction c' using Nat.strongRecOn with
    | ind c' ih =>
      intro c h1 h2
      rcases Nat.eq_zero_or_pos c with e | e
      · rw [e, d0]; omega
      · rcases Nat.eq_or_lt_of_le h1 with e2 | e2
        · rw [e2]; exact Nat.le_refl _
        · obtain ⟨a1, a2, a3, a4⟩ := h3 c e (by omega)
          obtain ⟨b1, b2, b3, b4⟩ := h3 c' (by omega) h2
          have hk := h4 c c' e e2 h2
          have := ih (fn c') b1 (fn c) (by omega) (by omega)
          omega
  obtain ⟨f1, f2, f3, f4⟩ := h3 n hn (Nat.le_refl n)
  have hA : ∀ m c, c ≤ n → dp c + (m + 1) < dp n → ¬ rch nx bd (m + 1) (qn c) := by
    intro m
    induction m with
    | zero =>
      intro c hc hd ⟨e, he, hr⟩
      have hlt : c < fn n := by
        rcases Nat.lt_or_ge c (fn n) with q | q
        · exact q
        · have := hmono c (fn n) q hc; omega
      exact (h5 c e he (by omega)).1 hr
    | succ m ih =>
      intro c hc hd ⟨e, he, hr⟩
      have hlt : c < fn n := by
        rcases Nat.lt_or_ge c (fn n) with q | q
        · exact q
        · have := hmono c (fn n) q hc; omega
      obtain ⟨b2, c', b3, b4, b5⟩ := h5 c e he (by omega)
      rw [← b4] at hr
      refine ih c' b3 ?_ hr
      rcases Nat.eq_zero_or_pos c' with e0 | e0
      · rw [e0, d0]; omega
      · obtain ⟨a1, a2, a3, a4⟩ := h3 c' e0 b3
        have hk : fn c' ≤ c := by
          rcases b5 with b5 | b5 <;> omega
        have := hmono c (fn c') hk hc
        omega
  have hB : ∀ t c, 1 ≤ t → t ≤ dp n → c < anc fn n t → ¬ rch nx bd t (qn c) := by
    intro t
    induction t with
    | zero => intro c h1; omega
    | succ t ih =>
      intro c h1 ht hc ⟨e, he, hr⟩
      have hct : c < fn (anc fn n t) := hc
      obtain ⟨i1, i2⟩ := ha t (by omega)
      have p1 := hpos t (by omega)
      have hkn : 4 * fn (anc fn n t) + bn (anc fn n t) ≤ 4 * fn n + bn n := by
        rcases Nat.eq_or_lt_of_le i2 with q | q
        · rw [q]; exact Nat.le_refl _
        · exact Nat.le_of_lt (h4 _ _ p1 q (Nat.le_refl n))
      obtain ⟨b2, c', b3, b4, b5⟩ := h5 c e he (by omega)
      rcases Nat.eq_zero_or_pos t with t0 | t0
      · subst t0; exact b2 hr
      · rw [← b4] at hr
        refine ih c' t0 (by omega) ?_ hr
        rcases Nat.lt_or_ge c' (anc fn n t) with q | q
        · exact q
        · exfalso
          rcases b5 with b5 | b5
          · omega
          · rcases Nat.eq_or_lt_of_le q with q | q
            · rw [← q] at b5; omega
            · have := h4 _ _ p1 q b3; omega
  have hP : ∀ i, i ≤ dp n → pth nx (fun i => bn (anc fn n (dp n - 1 - i))) i = qn (anc fn n (dp n - i)) := by
    intro i
    induction i with
    | zero => intro _; rw [Nat.sub_zero, hend, q0]; rfl
    | succ i ih =>
      intro hi
      show nx (pth nx (fun i => bn (anc fn n (dp n - 1 - i))) i) (bn (anc fn n (dp n - 1 - i))) = _
      rw [ih (by omega)]
      have e : dp n - i = (dp n - 1 - i) + 1 := by omega
      have e2 : dp n - (i + 1) = dp n - 1 - i := by omega
      rw [e, e2]
      obtain ⟨i1, i2⟩ := ha (dp n - 1 - i) (by omega)
      exact ((h3 _ (hpos _ (by omega)) i2).2.2.1).symm
  refine ⟨⟨by omega, fun i hi => ?_, ?_, fun m h1 h2 => ?_, fun i e hi he => ?_⟩, hend, fun j hj => ⟨hpos j hj, (ha j (by omega)).2⟩⟩
  · exact (h3 _ (hpos _ (by omega)) (ha _ (by omega)).2).2.1
  · rw [hP _ (Nat.le_refl _), Nat.sub_self]; exact hb
  · have := hA (m - 1) 0 (by omega) (by omega)
    rw [q0, show m - 1 + 1 = m by omega] at this
    exact this
  · rw [hP i (by omega)]
    have e1 : dp n - i = (dp n - 1 - i) + 1 := by omega
    obtain ⟨i1, i2⟩ := ha (dp n - 1 - i) (by omega)
    have p1 := hpos (dp n - 1 - i) (by omega)
    have hkn : 4 * fn (anc fn n (dp n - 1 - i)) + bn (anc fn n (dp n - 1 - i)) ≤ 4 * fn n + bn n := by
      rcases Nat.eq_or_lt_of_le i2 with q | q
      · rw [q]; exact Nat.le_refl _
      · exact Nat.le_of_lt (h4 _ _ p1 q (Nat.le_refl n))
    have hb4 := (h3 _ p1 i2).2.1
    have he' : e < bn (anc fn n (dp n - 1 - i)) := he
    rw [e1]
    show ¬ rch nx bd (dp n - 1 - i) (nx (qn (fn (anc fn n (dp n - 1 - i)))) e)
    obtain ⟨b2, c', b3, b4, b5⟩ := h5 (fn (anc fn n (dp n - 1 - i))) e (by omega) (by omega)
    rcases Nat.eq_zero_or_pos (dp n - 1 - i) with t0 | t0
    · rw [t0] at b2 ⊢
      exact b2
    · rw [← b4]
      refine hB _ c' t0 (by omega) ?_
      rcases Nat.lt_or_ge c' (anc fn n (dp n - 1 - i)) with q | q
      · exact q
      · exfalso
        rcases b5 with b5 | b5
        · omega
        · rcases Nat.eq_or_lt_of_le q with q | q
          · rw [← q] at b5; omega
          · have := h4 _ _ p1 q b3; omega
