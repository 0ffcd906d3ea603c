-- ===== 89: a text, and its error position =====
/-- the error position of a text, from a command on; none where it is valid -/
def rd (T : Nat → Int32) (n : Nat) : Nat → Nat → Option Nat
  | 0, p => some p
  | k + 1, p =>
    (match cmd T n p with
    | .inl e => some e
    | .inr y => if n ≤ y.1 then none else if chr T n y.1 = 59 then rd T n k (y.1 + 1) else some y.1)
theorem rd_l {T : Nat → Int32} {n k p e : Nat} (h : cmd T n p = .inl e) : rd T n (k + 1) p = some e := by
  rw [rd, h]
theorem rd_r {T : Nat → Int32} {n k p : Nat} {y : Nat × Nat × Nat × Int32 × Nat} (h : cmd T n p = .inr y) : rd T n (k + 1) p = if n ≤ y.1 then none else if chr T n y.1 = 59 then rd T n k (y.1 + 1) else some y.1 := by
  rw [rd, h]
theorem cmd_l {T : Nat → Int32} {n p e : Nat} (h : cmd T n p = .inl e) : e ≤ p + 3 := by
  unfold cmd at h
  by_cases c : chr T n p = 114
  · rw [if_pos c] at h
    cases hn : num T n (p + 1) 1 99 with
    | none =>
      rw [hn] at h
      simp only [Sum.inl.injEq] at h
      omega
    | some vq => rw [hn] at h; obtain ⟨v, q⟩ := vq; cases h
  · rw [if_neg c] at h
    cases hn : num T n p 0 47 with
    | none =>
      rw [hn] at h
      simp only [Sum.inl.injEq] at h
      omega
    | some vq =>
      obtain ⟨a, q⟩ := vq
      have hk := num_ok (by omega) hn
      rw [hn] at h
      simp only [] at h
      by_cases c1 : chr T n q = 46
      · rw [if_pos c1] at h; cases h
      · rw [if_neg c1] at h
        by_cases c2 : chr T n q = 98 ∨ chr T n q = 106
        · rw [if_pos c2] at h
          cases hm : num T n (q + 1) 0 47 with
          | none =>
            rw [hm] at h
            simp only [Sum.inl.injEq] at h
            omega
          | some tr => rw [hm] at h; obtain ⟨t, r⟩ := tr; cases h
        · rw [if_neg c2] at h
          by_cases c3 : chr T n q = 112
          · rw [if_pos c3] at h
            by_cases c4 : pln T n (q + 1) = 0
            · rw [if_pos c4] at h
              simp only [Sum.inl.injEq] at h
              omega
            · rw [if_neg c4] at h; cases h
          · rw [if_neg c3] at h
            simp only [Sum.inl.injEq] at h
            omega
theorem rd_lt {T : Nat → Int32} {n : Nat} : ∀ k p e, p ≤ n → rd T n k p = some e → e ≤ n + 3
  | 0, p, e, h1, h2 => by
    rw [rd] at h2
    simp only [Option.some.injEq] at h2
    omega
  | k + 1, p, e, h1, h2 => by
    cases hc : cmd T n p with
    | inl e' =>
      have := cmd_l hc
      rw [rd_l hc] at h2
      simp only [Option.some.injEq] at h2
      omega
    | inr y =>
      rw [rd_r hc] at h2
      by_cases d : n ≤ y.1
      · rw [if_pos d] at h2; cases h2
      · rw [if_neg d] at h2
        by_cases d2 : chr T n y.1 = 59
        · rw [if_pos d2] at h2
          exact rd_lt k (y.1 + 1) e (by omega) h2
        · rw [if_neg d2] at h2
          simp only [Option.some.injEq] at h2
          omega
theorem addm1 {c : Nat} (h : 1 ≤ c) : nI c + -1 = nI (c - 1) := by
  rw [← sub1N h, Int32.sub_eq_add_neg]
theorem r_semi {T : Nat → Int32} {n p : Nat} (h : TX T n) (hp : p < 70000) : m_X7_takes T (nI n) (nI p) 0 59 59 = some (if chr T n p = 59 then (0, nI (p + 1), 0) else (0, nI p, 1)) := by
  have ht := r_takes (lo := 59) (hi := 59) h (show p < 2147483647 by omega) (by omega) (by omega) (by omega) false
  have ht' : m_X7_takes T (nI n) (nI p) 0 59 59 = _ := ht
  rw [ht']
  by_cases c : chr T n p = 59
  · rw [if_pos c, c]
    rfl
  · have e : ¬ (!false && (decide (59 ≤ chr T n p) && decide (chr T n p ≤ 59))) = true := by
      intro g
      simp only [Bool.not_false, Bool.true_and, Bool.and_eq_true, decide_eq_true_eq] at g
      omega
    rw [if_neg c, if_neg e]
theorem r_rd_end {T : Nat → Int32} {n : Nat} {x1 : Int32} {k : Nat} {s f P : Nat → Int32} {m w sp wr eb : Int32} : m_X7_reads_17 T (nI n) x1 (k + 1) s f P m w sp wr eb 0 = some (s, f, P, m, w, sp, wr, eb) := by
  rw [m_X7_reads_17, if_pos rfl]
theorem r_rd_49 {T : Nat → Int32} {n p : Nat} (h : TX T n) (hp : p < 70000) {x1 : Int32} {k : Nat} {s f P : Nat → Int32} {m w eb : Int32} : m_X7_reads_49 T (nI n) x1 (m_X7_reads_17 T (nI n) x1 (k + 1)) s f P m w (nI p) 0 eb 1 = if chr T n p = 59 then m_X7_reads_17 T (nI n) x1 (k + 1) s f P m w (nI (p + 1)) 0 eb 1 else some (s, f, P, m, w, nI p, 1, eb) := by
  unfold m_X7_reads_49
  rw [if_neg (by decide), r_semi h hp, bn_s]
  by_cases c : chr T n p = 59
  · rw [if_pos c, if_pos c]
    unfold m_X7_reads_75
    rw [if_pos rfl]
  · rw [if_neg c, if_neg c]
    unfold m_X7_reads_75
    dsimp only
    rw [if_neg (by decide), r_rd_end]
theorem r_reads0 {T : Nat → Int32} {n : Nat} (h : TX T n) {s f P : Nat → Int32} {m w eb : Int32} : ∀ k p j, p ≤ n → n < p + 2 * k → k < j → m_X7_reads_17 T (nI n) 0 j s f P m w (nI p) 0 eb 1 = some (s, f, P, m, w, (match rd T n k p with | none => nI n | some e => nI e), (match rd T n k p with | none => 0 | some _ => 1), eb) := by
  have h80 := h.1
  intro k
  induction k with
  | zero =>
    intro p j h1 h2 h3
    omega
  | succ k ih =>
    intro p j h1 h2 h3
    obtain ⟨j, rfl⟩ : ∃ z, j = z + 1 + 1 := ⟨j - 2, by omega⟩
    have hr := r_cmd0 (p := p) (s := s) (f := f) (P := P) (m := m) (w := w) (eb := eb) h (by omega)
    rw [m_X7_reads_17, if_neg (by decide), hr, bn_s]
    cases hc : cmd T n p with
    | inl e =>
      rw [rd_l hc]
      dsimp only
      rw [if_neg (by decide)]
      unfold m_X7_reads_48 m_X7_reads_49
      rw [if_pos rfl, r_rd_end]
    | inr y =>
      obtain ⟨q, op, a, v, oc⟩ := y
      obtain ⟨c1, c2, -⟩ := cmd_ok hc
      rw [rd_r hc]
      dsimp only
      rw [if_pos rfl]
      by_cases d : n ≤ q
      · have e : q = n := by omega
        rw [if_pos (leN_t (by omega) d), if_pos d]
        unfold m_X7_reads_48 m_X7_reads_49
        rw [if_pos rfl, r_rd_end, e]
      · rw [if_neg (leN_f (by omega) (by omega)), if_neg d, r_rd_49 h (by omega)]
        by_cases d2 : chr T n q = 59
        · rw [if_pos d2, if_pos d2, ih (q + 1) (j + 1) (by omega) (by omega) (by omega)]
        · rw [if_neg d2, if_neg d2]
def NX (T : Nat → Int32) (n P p : Nat) : Prop := (P = 0 ∧ p = 0) ∨ (0 < P ∧ chr T n P = 59 ∧ p = P + 1)
theorem k_next1 {X T : Nat → Int32} {n P p : Nat} (h : TX T n) (hX : ∀ i, i < n → X i = T i) (hp : P < 70000) (hN : NX T n P p) (o a v c : Int32) : m_X5_readNext X (nI n) (nI P) o a v c = m_X5_readNext_28 X (nI n) (nI p) o a v c := by
  have q59 : (hv T n P = 59) = (chr T n P = 59) := hv_eq (c := 59) h (by omega) (by omega)
  unfold m_X5_readNext
  rcases hN with ⟨rfl, rfl⟩ | ⟨h1, h2, rfl⟩
  · rw [if_pos (show nI 0 ≤ 0 by decide)]
  · rw [if_neg (show ¬ nI P ≤ 0 by rw [leN0 (by omega)]; omega), k_hv h hX (by omega), bn_s]
    simp only [q59]
    rw [if_pos h2, bdE, nI1]
theorem k_next0 {X T : Nat → Int32} {n P : Nat} (h : TX T n) (hX : ∀ i, i < n → X i = T i) (hp : P < 70000) (h0 : 0 < P) (hN : ¬ chr T n P = 59) (o a v c : Int32) : m_X5_readNext X (nI n) (nI P) o a v c = some (0, nI P, o, a, v, c) := by
  have q59 : (hv T n P = 59) = (chr T n P = 59) := hv_eq (c := 59) h (by omega) (by omega)
  unfold m_X5_readNext
  rw [if_neg (show ¬ nI P ≤ 0 by rw [leN0 (by omega)]; omega), k_hv h hX (by omega), bn_s]
  simp only [q59]
  rw [if_neg hN]
theorem k_ferr {X T : Nat → Int32} {n : Nat} (h : TX T n) (hX : ∀ i, i < n → X i = T i) : ∀ k p P j cn o a v c, NX T n P p → p ≤ n → n < p + 2 * k → k ≤ cn → cn < j → cn < 1000 → ∃ P' o' a' v' c', m_X5_firstError_7 X (nI n) j (nI P) o a v c (nI cn) = some ((match rd T n k p with | none => -1 | some e => nI e), P', o', a', v', c') := by
  have h80 := h.1
  intro k
  induction k with
  | zero =>
    intro p P j cn o a v c hN h1 h2 h3 h4 h5
    omega
  | succ k ih =>
    intro p P j cn o a v c hN h1 h2 h3 h4 h5
    obtain ⟨j, rfl⟩ : ∃ z, j = z + 1 := ⟨j - 1, by omega⟩
    have hP : P < 70000 := by
      rcases hN with ⟨rfl, -⟩ | ⟨-, -, rfl⟩ <;> omega
    rw [m_X5_firstError_7, if_neg (show ¬ nI cn ≤ 0 by rw [leN0 (by omega)]; omega), k_next1 h hX hP hN]
    cases hc : cmd T n p with
    | inl e =>
      obtain ⟨o', a', v', c', e1⟩ := k_cmd0 h hX (by omega) hc o a v c
      rw [rd_l hc, e1, bn_s]
      dsimp only
      rw [if_pos rfl]
      exact ⟨_, _, _, _, _, rfl⟩
    | inr y =>
      obtain ⟨q, op, a1, v1, oc⟩ := y
      obtain ⟨c1, c2, -⟩ := cmd_ok hc
      obtain ⟨a', v', c', e1, -⟩ := k_cmd1 h hX (by omega) hc o a v c
      rw [rd_r hc, e1, bn_s]
      dsimp only
      rw [if_neg (show ¬ (1 : Int32) = 0 by decide)]
      have eq1 : (nI q = nI n) = (q = n) := eqN (by omega) (by omega)
      simp only [eq1]
      by_cases d : n ≤ q
      · rw [if_pos (by omega), if_pos d]
        exact ⟨_, _, _, _, _, rfl⟩
      · rw [if_neg (by omega), if_neg d, bdE, addm1 (by omega)]
        by_cases d2 : chr T n q = 59
        · rw [if_pos d2]
          exact ih (q + 1) q j (cn - 1) _ _ _ _ (Or.inr ⟨by omega, d2, rfl⟩) (by omega) (by omega) (by omega) (by omega) (by omega)
        · rw [if_neg d2]
          obtain ⟨j, rfl⟩ : ∃ z, j = z + 1 := ⟨j - 1, by omega⟩
          rw [m_X5_firstError_7]
          unfold m_X5_firstError_37
          by_cases d3 : nI (cn - 1) ≤ 0
          · rw [if_pos d3]
            exact ⟨_, _, _, _, _, rfl⟩
          · rw [if_neg d3, k_next0 h hX (by omega) (by omega) d2, bn_s]
            dsimp only
            rw [if_pos rfl]
            exact ⟨_, _, _, _, _, rfl⟩
/-- the error position of the whole text, as a number -/
def ev (T : Nat → Int32) (n : Nat) : Int32 := match rd T n 80 0 with | none => -1 | some e => nI e
theorem k_err {X T : Nat → Int32} {n : Nat} (h : TX T n) (hX : ∀ i, i < n → X i = T i) (P o a v c : Int32) : ∃ P' o' a' v' c', m_X5_firstError X (nI n) P o a v c = some (ev T n, P', o', a', v', c') := by
  have h80 := h.1
  obtain ⟨P', o', a', v', c', e⟩ := k_ferr h hX 80 0 0 4000 80 o a v c (Or.inl ⟨rfl, rfl⟩) (by omega) (by omega) (by omega) (by omega) (by omega)
  have e' : m_X5_firstError_7 X (nI n) 4000 0 o a v c 80 = some (ev T n, P', o', a', v', c') := e
  refine ⟨P', o', a', v', c', ?_⟩
  unfold m_X5_firstError m_X5_rewind
  rw [bn_s, e']
theorem r_rd0 {T : Nat → Int32} {n : Nat} (h : TX T n) (s f P : Nat → Int32) (m w sp wr eb : Int32) : ∃ sp', m_X7_reads T (nI n) s f P m w sp wr eb 0 = some (s, f, P, m, w, sp', (if ev T n = -1 then 0 else 1), 0) ∧ (¬ ev T n = -1 → sp' = ev T n) := by
  have h80 := h.1
  have e := r_reads0 h (s := s) (f := f) (P := P) (m := m) (w := w) (eb := 0) 80 0 4000 (by omega) (by omega) (by omega)
  have e' : m_X7_reads_17 T (nI n) 0 4000 s f P m w 0 0 0 1 = some (s, f, P, m, w, (match rd T n 80 0 with | none => nI n | some e => nI e), (match rd T n 80 0 with | none => 0 | some _ => 1), 0) := e
  unfold m_X7_reads ev
  rw [e']
  cases hr : rd T n 80 0 with
  | none =>
    simp only [if_true]
    exact ⟨_, rfl, fun g => absurd trivial g⟩
  | some e =>
    have hel := rd_lt 80 0 e (Nat.zero_le _) hr
    have : ¬ nI e = -1 := nIm1 (by omega)
    simp only [if_neg this]
    exact ⟨_, rfl, fun _ => rfl⟩
