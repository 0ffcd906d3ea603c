-- ===== 60: THE PURE PART: numbers, the program =====
theorem gd_s {α : Type} (x : Option α) : gd true x = x := rfl
theorem bn_s {α β : Type} (y : α) (k : α → Option β) : bn (some y) k = k y := rfl
theorem inbN {n N : Nat} (h : n < N) (hN : N ≤ 2147483648) : inb (nI n) N = true := by
  unfold inb
  rw [nI_toInt (by omega)]
  exact decide_eq_true (by omega)
theorem clN {n : Nat} (h : n < 2147483648) : Int32.toNatClampNeg (nI n) = n := nI_clamp h
def b2i (b : Bool) : Int32 := if b = true then 1 else 0
theorem b2i_t : b2i true = 1 := rfl
theorem b2i_f : b2i false = 0 := rfl
theorem isb_b (b : Bool) : isb (b2i b) = true := by cases b <;> rfl
theorem isb_0 : isb 0 = true := rfl
theorem isb_1 : isb 1 = true := rfl
theorem b2i_0 {b : Bool} : (b2i b = 0) = (b = false) := by cases b <;> simp [b2i]
theorem b2i_1 {b : Bool} : (b2i b = 1) = (b = true) := by cases b <;> simp [b2i]
theorem i32_lt {x y : Int32} : (x < y) = (x.toInt < y.toInt) := propext Int32.lt_iff_toInt_lt
theorem i32_le {x y : Int32} : (x ≤ y) = (x.toInt ≤ y.toInt) := propext Int32.le_iff_toInt_le
theorem i32_le1 {x : Int32} : (x ≤ 1) = ¬ (2 ≤ x) := by
  rw [i32_le, i32_le]
  have h1 : (1 : Int32).toInt = 1 := rfl
  have h2 : (2 : Int32).toInt = 2 := rfl
  rw [h1, h2]
  exact propext ⟨fun h => by omega, fun h => by omega⟩
theorem i32_nlt {x y : Int32} : (x < y) = ¬ (y ≤ x) := by
  rw [i32_lt, i32_le]
  exact propext ⟨fun h => by omega, fun h => by omega⟩
theorem upd_s {f : Nat → Int32} {a : Nat} {x : Int32} : upd f a x a = x := by simp [upd]
theorem upd_n {f : Nat → Int32} {a j : Nat} {x : Int32} (h : j ≠ a) : upd f a x j = f j := by simp [upd, h]
theorem upd_self {f : Nat → Int32} {a : Nat} : upd f a (f a) = f := by
  funext j
  by_cases h : j = a
  · rw [h, upd_s]
  · rw [upd_n h]
theorem lit_0 : (0 : Int32) = nI 0 := rfl
theorem lit_1 : (1 : Int32) = nI 1 := rfl
theorem rem48 {a : Nat} (h : a < 48) : (nI a + 1) - (nI a + 1) / 48 * 48 = nI ((a + 1) % 48) := by
  have h1 : nI a + 1 = nI (a + 1) := nI_1 a
  rw [h1]
  exact pk_rem (d := 48) (by omega) (by omega) (by omega)
theorem ofN (a w : Nat) : m_X7_of (nI a) (nI w) = some (nI (6 * a + w)) := by
  show some (((0 : Int32) + ((6 : Int32) * nI a)) + nI w) = _
  rw [show (6 : Int32) = nI 6 from rfl, show (0 : Int32) = nI 0 from rfl, pk_mul, nI_add, nI_add, Nat.zero_add]
theorem of_0 (a : Nat) : m_X7_of (nI a) 0 = some (nI (6 * a)) := ofN a 0
theorem of_1 (a : Nat) : m_X7_of (nI a) 1 = some (nI (6 * a + 1)) := ofN a 1
theorem of_2 (a : Nat) : m_X7_of (nI a) 2 = some (nI (6 * a + 2)) := ofN a 2
theorem of_3 (a : Nat) : m_X7_of (nI a) 3 = some (nI (6 * a + 3)) := ofN a 3
theorem of_4 (a : Nat) : m_X7_of (nI a) 4 = some (nI (6 * a + 4)) := ofN a 4
theorem of_5 (a : Nat) : m_X7_of (nI a) 5 = some (nI (6 * a + 5)) := ofN a 5
theorem ofL (p w : Nat) : m_X7_ofLine (nI p) (nI w) = some (nI (289 + 10 * p + w)) := by
  show some (((289 : Int32) + ((10 : Int32) * nI p)) + nI w) = _
  rw [show (289 : Int32) = nI 289 from rfl, show (10 : Int32) = nI 10 from rfl, pk_mul, nI_add, nI_add]
theorem ofL_0 (p : Nat) : m_X7_ofLine (nI p) 0 = some (nI (289 + 10 * p)) := ofL p 0
theorem ofL_1 (p : Nat) : m_X7_ofLine (nI p) 1 = some (nI (289 + 10 * p + 1)) := ofL p 1
theorem ofL_2 (p : Nat) : m_X7_ofLine (nI p) 2 = some (nI (289 + 10 * p + 2)) := ofL p 2
theorem afterN {a : Nat} (h : a < 48) : m_X7_after (nI a) = some (nI ((a + 1) % 48)) := by
  show some _ = _
  rw [rem48 h]
-- spec functions on the reference's row
def pT (s : Nat → Int32) (a : Nat) : Bool := decide (s (6 * a) = 2) && decide (2 ≤ s (6 * a + 5))
def sc (s : Nat → Int32) (a : Nat) (t : Bool) : Int32 := if s (6 * a) = 1 ∨ (s (6 * a) = 2 ∧ t = true) then s (6 * a + 1) else nI ((a + 1) % 48)
def ps (s : Nat → Int32) (a : Nat) : Int32 := sc s a (pT s a)
def bit (oc ct ln : Int32) : Bool := decide (((oc >>> ((ct - ct / ln * ln) &&& 31)) &&& 1) = 1)
def tk (s : Nat → Int32) (a : Nat) : Bool := decide (s (6 * a) = 2) && bit (s (6 * a + 2)) (s (6 * a + 4)) (s (6 * a + 3))
def nc (t : Bool) (x : Int32) : Int32 := if t = true then (if 3 ≤ x then x else x + 1) else (if x ≤ 0 then x else x - 1)
/-- the program of the class as the row has it -/
def PR (s : Nat → Int32) (kd tg oc ln ct cn : Nat → Int32) (nx : Int32) : Prop :=
  (∀ a, a < 48 → kd a = s (6 * a) ∧ (s (6 * a) ≠ 0 → tg a = s (6 * a + 1)) ∧ oc a = s (6 * a + 2) ∧ ln a = s (6 * a + 3) ∧ ct a = s (6 * a + 4) ∧ cn a = s (6 * a + 5)) ∧ nx = s 288
/-- what a row's program always is -/
def PI (s : Nat → Int32) : Prop :=
  (∀ a, a < 48 → (s (6 * a) = 0 ∨ s (6 * a) = 1 ∨ s (6 * a) = 2) ∧ (s (6 * a) ≠ 0 → ∃ t, t < 48 ∧ s (6 * a + 1) = nI t) ∧ (∃ l, 1 ≤ l ∧ l ≤ 8 ∧ s (6 * a + 3) = nI l) ∧ (∃ c, c ≤ 3 ∧ s (6 * a + 5) = nI c)) ∧ ∃ q, q < 48 ∧ s 288 = nI q
theorem sc_in {s : Nat → Int32} (h : PI s) {a : Nat} (ha : a < 48) (t : Bool) : ∃ q, q < 48 ∧ sc s a t = nI q := by
  unfold sc
  split
  · rename_i hc
    refine (h.1 a ha).2.1 ?_
    rcases hc with hc | ⟨hc, -⟩ <;> rw [hc] <;> decide
  · exact ⟨(a + 1) % 48, Nat.mod_lt _ (by decide), rfl⟩
theorem nz_len {s : Nat → Int32} (h : PI s) {a : Nat} (ha : a < 48) : nzb (s (6 * a + 3)) = true ∧ ¬ s (6 * a + 3) ≤ 0 := by
  obtain ⟨l, h1, h2, h3⟩ := (h.1 a ha).2.2.1
  rw [h3]
  refine ⟨decide_eq_true (nI_ne0 (by omega) (by omega)), nI_nle (by omega) (by omega)⟩
-- the reference
theorem r_predT {s : Nat → Int32} {a : Nat} (ha : a < 48) : m_X7_isPredictedTaken s (nI a) = some (b2i (pT s a)) := by
  unfold m_X7_isPredictedTaken m_X7_isPredictedTaken_32 m_X7_isPredictedTaken_33
  simp (disch := omega) only [of_0, of_5, bn_s, inbN, gd_s, clN, i32_le1, isb_0, isb_1]
  by_cases h1 : s (6 * a) = 2
  · by_cases h2 : 2 ≤ s (6 * a + 5)
    · simp [h1, h2, pT, b2i]
    · simp [h1, h2, pT, b2i]
  · simp [h1, pT, b2i]
theorem r_succ {s : Nat → Int32} {a : Nat} (ha : a < 48) (t : Bool) : m_X7_successor s (nI a) (b2i t) = some (sc s a t) := by
  unfold m_X7_successor m_X7_successor_38 m_X7_successor_25 m_X7_successor_42
  simp (disch := omega) only [of_0, of_1, bn_s, inbN, gd_s, clN, bd, afterN, b2i_0]
  by_cases h1 : s (6 * a) = 1
  · simp [h1, sc]
  · by_cases h2 : s (6 * a) = 2
    · cases t <;> simp [h2, sc]
    · simp [h1, h2, sc]
theorem r_predS {s : Nat → Int32} {a : Nat} (ha : a < 48) : m_X7_predictedSuccessor s (nI a) = some (ps s a) := by
  unfold m_X7_predictedSuccessor
  simp only [r_predT ha, bn_s, r_succ ha]
  rfl
theorem r_taken {s : Nat → Int32} (hI : PI s) {a : Nat} (ha : a < 48) : m_X7_isTakenNow s (nI a) = some (b2i (tk s a)) := by
  unfold m_X7_isTakenNow m_X7_isTakenNow_58 m_X7_isTakenNow_59
  simp (disch := omega) only [of_0, of_2, of_3, of_4, bn_s, inbN, gd_s, clN, bd, (nz_len hI ha).1, isb_0, isb_1]
  by_cases h1 : s (6 * a) = 2
  · by_cases h2 : ((s (6 * a + 2) >>> ((s (6 * a + 4) - s (6 * a + 4) / s (6 * a + 3) * s (6 * a + 3)) &&& 31)) &&& 1) = 1
    · simp [h1, h2, tk, bit, b2i]
    · simp [h1, h2, tk, bit, b2i]
  · simp [h1, tk, b2i]
-- the class
theorem k_predT {s kd tg oc ln ct cn : Nat → Int32} {nx : Int32} (h : PR s kd tg oc ln ct cn nx) {a : Nat} (ha : a < 48) : m_X4_predictsTaken kd cn (nI a) = some (b2i (pT s a)) := by
  obtain ⟨e1, -, -, -, -, e6⟩ := h.1 a ha
  unfold m_X4_predictsTaken m_X4_predictsTaken_24 m_X4_predictsTaken_25
  simp (disch := omega) only [bn_s, inbN, gd_s, clN, e1, e6, isb_0, isb_1, i32_nlt]
  by_cases h1 : s (6 * a) = 2
  · by_cases h2 : 2 ≤ s (6 * a + 5)
    · simp [h1, h2, pT, b2i]
    · simp [h1, h2, pT, b2i]
  · simp [h1, pT, b2i]
theorem k_succ {s kd tg oc ln ct cn : Nat → Int32} {nx : Int32} (h : PR s kd tg oc ln ct cn nx) {a : Nat} (ha : a < 48) (t : Bool) : m_X4_successor kd tg (nI a) (b2i t) = some (sc s a t) := by
  obtain ⟨e1, e2, -⟩ := h.1 a ha
  unfold m_X4_successor m_X4_successor_25 m_X4_successor_21 m_X4_successor_26 m_X4_successor_48
  simp (disch := omega) only [bn_s, inbN, gd_s, clN, bd, e1, b2i_0, rem48]
  by_cases h1 : s (6 * a) = 1
  · have e3 := e2 (by rw [h1]; decide)
    simp [h1, sc, e3]
  · by_cases h2 : s (6 * a) = 2
    · have e3 := e2 (by rw [h2]; decide)
      cases t <;> simp [h2, sc, e3]
    · simp [h1, h2, sc]
theorem k_predS {s kd tg oc ln ct cn : Nat → Int32} {nx : Int32} (h : PR s kd tg oc ln ct cn nx) {a : Nat} (ha : a < 48) : m_X4_predictedSuccessor kd tg cn (nI a) = some (ps s a) := by
  unfold m_X4_predictedSuccessor
  simp only [k_predT h ha, bn_s, k_succ h ha]
  rfl
theorem k_decide {s kd tg oc ln ct cn : Nat → Int32} {nx : Int32} (hI : PI s) (h : PR s kd tg oc ln ct cn nx) {a : Nat} (ha : a < 48) :
    m_X4_decide oc ln ct cn (nI a) = some (b2i (bit (s (6 * a + 2)) (s (6 * a + 4)) (s (6 * a + 3))), upd ct a (s (6 * a + 4) + 1), upd cn a (nc (bit (s (6 * a + 2)) (s (6 * a + 4)) (s (6 * a + 3))) (s (6 * a + 5)))) := by
  obtain ⟨-, -, e3, e4, e5, e6⟩ := h.1 a ha
  have e9 : upd cn a (s (6 * a + 5)) = cn := by rw [← e6]; exact upd_self
  unfold m_X4_decide m_X4_decide_23 m_X4_decide_43 m_X4_decide_83 m_X4_decide_107
  simp (disch := omega) only [bn_s, inbN, gd_s, clN, bd, e3, e4, e5, e6, (nz_len hI ha).1, (nz_len hI ha).2, if_false, isb_0, isb_1]
  by_cases h2 : ((s (6 * a + 2) >>> ((s (6 * a + 4) - s (6 * a + 4) / s (6 * a + 3) * s (6 * a + 3)) &&& 31)) &&& 1) = 1
  · by_cases h3 : 3 ≤ s (6 * a + 5)
    · simp [h2, h3, bit, b2i, nc, e9, upd_s]
    · simp [h2, h3, bit, b2i, nc]
  · by_cases h3 : s (6 * a + 5) ≤ 0
    · simp [h2, h3, bit, b2i, nc, e9]
    · simp [h2, h3, bit, b2i, nc]
/-- a step of the class's program -/
theorem k_step {s kd tg oc ln ct cn : Nat → Int32} {nx : Int32} (hI : PI s) (h : PR s kd tg oc ln ct cn nx) {a : Nat} (ha : a < 48) (hn : s 288 = nI a) :
    m_X4_step kd tg oc ln ct cn nx = some (b2i (tk s a), (if s (6 * a) = 2 then upd ct a (s (6 * a + 4) + 1) else ct), (if s (6 * a) = 2 then upd cn a (nc (tk s a) (s (6 * a + 5))) else cn), sc s a (tk s a)) := by
  obtain ⟨e1, -⟩ := h.1 a ha
  have hx : nx = nI a := h.2.trans hn
  subst hx
  unfold m_X4_step m_X4_step_27 m_X4_step_28
  simp (disch := omega) only [inbN, gd_s, clN, e1, k_decide hI h ha, bn_s, b2i_0]
  by_cases h1 : s (6 * a) = 2
  · have ht : tk s a = bit (s (6 * a + 2)) (s (6 * a + 4)) (s (6 * a + 3)) := by simp [tk, h1]
    rw [ht]
    generalize bit (s (6 * a + 2)) (s (6 * a + 4)) (s (6 * a + 3)) = t
    have h0 := k_succ h ha t
    cases t
    · rw [b2i_f] at h0
      simp [h1, h0, bn_s, isb_0, gd_s, b2i_f]
    · rw [b2i_t] at h0
      simp [h1, h0, bn_s, isb_1, gd_s, b2i_t]
  · have ht : tk s a = false := by simp [tk, h1]
    have h0 := k_succ h ha false
    rw [b2i_f] at h0
    simp [h1, h0, bn_s, isb_0, gd_s, ht, b2i_f]
