-- ===== 68: one instruction executed =====
def MR (s : Nat → Int32) (pn : Int32) (row : Nat → Int32) (M : Nat → Nat → Int32) (sz us : Nat → Int32) (lu pu re : Int32) (B : Nat) : Prop := CR s M sz us lu pu re ∧ LI s ∧ QI s 7 ∧ QR s pn row ∧ UI s B
theorem MR_congr {s t : Nat → Int32} {pn : Int32} {row : Nat → Int32} {M : Nat → Nat → Int32} {sz us : Nat → Int32} {lu pu re : Int32} {B : Nat} (h : ∀ j, 289 ≤ j → j < 379 → t j = s j) (h2 : t 386 = s 386) (h3 : t 387 = s 387) (hM : MR s pn row M sz us lu pu re B) : MR t pn row M sz us lu pu re B := by
  obtain ⟨a1, a2, a3, a4, a5⟩ := hM
  have e1 : zp t = zp s := by unfold zp; rw [h _ (by omega) (by omega)]
  have e2 : ∀ i, i < 8 → zq t i = zq s i := fun i hi => by unfold zq; rw [h _ (by omega) (by omega)]
  have hq := a3.1
  refine ⟨CR_congr a2 (fun j h1 h2 => h j h1 (by omega)) (h _ (by omega) (by omega)) h2 h3 a1, LI_congr (fun j h1 h2 => h j h1 (by omega)) a2, ⟨by omega, by rw [h _ (by omega) (by omega), e1]; exact a3.2.1, fun i hi => ?_⟩, ⟨by rw [h _ (by omega) (by omega)]; exact a4.1, fun i hi => ?_⟩, UI_congr (fun j h1 h2 => h j h1 (by omega)) (h _ (by omega) (by omega)) a5⟩
  · rw [e1] at hi
    rw [e2 i (by omega), h _ (by omega) (by omega)]
    exact a3.2.2 i hi
  · rw [e1] at hi
    rw [h _ (by omega) (by omega)]
    exact a4.2 i hi
/-- the row before adding, when a branch was executed -/
def dm (t p : Bool) : Nat := if t = p then 0 else 1
def eb (s : Nat → Int32) (a : Nat) (p : Bool) : Nat → Int32 := upd (upd (upd (upd s (6 * a + 5) (nc (tk s a) (s (6 * a + 5)))) (6 * a + 4) (s (6 * a + 4) + 1)) 383 (s 383 + nI (dm (tk s a) p))) 379 (s 379 + nI (3 * dm (tk s a) p))
theorem r_exec2 {s : Nat → Int32} (hI : PI s) {a : Nat} (ha : a < 48) (p : Bool) (h2 : s (6 * a) = 2) (w : Int32) : m_X7_executes w s (nI a) (b2i p) = m_X7_executes_158 w (nI a) (b2i p) (eb s a p) (sc s a (tk s a)) := by
  obtain ⟨c, hc, hc2⟩ := (hI.1 a ha).2.2.2
  have h101 : ∀ (x6 : Int32) (d : Nat) (y : Int32), ((x6 = 0 ∧ d = 0) ∨ (x6 = 1 ∧ d = 1)) → m_X7_executes_101 w (nI a) (b2i p) s (sc s a (tk s a)) x6 (nI (6 * a + 5)) y = m_X7_executes_158 w (nI a) (b2i p) (upd (upd (upd (upd s (6 * a + 5) y) (6 * a + 4) (s (6 * a + 4) + 1)) 383 (s 383 + nI d)) 379 (s 379 + nI (3 * d))) (sc s a (tk s a)) := by
    intro x6 d y hx
    have q1 : upd s (6 * a + 5) y (6 * a + 4) = s (6 * a + 4) := upd_n (by omega)
    have q2 : upd (upd s (6 * a + 5) y) (6 * a + 4) (s (6 * a + 4) + 1) 383 = s 383 := by rw [upd_n (by omega), upd_n (by omega)]
    have q3 : ∀ z, upd (upd (upd s (6 * a + 5) y) (6 * a + 4) (s (6 * a + 4) + 1)) 383 z 379 = s 379 := fun z => by rw [upd_n (by omega), upd_n (by omega), upd_n (by omega)]
    have e156 : ∀ (S : Nat → Int32) (x4 k3 : Int32), m_X7_executes_156 w (nI a) (b2i p) S x4 379 (S 379) k3 = m_X7_executes_158 w (nI a) (b2i p) (upd S 379 (S 379 + k3)) x4 := by
      intro S x4 k3
      unfold m_X7_executes_156
      rw [inb379, gd_s, cl379, bdE]
    have e135 : ∀ (S : Nat → Int32) (x4 k3 : Int32), m_X7_executes_135 w (nI a) (b2i p) S x4 x6 383 (S 383) k3 = m_X7_executes_158 w (nI a) (b2i p) (upd (upd S 383 (S 383 + k3)) 379 (upd S 383 (S 383 + k3) 379 + nI (3 * d))) x4 := by
      intro S x4 k3
      unfold m_X7_executes_135
      rw [inb383, gd_s, cl383, bdE, inb379, gd_s, cl379, e156, e156]
      rcases hx with ⟨h1, h2⟩ | ⟨h1, h2⟩
      · rw [h1, h2, if_pos rfl]
        rfl
      · rw [h1, h2, if_neg (by decide)]
        rfl
    unfold m_X7_executes_101
    rw [inbN (by omega) (by omega), gd_s, bdE, of_4, bn_s, inbN (by omega) (by omega), gd_s, gd_s, clN (by omega), clN (by omega), bdE, q1, inb383, gd_s, cl383, e135, e135, q2]
    rcases hx with ⟨h1, h2⟩ | ⟨h1, h2⟩
    · rw [h1, if_pos rfl, q3, h2]
      rfl
    · rw [h1, if_neg (by decide), q3, h2]
      rfl
  have hn : ∀ x5 x6 : Int32, m_X7_executes_69 w (nI a) (b2i p) s (sc s a (tk s a)) x5 x6 = m_X7_executes_101 w (nI a) (b2i p) s (sc s a (tk s a)) x6 (nI (6 * a + 5)) (if 0 ≤ x5 then (if x5 ≤ 3 then x5 else 3) else 0) := by
    intro x5 x6
    unfold m_X7_executes_69
    rw [of_5, bn_s]
    by_cases g1 : 0 ≤ x5
    · by_cases g2 : x5 ≤ 3
      · simp only [g1, g2, if_true]
      · simp only [g1, g2, if_true, if_false]
    · simp only [g1, if_false]
  have hcl : ∀ t : Bool, (if 0 ≤ s (6 * a + 5) + (if t = true then 1 else -1) then (if s (6 * a + 5) + (if t = true then 1 else -1) ≤ 3 then s (6 * a + 5) + (if t = true then 1 else -1) else 3) else (0 : Int32)) = nc t (s (6 * a + 5)) := by
    intro t
    rw [hc2]
    have : c = 0 ∨ c = 1 ∨ c = 2 ∨ c = 3 := by omega
    rcases this with h | h | h | h <;> subst h <;> cases t <;> decide
  have e61 : ∀ (t q : Bool) (x5 : Int32), m_X7_executes_61 w (nI a) (b2i p) s (sc s a (tk s a)) x5 (b2i t) (b2i q) = m_X7_executes_69 w (nI a) (b2i p) s (sc s a (tk s a)) x5 (if t = q then 0 else 1) := by
    intro t q x5
    unfold m_X7_executes_61
    cases t <;> cases q <;> simp [b2i]
  have e47 : ∀ (k1 : Int32), m_X7_executes_47 w (nI a) (b2i p) s (b2i (tk s a)) (sc s a (tk s a)) (s (6 * a + 5)) k1 = m_X7_executes_69 w (nI a) (b2i p) s (sc s a (tk s a)) (s (6 * a + 5) + k1) (if tk s a = p then 0 else 1) := by
    intro k1
    unfold m_X7_executes_47
    rw [bdE]
    have a1 := e61 (tk s a) true (s (6 * a + 5) + k1)
    have a0 := e61 (tk s a) false (s (6 * a + 5) + k1)
    rw [b2i_t] at a1
    rw [b2i_f] at a0
    cases p
    · rw [if_neg (show ¬ b2i false = 1 by decide), a0]
    · rw [if_pos (show b2i true = 1 from rfl), a1]
  have hx : ((if tk s a = p then (0 : Int32) else 1) = 0 ∧ dm (tk s a) p = 0) ∨ ((if tk s a = p then (0 : Int32) else 1) = 1 ∧ dm (tk s a) p = 1) := by
    unfold dm
    by_cases h : tk s a = p
    · simp [h]
    · simp [h]
  have h3 := h101 _ _ (nc (tk s a) (s (6 * a + 5))) hx
  unfold m_X7_executes
  rw [r_taken hI ha, bn_s, r_succ ha, bn_s, of_0, bn_s, inbN (by omega) (by omega), gd_s, clN (by omega), if_pos h2, of_5, bn_s, inbN (by omega) (by omega), gd_s, clN (by omega), e47, e47, hn, hn]
  refine Eq.trans ?_ h3
  have t1 := hcl true
  have t0 := hcl false
  simp only [if_true, Bool.false_eq_true, if_false] at t1 t0
  rw [t1, t0]
  cases tk s a
  · rw [if_pos (show b2i false = 0 from rfl)]
  · rw [if_neg (show ¬ b2i true = 0 by decide)]
theorem r_exec1 {s : Nat → Int32} (hI : PI s) {a : Nat} (ha : a < 48) (p : Bool) (h2 : ¬ s (6 * a) = 2) (w : Int32) : m_X7_executes w s (nI a) (b2i p) = m_X7_executes_158 w (nI a) (b2i p) s (sc s a (tk s a)) := by
  unfold m_X7_executes
  rw [r_taken hI ha, bn_s, r_succ ha, bn_s, of_0, bn_s, inbN (by omega) (by omega), gd_s, clN (by omega), if_neg h2]
/-- lines count what they bring -/
def wv (w : Int32) (n : Nat) : Int32 := if w = -1 then 0 else nI n
theorem r_158 {s y : Nat → Int32} {w p x4 : Int32} {a : Nat} (hy : m_X7_adds s (nI a) = some y) : m_X7_executes_158 w (nI a) p s x4 = some (upd (upd (upd y 288 x4) 381 (y 381 + 1)) 384 (y 384 + wv w 1)) := by
  have q1 : upd y 288 x4 381 = y 381 := upd_n (by omega)
  have q2 : upd (upd y 288 x4) 381 (y 381 + 1) 384 = y 384 := by rw [upd_n (by omega), upd_n (by omega)]
  unfold m_X7_executes_158 m_X7_executes_207
  rw [hy, bn_s, inb288, gd_s, cl288, bdE, inb381, gd_s, gd_s, cl381, q1, bdE, inb384, gd_s, cl384, q2, gd_s, bdE, gd_s, bdE]
  unfold wv
  by_cases h : w = -1
  · rw [if_pos h, if_pos h]
  · rw [if_neg h, if_neg h]
    rfl
