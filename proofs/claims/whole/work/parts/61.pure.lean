-- ===== 61: loops over lines =====
theorem leN {a b : Nat} (ha : a < 2147483648) (hb : b < 2147483648) : (nI a ≤ nI b) = (a ≤ b) := propext (nI_leI ha hb)
theorem ltN {a b : Nat} (ha : a < 2147483648) (hb : b < 2147483648) : (nI a < nI b) = (a < b) := propext (nI_ltI ha hb)
theorem eqN {a b : Nat} (ha : a < 2147483648) (hb : b < 2147483648) : (nI a = nI b) = (a = b) := propext (nI_eq ha hb)
theorem leN0 {a : Nat} (ha : a < 2147483648) : (nI a ≤ 0) = (a = 0) := by
  rw [show (0 : Int32) = nI 0 from rfl, leN ha (by omega)]
  exact propext ⟨fun h => by omega, fun h => by omega⟩
theorem eqN0 {a : Nat} (ha : a < 2147483648) : (nI a = 0) = (a = 0) := by rw [show (0 : Int32) = nI 0 from rfl, eqN ha (by omega)]
theorem le8N {a : Nat} (ha : a < 2147483648) : ((8 : Int32) ≤ nI a) = (8 ≤ a) := by rw [show (8 : Int32) = nI 8 from rfl, leN (by omega) ha]
theorem eqN8 {a : Nat} (ha : a < 2147483648) : (nI a = 8) = (a = 8) := by rw [show (8 : Int32) = nI 8 from rfl, eqN ha (by omega)]
theorem eqN3 {a : Nat} (ha : a < 2147483648) : (nI a = 3) = (a = 3) := by rw [show (3 : Int32) = nI 3 from rfl, eqN ha (by omega)]
theorem add2N (a : Nat) : (2 : Int32) + nI a = nI (2 + a) := nI_add 2 a
theorem add370 (a : Nat) : (370 : Int32) + nI a = nI (370 + a) := nI_add 370 a
theorem sub1N {a : Nat} (h : 1 ≤ a) : nI a - 1 = nI (a - 1) := pk_sub h
theorem nI1 (a : Nat) : nI a + 1 = nI (a + 1) := nI_1 a
theorem inbL {n : Nat} {x : Int32} (hx : x = nI n) {N : Nat} (h : n < N) (hN : N ≤ 2147483648) : inb x N = true := by rw [hx]; exact inbN h hN
theorem inb369 : inb 369 389 = true := inbN (n := 369) (by omega) (by omega)
theorem inb370 : inb 370 389 = true := inbN (n := 370) (by omega) (by omega)
theorem inb378 : inb 378 389 = true := inbN (n := 378) (by omega) (by omega)
theorem inb386 : inb 386 389 = true := inbN (n := 386) (by omega) (by omega)
theorem inb387 : inb 387 389 = true := inbN (n := 387) (by omega) (by omega)
theorem inb388 : inb 388 389 = true := inbN (n := 388) (by omega) (by omega)
theorem cl369 : Int32.toNatClampNeg 369 = 369 := clN (n := 369) (by omega)
theorem cl370 : Int32.toNatClampNeg 370 = 370 := clN (n := 370) (by omega)
theorem cl378 : Int32.toNatClampNeg 378 = 378 := clN (n := 378) (by omega)
theorem cl386 : Int32.toNatClampNeg 386 = 386 := clN (n := 386) (by omega)
theorem cl387 : Int32.toNatClampNeg 387 = 387 := clN (n := 387) (by omega)
theorem cl388 : Int32.toNatClampNeg 388 = 388 := clN (n := 388) (by omega)
def wl (g : Nat → Bool) : Nat → Nat → Nat
  | 0, i => i
  | k + 1, i => if g i = true then wl g k (i + 1) else i
def ex (g : Nat → Bool) : Nat → Nat → Bool
  | 0, _ => false
  | k + 1, i => g i || ex g k (i + 1)
def al (g : Nat → Bool) : Nat → Nat → Bool
  | 0, _ => true
  | k + 1, i => g i && al g k (i + 1)
/-- how many -/
def ctb (g : Nat → Bool) : Nat → Nat → Nat
  | 0, _ => 0
  | k + 1, i => (if g i = true then 1 else 0) + ctb g k (i + 1)
theorem wl_le (g : Nat → Bool) : ∀ k i, i ≤ wl g k i ∧ wl g k i ≤ i + k
  | 0, i => ⟨Nat.le_refl _, Nat.le_refl _⟩
  | k + 1, i => by
    have h := wl_le g k (i + 1)
    unfold wl
    split
    · exact ⟨by omega, by omega⟩
    · exact ⟨by omega, by omega⟩
theorem wl_cong {g h : Nat → Bool} : ∀ {k i : Nat}, (∀ j, i ≤ j → j < i + k → g j = h j) → wl g k i = wl h k i
  | 0, _, _ => rfl
  | k + 1, i, e => by
    unfold wl
    rw [e i (by omega) (by omega), wl_cong (k := k) (i := i + 1) (fun j h1 h2 => e j (by omega) (by omega))]
theorem ex_cong {g h : Nat → Bool} : ∀ {k i : Nat}, (∀ j, i ≤ j → j < i + k → g j = h j) → ex g k i = ex h k i
  | 0, _, _ => rfl
  | k + 1, i, e => by
    unfold ex
    rw [e i (by omega) (by omega), ex_cong (k := k) (i := i + 1) (fun j h1 h2 => e j (by omega) (by omega))]
theorem al_cong {g h : Nat → Bool} : ∀ {k i : Nat}, (∀ j, i ≤ j → j < i + k → g j = h j) → al g k i = al h k i
  | 0, _, _ => rfl
  | k + 1, i, e => by
    unfold al
    rw [e i (by omega) (by omega), al_cong (k := k) (i := i + 1) (fun j h1 h2 => e j (by omega) (by omega))]
theorem ctb_cong {g h : Nat → Bool} : ∀ {k i : Nat}, (∀ j, i ≤ j → j < i + k → g j = h j) → ctb g k i = ctb h k i
  | 0, _, _ => rfl
  | k + 1, i, e => by
    unfold ctb
    rw [e i (by omega) (by omega), ctb_cong (k := k) (i := i + 1) (fun j h1 h2 => e j (by omega) (by omega))]
theorem ctb_le (g : Nat → Bool) : ∀ k i, ctb g k i ≤ k
  | 0, _ => Nat.le_refl _
  | k + 1, i => by
    have h := ctb_le g k (i + 1)
    unfold ctb
    split <;> omega
-- lines of a row
/-- a line's size -/
def zs (s : Nat → Int32) (p : Nat) : Nat := Int32.toNatClampNeg (s (289 + 10 * p))
/-- a line's address, as a number -/
def za (s : Nat → Int32) (p i : Nat) : Nat := Int32.toNatClampNeg (s (291 + 10 * p + i))
/-- what a row's lines always are -/
def LI (s : Nat → Int32) : Prop := ∀ p, p < 8 → zs s p ≤ 8 ∧ s (289 + 10 * p) = nI (zs s p) ∧ ∀ i, i < zs s p → za s p i < 48 ∧ s (291 + 10 * p + i) = nI (za s p i)
/-- the class's lines as the row has them -/
def CR (s : Nat → Int32) (M : Nat → Nat → Int32) (sz us : Nat → Int32) (lu pu re : Int32) : Prop :=
  (∀ p, p < 8 → sz p = s (289 + 10 * p) ∧ (∀ i, i < zs s p → M p i = s (291 + 10 * p + i)) ∧ (0 < zs s p → us p = s (290 + 10 * p))) ∧ lu = s 378 ∧ pu = s 386 ∧ re = s 387
/-- the step from the address before is as predicted -/
def ug (s : Nat → Int32) (p : Nat) : Nat → Bool := fun i => decide (s (291 + 10 * p + i) = ps s (za s p (i - 1)))
/-- the usable part's length -/
def ul (s : Nat → Int32) (p : Nat) : Nat := if zs s p = 0 then 0 else wl (ug s p) (zs s p - 1) 1
theorem ul_le {s : Nat → Int32} (hL : LI s) {p : Nat} (hp : p < 8) : ul s p ≤ zs s p ∧ (0 < zs s p → 0 < ul s p) := by
  unfold ul
  have h := wl_le (ug s p) (zs s p - 1) 1
  split
  · exact ⟨by omega, fun h => by omega⟩
  · exact ⟨by omega, fun _ => by omega⟩
theorem r_usable_loop {s : Nat → Int32} (hL : LI s) {p : Nat} (hp : p < 8) : ∀ k i n, i + k = zs s p → 1 ≤ i → k < n → m_X7_usable_21 s (nI p) n (nI (zs s p)) (nI i) = some (nI (wl (ug s p) k i)) := by
  have h8 := (hL p hp).1
  intro k
  induction k with
  | zero =>
    intro i n h1 h2 h3
    obtain ⟨n, rfl⟩ : ∃ z, n = z + 1 := ⟨n - 1, by omega⟩
    rw [m_X7_usable_21]
    unfold m_X7_usable_69
    simp (disch := omega) only [leN0, leN]
    simp only [show ¬ i = 0 by omega, show zs s p ≤ i by omega, if_true, if_false, wl]
  | succ k ih =>
    intro i n h1 h2 h3
    obtain ⟨n, rfl⟩ : ∃ z, n = z + 1 := ⟨n - 1, by omega⟩
    have hz := (hL p hp).2.2 (i - 1) (by omega)
    rw [m_X7_usable_21]
    unfold m_X7_usable_69
    simp (disch := omega) only [leN0, leN, add2N, sub1N, ofL, bn_s, inbN, gd_s, clN, bd, nI1]
    have e1 : 289 + 10 * p + (2 + i - 1) = 291 + 10 * p + (i - 1) := by omega
    have e2 : 289 + 10 * p + (2 + i) = 291 + 10 * p + i := by omega
    rw [e1, e2, hz.2, r_predS hz.1]
    simp only [bn_s, show ¬ i = 0 by omega, show ¬ zs s p ≤ i by omega, if_false]
    by_cases hg : s (291 + 10 * p + i) = ps s (za s p (i - 1))
    · have hg2 : ug s p i = true := decide_eq_true hg
      rw [if_pos hg, ih (i + 1) n (by omega) (by omega) (by omega)]
      simp [wl, hg2]
    · have hg2 : ug s p i = false := decide_eq_false hg
      rw [if_neg hg]
      simp [wl, hg2]
theorem r_usable {s : Nat → Int32} (hL : LI s) {p : Nat} (hp : p < 8) : m_X7_usable s (nI p) = some (nI (ul s p)) := by
  have h8 := hL p hp
  unfold m_X7_usable m_X7_usable_20
  simp (disch := omega) only [ofL_0, bn_s, inbN, gd_s, clN, bd]
  rw [h8.2.1]
  simp (disch := omega) only [leN0]
  unfold ul
  by_cases h0 : zs s p = 0
  · rw [if_pos h0, if_pos h0]
    rw [m_X7_usable_21]
    rfl
  · rw [if_neg h0, if_neg h0]
    exact r_usable_loop hL hp (zs s p - 1) 1 4000 (by omega) (by omega) (by omega)
theorem k_usable_loop {s kd tg oc ln ct cn : Nat → Int32} {nx : Int32} {M : Nat → Nat → Int32} {sz us : Nat → Int32} {lu pu re : Int32} (hP : PR s kd tg oc ln ct cn nx) (hC : CR s M sz us lu pu re) (hL : LI s) {p : Nat} (hp : p < 8) :
    ∀ k i n, i + k = zs s p → 1 ≤ i → k < n → m_X0_usableSize_18 M sz kd tg cn (nI p) n (nI (zs s p)) (nI i) = some (nI (wl (ug s p) k i)) := by
  have h8 := (hL p hp).1
  intro k
  induction k with
  | zero =>
    intro i n h1 h2 h3
    obtain ⟨n, rfl⟩ : ∃ z, n = z + 1 := ⟨n - 1, by omega⟩
    rw [m_X0_usableSize_18]
    simp (disch := omega) only [leN, inbN, gd_s]
    have e : i = zs s p := by omega
    simp only [show zs s p ≤ i by omega, if_true, wl]
    rw [e]
  | succ k ih =>
    intro i n h1 h2 h3
    obtain ⟨n, rfl⟩ : ∃ z, n = z + 1 := ⟨n - 1, by omega⟩
    have hz := (hL p hp).2.2 (i - 1) (by omega)
    have c1 := (hC.1 p hp).2.1 (i - 1) (by omega)
    have c2 := (hC.1 p hp).2.1 i (by omega)
    rw [m_X0_usableSize_18]
    simp (disch := omega) only [leN, sub1N, inbN, gd_s, clN, bd, nI1, c1, c2]
    rw [hz.2, k_predS hP hz.1]
    simp only [bn_s, show ¬ zs s p ≤ i by omega, if_false]
    by_cases hg : s (291 + 10 * p + i) = ps s (za s p (i - 1))
    · have hg2 : ug s p i = true := decide_eq_true hg
      rw [if_pos hg, ih (i + 1) n (by omega) (by omega) (by omega)]
      simp [wl, hg2]
    · have hg2 : ug s p i = false := decide_eq_false hg
      rw [if_neg hg]
      simp [wl, hg2]
theorem k_usable {s kd tg oc ln ct cn : Nat → Int32} {nx : Int32} {M : Nat → Nat → Int32} {sz us : Nat → Int32} {lu pu re : Int32} (hP : PR s kd tg oc ln ct cn nx) (hC : CR s M sz us lu pu re) (hL : LI s) {p : Nat} (hp : p < 8) (h0 : 0 < zs s p) :
    m_X0_usableSize M sz kd tg cn (nI p) = some (nI (ul s p)) := by
  have h8 := hL p hp
  unfold m_X0_usableSize ul
  simp (disch := omega) only [inbN, gd_s, clN, bd]
  rw [(hC.1 p hp).1, h8.2.1, if_neg (by omega)]
  exact k_usable_loop hP hC hL hp (zs s p - 1) 1 4000 (by omega) (by omega) (by omega)
-- a line that holds an address
def hg (s : Nat → Int32) (p a : Nat) : Nat → Bool := fun i => decide (s (291 + 10 * p + i) = nI a)
def has (s : Nat → Int32) (p a : Nat) : Bool := ex (hg s p a) (zs s p) 0
theorem r_contains_loop {s : Nat → Int32} (hL : LI s) {p a : Nat} (hp : p < 8) : ∀ k i n b, i + k = zs s p → k < n → m_X7_contains_5 s (nI p) (nI a) n (b2i b) (nI i) = some (b2i (b || ex (hg s p a) k i)) := by
  have h8 := hL p hp
  intro k
  induction k with
  | zero =>
    intro i n b h1 h3
    obtain ⟨n, rfl⟩ : ∃ z, n = z + 1 := ⟨n - 1, by omega⟩
    rw [m_X7_contains_5]
    simp (disch := omega) only [ofL_0, bn_s, inbN, gd_s, clN]
    rw [h8.2.1]
    simp (disch := omega) only [leN, isb_b, gd_s]
    simp [show zs s p ≤ i by omega, ex]
  | succ k ih =>
    intro i n b h1 h3
    obtain ⟨n, rfl⟩ : ∃ z, n = z + 1 := ⟨n - 1, by omega⟩
    have t1 := ih (i + 1) n true (by omega) (by omega)
    have f1 := ih (i + 1) n false (by omega) (by omega)
    rw [b2i_t] at t1
    rw [b2i_f] at f1
    rw [m_X7_contains_5]
    unfold m_X7_contains_41 m_X7_contains_46
    simp (disch := omega) only [ofL_0, bn_s, inbN, gd_s, clN, add2N, ofL, nI1, bd, b2i_0]
    rw [h8.2.1]
    have e2 : 289 + 10 * p + (2 + i) = 291 + 10 * p + i := by omega
    simp (disch := omega) only [leN, t1, f1, e2]
    simp only [show ¬ zs s p ≤ i by omega, if_false]
    cases b
    · by_cases hq : s (291 + 10 * p + i) = nI a
      · simp [hq, ex, hg]
      · simp [hq, ex, hg]
    · simp
theorem r_contains {s : Nat → Int32} (hL : LI s) {p a : Nat} (hp : p < 8) : m_X7_contains s (nI p) (nI a) = some (b2i (has s p a)) := by
  have h8 := hL p hp
  unfold m_X7_contains
  exact r_contains_loop hL hp (zs s p) 0 4000 false (by omega) (by omega)
theorem k_holds_loop {s : Nat → Int32} {M : Nat → Nat → Int32} {sz us : Nat → Int32} {lu pu re : Int32} (hC : CR s M sz us lu pu re) (hL : LI s) {p a : Nat} (hp : p < 8) : ∀ k i n, i + k = zs s p → k < n → m_X0_holds_2 M sz (nI p) (nI a) n (nI i) = some (b2i (ex (hg s p a) k i)) := by
  have h8 := hL p hp
  intro k
  induction k with
  | zero =>
    intro i n h1 h3
    obtain ⟨n, rfl⟩ : ∃ z, n = z + 1 := ⟨n - 1, by omega⟩
    rw [m_X0_holds_2]
    simp (disch := omega) only [inbN, gd_s, clN]
    rw [(hC.1 p hp).1, h8.2.1]
    simp (disch := omega) only [leN]
    simp [show zs s p ≤ i by omega, ex, b2i]
  | succ k ih =>
    intro i n h1 h3
    obtain ⟨n, rfl⟩ : ∃ z, n = z + 1 := ⟨n - 1, by omega⟩
    have c2 := (hC.1 p hp).2.1 i (by omega)
    rw [m_X0_holds_2]
    simp (disch := omega) only [inbN, gd_s, clN, nI1, bd, c2]
    rw [(hC.1 p hp).1, h8.2.1, ih (i + 1) n (by omega) (by omega)]
    simp (disch := omega) only [leN]
    simp only [show ¬ zs s p ≤ i by omega, if_false]
    by_cases hq : s (291 + 10 * p + i) = nI a
    · simp [hq, ex, hg, b2i]
    · simp [hq, ex, hg]
theorem k_holds {s : Nat → Int32} {M : Nat → Nat → Int32} {sz us : Nat → Int32} {lu pu re : Int32} (hC : CR s M sz us lu pu re) (hL : LI s) {p a : Nat} (hp : p < 8) : m_X0_holds M sz (nI p) (nI a) = some (b2i (has s p a)) := by
  have h8 := hL p hp
  unfold m_X0_holds
  exact k_holds_loop hC hL hp (zs s p) 0 4000 (by omega) (by omega)
-- how many lines there are
def nl (s : Nat → Int32) : Nat := ctb (fun p => decide (0 < zs s p)) 8 0
def nw (s : Nat → Int32) (a : Nat) : Nat := ctb (fun p => has s p a) 8 0
theorem r_lines_loop {s : Nat → Int32} (hL : LI s) : ∀ k i n c, i + k = 8 → c ≤ i → k < n → m_X7_linesNow_4 s n (nI c) (nI i) = some (nI (c + ctb (fun p => decide (0 < zs s p)) k i)) := by
  intro k
  induction k with
  | zero =>
    intro i n c h1 hc h3
    obtain ⟨n, rfl⟩ : ∃ z, n = z + 1 := ⟨n - 1, by omega⟩
    rw [m_X7_linesNow_4]
    simp (disch := omega) only [le8N]
    simp [show 8 ≤ i by omega, ctb]
  | succ k ih =>
    intro i n c h1 hc h3
    obtain ⟨n, rfl⟩ : ∃ z, n = z + 1 := ⟨n - 1, by omega⟩
    have h8 := hL i (by omega)
    have i0 := ih (i + 1) n c (by omega) (by omega) (by omega)
    have i1 := ih (i + 1) n (c + 1) (by omega) (by omega) (by omega)
    rw [m_X7_linesNow_4]
    unfold m_X7_linesNow_29
    simp (disch := omega) only [le8N, ofL_0, bn_s, inbN, gd_s, clN, bd, nI1]
    rw [h8.2.1]
    have e0 : nI c + 0 = nI c := nI_add c 0
    simp (disch := omega) only [leN0, e0, i0, i1]
    simp only [show ¬ 8 ≤ i by omega, if_false, ctb]
    by_cases hz : zs s i = 0
    · simp [hz]
    · simp [hz, show 0 < zs s i by omega, Nat.add_assoc]
theorem r_lines {s : Nat → Int32} (hL : LI s) : m_X7_linesNow s = some (nI (nl s)) := by
  unfold m_X7_linesNow nl
  have h := r_lines_loop hL 8 0 4000 0 (by omega) (by omega) (by omega)
  rw [Nat.zero_add] at h
  exact h
theorem k_filled_loop {s : Nat → Int32} {sz : Nat → Int32} (hC : ∀ p, p < 8 → sz p = s (289 + 10 * p)) (hL : LI s) : ∀ k i n c, i + k = 8 → c ≤ i → k < n → m_X0_filled_4 sz n (nI c) (nI i) = some (nI (c + ctb (fun p => decide (0 < zs s p)) k i)) := by
  intro k
  induction k with
  | zero =>
    intro i n c h1 hc h3
    obtain ⟨n, rfl⟩ : ∃ z, n = z + 1 := ⟨n - 1, by omega⟩
    rw [m_X0_filled_4]
    simp (disch := omega) only [le8N]
    simp [show 8 ≤ i by omega, ctb]
  | succ k ih =>
    intro i n c h1 hc h3
    obtain ⟨n, rfl⟩ : ∃ z, n = z + 1 := ⟨n - 1, by omega⟩
    have h8 := hL i (by omega)
    have i0 := ih (i + 1) n c (by omega) (by omega) (by omega)
    have i1 := ih (i + 1) n (c + 1) (by omega) (by omega) (by omega)
    rw [m_X0_filled_4]
    unfold m_X0_filled_22
    simp (disch := omega) only [le8N, inbN, gd_s, clN, bd, nI1]
    rw [hC i (by omega), h8.2.1]
    simp (disch := omega) only [leN0, i0, i1]
    simp only [show ¬ 8 ≤ i by omega, if_false, ctb]
    by_cases hz : zs s i = 0
    · simp [hz]
    · simp [hz, show 0 < zs s i by omega, Nat.add_assoc]
theorem k_filled {s : Nat → Int32} {sz : Nat → Int32} (hC : ∀ p, p < 8 → sz p = s (289 + 10 * p)) (hL : LI s) : m_X0_filled sz = some (nI (nl s)) := by
  unfold m_X0_filled nl
  have h := k_filled_loop hC hL 8 0 4000 0 (by omega) (by omega) (by omega)
  rw [Nat.zero_add] at h
  exact h
theorem k_holding_loop {s : Nat → Int32} {M : Nat → Nat → Int32} {sz us : Nat → Int32} {lu pu re : Int32} (hC : CR s M sz us lu pu re) (hL : LI s) {a : Nat} : ∀ k i n c, i + k = 8 → c ≤ i → k < n → m_X0_holding_4 M sz (nI a) n (nI c) (nI i) = some (nI (c + ctb (fun p => has s p a) k i)) := by
  intro k
  induction k with
  | zero =>
    intro i n c h1 hc h3
    obtain ⟨n, rfl⟩ : ∃ z, n = z + 1 := ⟨n - 1, by omega⟩
    rw [m_X0_holding_4]
    simp (disch := omega) only [le8N]
    simp [show 8 ≤ i by omega, ctb]
  | succ k ih =>
    intro i n c h1 hc h3
    obtain ⟨n, rfl⟩ : ∃ z, n = z + 1 := ⟨n - 1, by omega⟩
    have i0 := ih (i + 1) n c (by omega) (by omega) (by omega)
    have i1 := ih (i + 1) n (c + 1) (by omega) (by omega) (by omega)
    rw [m_X0_holding_4]
    unfold m_X0_holding_22
    simp (disch := omega) only [le8N, k_holds hC hL (show i < 8 by omega), bn_s, bd, nI1, b2i_0, i0, i1]
    simp only [show ¬ 8 ≤ i by omega, if_false, ctb]
    by_cases hq : has s i a = true
    · simp [hq, Nat.add_assoc]
    · simp [hq]
theorem k_holding {s : Nat → Int32} {M : Nat → Nat → Int32} {sz us : Nat → Int32} {lu pu re : Int32} (hC : CR s M sz us lu pu re) (hL : LI s) {a : Nat} : m_X0_holding M sz (nI a) = some (nI (nw s a)) := by
  unfold m_X0_holding nw
  have h := k_holding_loop hC hL (a := a) 8 0 4000 0 (by omega) (by omega) (by omega)
  rw [Nat.zero_add] at h
  exact h
