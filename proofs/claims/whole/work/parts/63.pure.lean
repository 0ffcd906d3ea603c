-- ===== 63: storing the pending line =====
/-- a line is used -/
def TT (s t : Nat → Int32) (p : Nat) : Prop := t 369 = 0 ∧ t 378 = s 378 + 1 ∧ t (290 + 10 * p) = s 378 + 1 ∧ ∀ j, j ≠ 369 → j ≠ 378 → j ≠ 290 + 10 * p → t j = s j
/-- a line is filled -/
def TS (s t : Nat → Int32) (p : Nat) (c : Int32) : Prop := t 369 = 0 ∧ t 378 = s 378 + 1 ∧ t 386 = s 386 + 1 ∧ t 387 = s 387 + c ∧ t (289 + 10 * p) = s 369 ∧ t (290 + 10 * p) = s 378 + 1 ∧ (∀ i, i < zp s → t (291 + 10 * p + i) = s (370 + i)) ∧ ∀ j, j ≠ 369 → j ≠ 378 → j ≠ 386 → j ≠ 387 → j ≠ 289 + 10 * p → j ≠ 290 + 10 * p → (j < 291 + 10 * p ∨ 291 + 10 * p + zp s ≤ j) → t j = s j
def tch (s : Nat → Int32) (p : Nat) : Nat → Int32 := upd (upd (upd s 378 (s 378 + 1)) (289 + 10 * p + 1) (s 378 + 1)) 369 0
theorem r_touch {s : Nat → Int32} {p : Nat} (hp : p < 8) : m_X7_stores_161 s (nI p) = some (tch s p) := by
  unfold m_X7_stores_161 m_X7_nextUse
  simp (disch := omega) only [ofL_1, bn_s, inb378, inb369, cl378, cl369, gd_s, bd, upd_s, inbN, clN]
  rfl
theorem tch_TT (s : Nat → Int32) {p : Nat} (hp : p < 8) : TT s (tch s p) p := by
  have e : 289 + 10 * p + 1 = 290 + 10 * p := by omega
  unfold tch
  rw [e]
  refine ⟨upd_s, ?_, ?_, fun j h1 h2 h3 => ?_⟩
  · rw [upd_n (by omega), upd_n (by omega), upd_s]
  · rw [upd_n (by omega), upd_s]
  · rw [upd_n h1, upd_n h3, upd_n h2]
theorem r_fill_loop {p : Nat} (hp : p < 8) : ∀ k i n (S : Nat → Int32), S 369 = nI (i + k) → i + k ≤ 8 → k < n → ∃ u, m_X7_stores_121 n S (nI p) (nI i) = some (tch u p) ∧ (∀ l, i ≤ l → l < i + k → u (291 + 10 * p + l) = S (370 + l)) ∧ ∀ j, (j < 291 + 10 * p + i ∨ 291 + 10 * p + (i + k) ≤ j) → u j = S j := by
  intro k
  induction k with
  | zero =>
    intro i n S h1 h2 h3
    obtain ⟨n, rfl⟩ : ∃ z, n = z + 1 := ⟨n - 1, by omega⟩
    refine ⟨S, ?_, fun l h4 h5 => by omega, fun j _ => rfl⟩
    rw [m_X7_stores_121, inb369, cl369, gd_s, h1, if_pos (leN_t (by omega) (by omega))]
    exact r_touch hp
  | succ k ih =>
    intro i n S h1 h2 h3
    obtain ⟨n, rfl⟩ : ∃ z, n = z + 1 := ⟨n - 1, by omega⟩
    have e2 : 289 + 10 * p + (2 + i) = 291 + 10 * p + i := by omega
    obtain ⟨u, a1, a2, a3⟩ := ih (i + 1) n (upd S (291 + 10 * p + i) (S (370 + i))) (by rw [upd_n (by omega), h1]; congr 1; omega) (by omega) (by omega)
    refine ⟨u, ?_, fun l h4 h5 => ?_, fun j hj => ?_⟩
    · rw [m_X7_stores_121, inb369, cl369, gd_s, h1, if_neg (leN_f (by omega) (by omega))]
      simp (disch := omega) only [add2N, add370, ofL, bn_s, bd, inbN, gd_s, clN, nI1, e2]
      exact a1
    · by_cases hl : l = i
      · subst hl
        rw [a3 _ (by omega), upd_s]
      · rw [a2 l (by omega) (by omega), upd_n (by omega)]
    · rw [a3 j (by omega), upd_n (by omega)]
theorem r_store_at {s : Nat → Int32} (hQ : QI s 8) {p : Nat} (hp : p < 8) (c : Int32) : ∃ t, m_X7_stores_87 s (nI p) 387 (s 387) c = some t ∧ TS s t p c := by
  have hq := hQ.1
  obtain ⟨u, a1, a2, a3⟩ := r_fill_loop hp (zp s) 0 4000 (upd (upd (upd s 387 (s 387 + c)) 386 (s 386 + 1)) (289 + 10 * p) (s 369)) (by rw [upd_n (by omega), upd_n (by omega), upd_n (by omega), hQ.2.1]; congr 1; omega) (by omega) (by omega)
  have hT := tch_TT u hp
  have u378 : u 378 = s 378 := by rw [a3 _ (by omega), upd_n (by omega), upd_n (by omega), upd_n (by omega)]
  refine ⟨tch u p, ?_, hT.1, by rw [hT.2.1, u378], ?_, ?_, ?_, by rw [hT.2.2.1, u378], fun i hi => ?_, fun j h1 h2 h3 h4 h5 h6 h7 => ?_⟩
  · unfold m_X7_stores_87
    have e386 : upd s 387 (s 387 + c) 386 = s 386 := upd_n (by omega)
    have e369 : upd (upd s 387 (s 387 + c)) 386 (s 386 + 1) 369 = s 369 := by rw [upd_n (by omega), upd_n (by omega)]
    simp (disch := omega) only [inb387, inb386, inb369, cl387, cl386, cl369, gd_s, bd, ofL_0, bn_s, inbN, clN, e386, e369]
    exact a1
  · rw [hT.2.2.2 _ (by omega) (by omega) (by omega), a3 _ (by omega), upd_n (by omega), upd_s]
  · rw [hT.2.2.2 _ (by omega) (by omega) (by omega), a3 _ (by omega), upd_n (by omega), upd_n (by omega), upd_s]
  · rw [hT.2.2.2 _ (by omega) (by omega) (by omega), a3 _ (by omega), upd_s]
  · rw [hT.2.2.2 _ (by omega) (by omega) (by omega), a2 i (by omega) (by omega), upd_n (by omega), upd_n (by omega), upd_n (by omega)]
  · rw [hT.2.2.2 _ h1 h2 h6, a3 _ (by omega), upd_n h5, upd_n h3, upd_n h4]
theorem UI_use {s t : Nat → Int32} {B p : Nat} (hp : p < 8) (hU : UI s B) (hB : B + 1 < 2147483648) (h1 : t 378 = s 378 + 1) (h2 : t (290 + 10 * p) = s 378 + 1) (h3 : ∀ p', p' < 8 → p' ≠ p → t (290 + 10 * p') = s (290 + 10 * p') ∧ zs t p' = zs s p') : UI t (B + 1) := by
  obtain ⟨⟨u, a1, a2, a3⟩, a4⟩ := hU
  have e : s 378 + 1 = nI (u + 1) := by rw [a2, nI1]
  have hn : ∀ p', p' < 8 → p' ≠ p → 0 < zs t p' → t (290 + 10 * p') ≠ s 378 + 1 := by
    intro p' hp' hne h0
    obtain ⟨b1, b2⟩ := h3 p' hp' hne
    obtain ⟨v, c1, c2⟩ := a3 p' hp' (by omega)
    rw [b1, c2, e]
    intro h
    have := (nI_eq (by omega) (by omega)).mp h
    omega
  refine ⟨⟨u + 1, by omega, by rw [h1, e], fun p' hp' h0 => ?_⟩, fun p1 p2 q1 q2 hne z1 z2 => ?_⟩
  · by_cases hx : p' = p
    · subst hx
      exact ⟨u + 1, by omega, by rw [h2, e]⟩
    · obtain ⟨b1, b2⟩ := h3 p' hp' hx
      obtain ⟨v, c1, c2⟩ := a3 p' hp' (by omega)
      exact ⟨v, by omega, by rw [b1, c2]⟩
  · by_cases x1 : p1 = p
    · subst x1
      rw [h2]
      exact fun h => hn p2 q2 (Ne.symm hne) z2 h.symm
    · by_cases x2 : p2 = p
      · subst x2
        rw [h2]
        exact hn p1 q1 x1 z1
      · obtain ⟨b1, b2⟩ := h3 p1 q1 x1
        obtain ⟨b3, b4⟩ := h3 p2 q2 x2
        rw [b1, b3]
        exact a4 p1 p2 q1 q2 hne (by omega) (by omega)
/-- what adding changes -/
def FR (s t : Nat → Int32) : Prop := (∀ j, j < 289 → t j = s j) ∧ ∀ j, 379 ≤ j → j ≠ 386 → j ≠ 387 → t j = s j
theorem zs_of {s t : Nat → Int32} {p p' : Nat} (h : t (289 + 10 * p) = s (289 + 10 * p')) : zs t p = zs s p' := by unfold zs; rw [h]
theorem za_of {s t : Nat → Int32} {p i p' i' : Nat} (h : t (291 + 10 * p + i) = s (291 + 10 * p' + i')) : za t p i = za s p' i' := by unfold za; rw [h]
theorem TT_all {s t : Nat → Int32} {p B : Nat} (hp : p < 8) (h : TT s t p) {M : Nat → Nat → Int32} {sz us : Nat → Int32} {lu pu re : Int32} (hC : CR s M sz us lu pu re) (hL : LI s) (hU : UI s B) (hB : B + 1 < 2147483648) :
    CR t M sz (upd us p (lu + 1)) (lu + 1) pu re ∧ LI t ∧ UI t (B + 1) ∧ FR s t := by
  obtain ⟨h1, h2, h3, h4⟩ := h
  have hz : ∀ p', p' < 8 → t (289 + 10 * p') = s (289 + 10 * p') := fun p' hp' => h4 _ (by omega) (by omega) (by omega)
  have ha : ∀ p' i, p' < 8 → i < 8 → t (291 + 10 * p' + i) = s (291 + 10 * p' + i) := fun p' i hp' hi => h4 _ (by omega) (by omega) (by omega)
  refine ⟨⟨fun p' hp' => ?_, by rw [h2, hC.2.1], by rw [h4 _ (by omega) (by omega) (by omega)]; exact hC.2.2.1, by rw [h4 _ (by omega) (by omega) (by omega)]; exact hC.2.2.2⟩, fun p' hp' => ?_, UI_use hp hU hB h2 h3 (fun p' hp' hne => ⟨h4 _ (by omega) (by omega) (by omega), zs_of (hz p' hp')⟩), fun j hj => h4 _ (by omega) (by omega) (by omega), fun j hj _ _ => h4 _ (by omega) (by omega) (by omega)⟩
  · have h8 := (hL p' hp').1
    obtain ⟨c1, c2, c3⟩ := hC.1 p' hp'
    rw [zs_of (hz p' hp'), hz p' hp']
    refine ⟨c1, fun i hi => by rw [ha p' i hp' (by omega)]; exact c2 i hi, fun h0 => ?_⟩
    by_cases hx : p' = p
    · subst hx
      rw [upd_s, h3, hC.2.1]
    · rw [upd_n hx, h4 _ (by omega) (by omega) (by omega)]
      exact c3 h0
  · obtain ⟨l1, l2, l3⟩ := hL p' hp'
    rw [zs_of (hz p' hp'), hz p' hp']
    refine ⟨l1, l2, fun i hi => ?_⟩
    rw [za_of (ha p' i hp' (by omega)), ha p' i hp' (by omega)]
    exact l3 i hi
theorem TS_all {s t : Nat → Int32} {p B : Nat} {c : Int32} (hp : p < 8) (h : TS s t p c) {M : Nat → Nat → Int32} {sz us row : Nat → Int32} {lu pu re pn : Int32} (hC : CR s M sz us lu pu re) (hL : LI s) (hQ : QI s 8) (hR : QR s pn row) (hU : UI s B) (hB : B + 1 < 2147483648) :
    CR t (va_up M p (va_cpy row (M p) 0 0 (zp s))) (upd sz p pn) (upd us p (lu + 1)) (lu + 1) (pu + 1) (re + c) ∧ LI t ∧ UI t (B + 1) ∧ FR s t := by
  obtain ⟨h1, h2, h3, h4, h5, h6, h7, h8⟩ := h
  have hq := hQ.1
  have hz : ∀ p', p' < 8 → p' ≠ p → t (289 + 10 * p') = s (289 + 10 * p') := fun p' hp' hne => h8 _ (by omega) (by omega) (by omega) (by omega) (by omega) (by omega) (by omega)
  have ha : ∀ p' i, p' < 8 → p' ≠ p → i < 8 → t (291 + 10 * p' + i) = s (291 + 10 * p' + i) := fun p' i hp' hne hi => h8 _ (by omega) (by omega) (by omega) (by omega) (by omega) (by omega) (by omega)
  have hb : ∀ p', p' < 8 → p' ≠ p → t (290 + 10 * p') = s (290 + 10 * p') := fun p' hp' hne => h8 _ (by omega) (by omega) (by omega) (by omega) (by omega) (by omega) (by omega)
  have hzp : zs t p = zp s := by unfold zs zp; rw [h5]
  refine ⟨⟨fun p' hp' => ?_, by rw [h2, hC.2.1], by rw [h3, hC.2.2.1], by rw [h4, hC.2.2.2]⟩, fun p' hp' => ?_, UI_use hp hU hB h2 h6 (fun p' hp' hne => ⟨hb p' hp' hne, zs_of (hz p' hp' hne)⟩), fun j hj => h8 _ (by omega) (by omega) (by omega) (by omega) (by omega) (by omega) (by omega), fun j hj h9 h10 => h8 _ (by omega) (by omega) (by omega) (by omega) (by omega) (by omega) (by omega)⟩
  · by_cases hx : p' = p
    · subst hx
      rw [hzp, upd_s, upd_s, va_up_self, h5, h6, hC.2.1]
      refine ⟨hR.1, fun i hi => ?_, fun _ => rfl⟩
      rw [h7 i hi, ← hR.2 i hi]
      unfold va_cpy
      rw [if_pos (by omega)]
      congr 1
      omega
    · have l1 := (hL p' hp').1
      obtain ⟨c1, c2, c3⟩ := hC.1 p' hp'
      rw [zs_of (hz p' hp' hx), hz p' hp' hx, upd_n hx, upd_n hx, va_up_ne _ _ hx, hb p' hp' hx]
      exact ⟨c1, fun i hi => by rw [ha p' i hp' hx (by omega)]; exact c2 i hi, c3⟩
  · by_cases hx : p' = p
    · subst hx
      rw [hzp, h5]
      refine ⟨hq, hQ.2.1, fun i hi => ?_⟩
      have e : za t p' i = zq s i := by unfold za zq; rw [h7 i hi]
      rw [e, h7 i hi]
      exact hQ.2.2 i hi
    · obtain ⟨l1, l2, l3⟩ := hL p' hp'
      rw [zs_of (hz p' hp' hx), hz p' hp' hx]
      refine ⟨l1, l2, fun i hi => ?_⟩
      rw [za_of (ha p' i hp' hx (by omega)), ha p' i hp' hx (by omega)]
      exact l3 i hi
