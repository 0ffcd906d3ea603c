-- ===== 77: copying a machine =====
theorem FRl_ext {s kd tg oc ln : Nat → Int32} {pn tm ft xe th ms fl lf : Int32} {row : Nat → Int32} {M : Nat → Nat → Int32} {sz us : Nat → Int32} {lu pu re : Int32} {ct cn : Nat → Int32} {nx : Int32} {B : Nat} {kd' tg' oc' ln' ct' cn' row' sz' us' : Nat → Int32} {M' : Nat → Nat → Int32} (h : FRl s kd tg oc ln pn tm ft xe th ms fl lf row M sz us lu pu re ct cn nx B)
    (e1 : ∀ a, a < 48 → kd' a = kd a) (e2 : ∀ a, a < 48 → tg' a = tg a) (e3 : ∀ a, a < 48 → oc' a = oc a) (e4 : ∀ a, a < 48 → ln' a = ln a) (e5 : ∀ a, a < 48 → ct' a = ct a) (e6 : ∀ a, a < 48 → cn' a = cn a) (e7 : ∀ i, i < 8 → row' i = row i) (e8 : ∀ i, i < 8 → sz' i = sz i) (e9 : ∀ i, i < 8 → us' i = us i) (e0 : ∀ p i, p < 8 → i < 8 → M' p i = M p i) :
    FRl s kd' tg' oc' ln' pn tm ft xe th ms fl lf row' M' sz' us' lu pu re ct' cn' nx B := by
  obtain ⟨hP, hI, ⟨hC, hL, hQ, hR, hU⟩, v⟩ := h
  have hq := hQ.1
  refine ⟨⟨fun a ha => ?_, hP.2⟩, hI, ⟨⟨fun p hp => ?_, hC.2⟩, hL, hQ, ⟨hR.1, fun i hi => ?_⟩, hU⟩, v⟩
  · rw [e1 a ha, e2 a ha, e3 a ha, e4 a ha, e5 a ha, e6 a ha]
    exact hP.1 a ha
  · have h8 := (hL p hp).1
    obtain ⟨c1, c2, c3⟩ := hC.1 p hp
    rw [e8 p hp, e9 p hp]
    exact ⟨c1, fun i hi => by rw [e0 p i hp (by omega)]; exact c2 i hi, c3⟩
  · rw [e7 i (by omega)]
    exact hR.2 i hi
def RZ (s : Nat → Int32) (z : zMT) (B : Nat) : Prop := FRl s z.2.2.2.2.2.2.2.2.2.2.2.2.2.2.2.2.1 z.2.2.2.2.2.2.2.2.2.2.2.2.2.2.2.2.2.1 z.2.2.2.2.2.2.2.2.2.2.2.2.2.2.2.2.2.2.1 z.2.2.2.2.2.2.2.2.2.2.2.2.2.2.2.2.2.2.2.1 z.1 z.2.1 z.2.2.1 z.2.2.2.1 z.2.2.2.2.1 z.2.2.2.2.2.1 z.2.2.2.2.2.2.1 z.2.2.2.2.2.2.2.1 z.2.2.2.2.2.2.2.2.1 z.2.2.2.2.2.2.2.2.2.1 z.2.2.2.2.2.2.2.2.2.2.1 z.2.2.2.2.2.2.2.2.2.2.2.1 z.2.2.2.2.2.2.2.2.2.2.2.2.1 z.2.2.2.2.2.2.2.2.2.2.2.2.2.1 z.2.2.2.2.2.2.2.2.2.2.2.2.2.2.1 z.2.2.2.2.2.2.2.2.2.2.2.2.2.2.2.2.2.2.2.2.1 z.2.2.2.2.2.2.2.2.2.2.2.2.2.2.2.2.2.2.2.2.2.1 z.2.2.2.2.2.2.2.2.2.2.2.2.2.2.2.2.2.2.2.2.2.2 B ∧ z.2.2.2.2.2.2.2.2.2.2.2.2.2.2.2.1 = s 388
theorem cpb48 : cpb 0 0 48 48 48 = true := by
  unfold cpb
  rw [cl0, show Int32.toNatClampNeg 48 = 48 from clN (n := 48) (by omega)]
  exact decide_eq_true ⟨by decide, by decide, by rw [show (48 : Int32).toInt = 48 from nI_toInt (n := 48) (by omega)]; omega, by omega, by omega⟩
theorem cpb8 : cpb 0 0 8 8 8 = true := by
  unfold cpb
  rw [cl0, show Int32.toNatClampNeg 8 = 8 from clN (n := 8) (by omega)]
  exact decide_eq_true ⟨by decide, by decide, by rw [show (8 : Int32).toInt = 8 from nI_toInt (n := 8) (by omega)]; omega, by omega, by omega⟩
theorem cl48 : Int32.toNatClampNeg 48 = 48 := clN (n := 48) (by omega)
theorem cl8 : Int32.toNatClampNeg 8 = 8 := clN (n := 8) (by omega)
theorem cpy_lt {f g : Nat → Int32} {n k : Nat} (h : k < n) : va_cpy f g 0 0 n k = f k := by
  unfold va_cpy
  rw [if_pos (by omega), Nat.sub_zero, Nat.zero_add]
theorem copy_loop {M2 : Nat → Nat → Int32} {sz2 us2 : Nat → Int32} {lu2 pu2 re2 dr2 : Int32} {sz us : Nat → Int32} {lu pu re dr : Int32} : ∀ k i n (M : Nat → Nat → Int32), i + k = 8 → k < n → (∀ p j, p < i → j < 8 → M p j = M2 p j) → ∃ M', m_X0_copyFrom_2 M2 sz2 us2 lu2 pu2 re2 dr2 n M sz us lu pu re dr (nI i) = some (M', va_cpy sz2 sz 0 0 8, va_cpy us2 us 0 0 8, lu2, pu2, re2, dr2) ∧ ∀ p j, p < 8 → j < 8 → M' p j = M2 p j := by
  intro k
  induction k with
  | zero =>
    intro i n M h1 h2 h
    obtain ⟨n, rfl⟩ : ∃ z, n = z + 1 := ⟨n - 1, by omega⟩
    refine ⟨M, ?_, fun p j hp hj => h p j (by omega) hj⟩
    rw [m_X0_copyFrom_2, if_pos (show (8 : Int32) ≤ nI i from leN_t (a := 8) (by omega) (by omega)), cpb8, gd_s, cl0, cl8, bdE, gd_s, bdE]
  | succ k ih =>
    intro i n M h1 h2 h
    obtain ⟨n, rfl⟩ : ∃ z, n = z + 1 := ⟨n - 1, by omega⟩
    obtain ⟨M', a1, a2⟩ := ih (i + 1) n (va_up M i (va_cpy (M2 i) (M i) 0 0 8)) (by omega) (by omega) (by
      intro p j hp hj
      by_cases e : p = i
      · rw [e, va_up_self, cpy_lt hj]
      · rw [va_up_ne _ _ e]
        exact h p j (by omega) hj)
    refine ⟨M', ?_, a2⟩
    rw [m_X0_copyFrom_2, if_neg (show ¬ (8 : Int32) ≤ nI i from leN_f (a := 8) (by omega) (by omega)), inbN (by omega) (by omega), gd_s, gd_s, cpb8, gd_s, cl0, cl8, clN (by omega), bdE, bdE, nI1]
    exact a1
theorem copy_ok (z w : zMT) : ∃ z' : zMT, m_X3_copyFrom z.1 z.2.1 z.2.2.1 z.2.2.2.1 z.2.2.2.2.1 z.2.2.2.2.2.1 z.2.2.2.2.2.2.1 z.2.2.2.2.2.2.2.1 z.2.2.2.2.2.2.2.2.1 z.2.2.2.2.2.2.2.2.2.1 z.2.2.2.2.2.2.2.2.2.2.1 z.2.2.2.2.2.2.2.2.2.2.2.1 z.2.2.2.2.2.2.2.2.2.2.2.2.1 z.2.2.2.2.2.2.2.2.2.2.2.2.2.1 z.2.2.2.2.2.2.2.2.2.2.2.2.2.2.1 z.2.2.2.2.2.2.2.2.2.2.2.2.2.2.2.1 z.2.2.2.2.2.2.2.2.2.2.2.2.2.2.2.2.1 z.2.2.2.2.2.2.2.2.2.2.2.2.2.2.2.2.2.1 z.2.2.2.2.2.2.2.2.2.2.2.2.2.2.2.2.2.2.1 z.2.2.2.2.2.2.2.2.2.2.2.2.2.2.2.2.2.2.2.1 z.2.2.2.2.2.2.2.2.2.2.2.2.2.2.2.2.2.2.2.2.1 z.2.2.2.2.2.2.2.2.2.2.2.2.2.2.2.2.2.2.2.2.2.1 z.2.2.2.2.2.2.2.2.2.2.2.2.2.2.2.2.2.2.2.2.2.2 w.1 w.2.1 w.2.2.1 w.2.2.2.1 w.2.2.2.2.1 w.2.2.2.2.2.1 w.2.2.2.2.2.2.1 w.2.2.2.2.2.2.2.1 w.2.2.2.2.2.2.2.2.1 w.2.2.2.2.2.2.2.2.2.1 w.2.2.2.2.2.2.2.2.2.2.1 w.2.2.2.2.2.2.2.2.2.2.2.1 w.2.2.2.2.2.2.2.2.2.2.2.2.1 w.2.2.2.2.2.2.2.2.2.2.2.2.2.1 w.2.2.2.2.2.2.2.2.2.2.2.2.2.2.1 w.2.2.2.2.2.2.2.2.2.2.2.2.2.2.2.1 w.2.2.2.2.2.2.2.2.2.2.2.2.2.2.2.2.1 w.2.2.2.2.2.2.2.2.2.2.2.2.2.2.2.2.2.1 w.2.2.2.2.2.2.2.2.2.2.2.2.2.2.2.2.2.2.1 w.2.2.2.2.2.2.2.2.2.2.2.2.2.2.2.2.2.2.2.1 w.2.2.2.2.2.2.2.2.2.2.2.2.2.2.2.2.2.2.2.2.1 w.2.2.2.2.2.2.2.2.2.2.2.2.2.2.2.2.2.2.2.2.2.1 w.2.2.2.2.2.2.2.2.2.2.2.2.2.2.2.2.2.2.2.2.2.2 = some z' ∧ ∀ s B, RZ s z B → RZ s z' B := by
  obtain ⟨pn, tm, ft, xe, th, ms, fl, lf, row, M, sz, us, lu, pu, re, dr, kd, tg, oc, ln, ct, cn, nx⟩ := z
  obtain ⟨pn2, tm2, ft2, xe2, th2, ms2, fl2, lf2, row2, M2, sz2, us2, lu2, pu2, re2, dr2, kd2, tg2, oc2, ln2, ct2, cn2, nx2⟩ := w
  obtain ⟨M', a1, a2⟩ := copy_loop (M2 := M) (sz2 := sz) (us2 := us) (lu2 := lu) (pu2 := pu) (re2 := re) (dr2 := dr) (sz := sz2) (us := us2) (lu := lu2) (pu := pu2) (re := re2) (dr := dr2) 8 0 4000 M2 (by omega) (by omega) (fun p j hp => by omega)
  refine ⟨(pn, tm, ft, xe, th, ms, fl, lf, va_cpy row row2 0 0 8, M', va_cpy sz sz2 0 0 8, va_cpy us us2 0 0 8, lu, pu, re, dr, va_cpy kd kd2 0 0 48, va_cpy tg tg2 0 0 48, va_cpy oc oc2 0 0 48, va_cpy ln ln2 0 0 48, va_cpy ct ct2 0 0 48, va_cpy cn cn2 0 0 48, nx), ?_, fun s B h => ⟨FRl_ext h.1 (fun a ha => cpy_lt ha) (fun a ha => cpy_lt ha) (fun a ha => cpy_lt ha) (fun a ha => cpy_lt ha) (fun a ha => cpy_lt ha) (fun a ha => cpy_lt ha) (fun a ha => cpy_lt ha) (fun a ha => cpy_lt ha) (fun a ha => cpy_lt ha) a2, h.2⟩⟩
  have a1' : m_X0_copyFrom M sz us lu pu re dr M2 sz2 us2 lu2 pu2 re2 dr2 = some (M', va_cpy sz sz2 0 0 8, va_cpy us us2 0 0 8, lu, pu, re, dr) := by
    unfold m_X0_copyFrom
    exact a1
  have b1 : m_X4_copyFrom kd tg oc ln ct cn nx kd2 tg2 oc2 ln2 ct2 cn2 nx2 = some (va_cpy kd kd2 0 0 48, va_cpy tg tg2 0 0 48, va_cpy oc oc2 0 0 48, va_cpy ln ln2 0 0 48, va_cpy ct ct2 0 0 48, va_cpy cn cn2 0 0 48, nx) := by
    unfold m_X4_copyFrom
    rw [cpb48, cl0, cl48, gd_s, bdE, gd_s, bdE, gd_s, bdE, gd_s, bdE, gd_s, bdE, gd_s, bdE]
  unfold m_X3_copyFrom
  simp only [b1, bn_s, a1', cpb8, gd_s, cl0, cl8, bdE]
