-- ===== 69: one instruction executed, both sides =====
theorem nc_in {c : Nat} (h : c ≤ 3) (t : Bool) : ∃ c', c' ≤ 3 ∧ nc t (nI c) = nI c' := by
  have : c = 0 ∨ c = 1 ∨ c = 2 ∨ c = 3 := by omega
  rcases this with h | h | h | h <;> subst h <;> cases t
  · exact ⟨0, by omega, by decide⟩
  · exact ⟨1, by omega, by decide⟩
  · exact ⟨0, by omega, by decide⟩
  · exact ⟨2, by omega, by decide⟩
  · exact ⟨1, by omega, by decide⟩
  · exact ⟨3, by omega, by decide⟩
  · exact ⟨2, by omega, by decide⟩
  · exact ⟨3, by omega, by decide⟩
theorem add0N (x : Int32) : x + nI 0 = x := Int32.add_zero x
def nct (s ct : Nat → Int32) (a : Nat) : Nat → Int32 := if s (6 * a) = 2 then upd ct a (s (6 * a + 4) + 1) else ct
def ncn (s cn : Nat → Int32) (a : Nat) : Nat → Int32 := if s (6 * a) = 2 then upd cn a (nc (tk s a) (s (6 * a + 5))) else cn
def sb (s : Nat → Int32) (a : Nat) (p : Bool) : Nat → Int32 := if s (6 * a) = 2 then eb s a p else s
theorem sb_f {s : Nat → Int32} {a : Nat} {p : Bool} {j : Nat} (h1 : j ≠ 6 * a + 4) (h2 : j ≠ 6 * a + 5) (h3 : j ≠ 383) (h4 : j ≠ 379) : sb s a p j = s j := by
  unfold sb
  split
  · unfold eb
    rw [upd_n h4, upd_n h3, upd_n h1, upd_n h2]
  · rfl
theorem sb_c {s : Nat → Int32} {a : Nat} {p : Bool} (ha : a < 48) (hp : s (6 * a) ≠ 2 → p = false) : sb s a p 379 = s 379 + nI (3 * dm (tk s a) p) ∧ sb s a p 383 = s 383 + nI (dm (tk s a) p) := by
  unfold sb
  by_cases h : s (6 * a) = 2
  · rw [if_pos h]
    unfold eb
    exact ⟨upd_s, by rw [upd_n (by omega), upd_s]⟩
  · have e1 : tk s a = false := by simp [tk, h]
    have e2 : dm (tk s a) p = 0 := by rw [e1, hp h]; rfl
    rw [if_neg h, e2]
    exact ⟨(add0N _).symm, (add0N _).symm⟩
theorem eb_4 {s : Nat → Int32} {a b : Nat} {p : Bool} (hb : b < 48) : eb s a p (6 * b + 4) = upd (fun b => s (6 * b + 4)) a (s (6 * a + 4) + 1) b := by
  unfold eb
  rw [upd_n (f := upd (upd (upd s _ _) _ _) _ _) (by omega), upd_n (f := upd (upd s _ _) _ _) (by omega)]
  by_cases h : b = a
  · subst h
    rw [upd_s, upd_s]
  · rw [upd_n h, upd_n (by omega), upd_n (by omega)]
theorem eb_5 {s : Nat → Int32} {a b : Nat} {p : Bool} (hb : b < 48) : eb s a p (6 * b + 5) = upd (fun b => s (6 * b + 5)) a (nc (tk s a) (s (6 * a + 5))) b := by
  unfold eb
  rw [upd_n (f := upd (upd (upd s _ _) _ _) _ _) (by omega), upd_n (f := upd (upd s _ _) _ _) (by omega), upd_n (f := upd s _ _) (by omega)]
  by_cases h : b = a
  · subst h
    rw [upd_s, upd_s]
  · rw [upd_n h, upd_n (by omega)]
theorem sb_p {s kd tg oc ln ct cn : Nat → Int32} {nx : Int32} (hP : PR s kd tg oc ln ct cn nx) (hI : PI s) {a : Nat} (ha : a < 48) (p : Bool) {t : Nat → Int32} {q : Nat} (hq : q < 48) (ht : ∀ j, j < 288 → t j = sb s a p j) (ht2 : t 288 = nI q) : PR t kd tg oc ln (nct s ct a) (ncn s cn a) (nI q) ∧ PI t ∧ ∀ b, b < 48 → t (6 * b) = s (6 * b) := by
  have e0 : ∀ b, b < 48 → t (6 * b) = s (6 * b) := fun b hb => (ht _ (by omega)).trans (sb_f (by omega) (by omega) (by omega) (by omega))
  have e1 : ∀ b, b < 48 → t (6 * b + 1) = s (6 * b + 1) := fun b hb => (ht _ (by omega)).trans (sb_f (by omega) (by omega) (by omega) (by omega))
  have e2 : ∀ b, b < 48 → t (6 * b + 2) = s (6 * b + 2) := fun b hb => (ht _ (by omega)).trans (sb_f (by omega) (by omega) (by omega) (by omega))
  have e3 : ∀ b, b < 48 → t (6 * b + 3) = s (6 * b + 3) := fun b hb => (ht _ (by omega)).trans (sb_f (by omega) (by omega) (by omega) (by omega))
  have e4 : ∀ b, b < 48 → nct s ct a b = t (6 * b + 4) := by
    intro b hb
    rw [ht _ (by omega)]
    unfold nct sb
    by_cases h : s (6 * a) = 2
    · rw [if_pos h, if_pos h]
      rw [eb_4 hb]
      by_cases hx : b = a
      · rw [hx, upd_s, upd_s]
      · rw [upd_n hx, upd_n hx]
        exact (hP.1 b hb).2.2.2.2.1
    · rw [if_neg h, if_neg h]
      exact (hP.1 b hb).2.2.2.2.1
  have e5 : ∀ b, b < 48 → ncn s cn a b = t (6 * b + 5) := by
    intro b hb
    rw [ht _ (by omega)]
    unfold ncn sb
    by_cases h : s (6 * a) = 2
    · rw [if_pos h, if_pos h]
      rw [eb_5 hb]
      by_cases hx : b = a
      · rw [hx, upd_s, upd_s]
      · rw [upd_n hx, upd_n hx]
        exact (hP.1 b hb).2.2.2.2.2
    · rw [if_neg h, if_neg h]
      exact (hP.1 b hb).2.2.2.2.2
  have e6 : ∀ b, b < 48 → ∃ c, c ≤ 3 ∧ t (6 * b + 5) = nI c := by
    intro b hb
    obtain ⟨c, c1, c2⟩ := (hI.1 b hb).2.2.2
    rw [ht _ (by omega)]
    unfold sb
    by_cases h : s (6 * a) = 2
    · rw [if_pos h]
      rw [eb_5 hb]
      by_cases hx : b = a
      · rw [hx, upd_s, ← hx, c2]
        exact nc_in c1 _
      · rw [upd_n hx]
        exact ⟨c, c1, c2⟩
    · rw [if_neg h]
      exact ⟨c, c1, c2⟩
  refine ⟨⟨fun b hb => ?_, ht2.symm⟩, ⟨fun b hb => ?_, q, hq, ht2⟩, e0⟩
  · obtain ⟨p1, p2, p3, p4, -, -⟩ := hP.1 b hb
    rw [e0 b hb, e1 b hb, e2 b hb, e3 b hb]
    exact ⟨p1, p2, p3, p4, e4 b hb, e5 b hb⟩
  · obtain ⟨p1, p2, p3, -⟩ := hI.1 b hb
    rw [e0 b hb, e1 b hb, e3 b hb]
    exact ⟨p1, p2, p3, e6 b hb⟩
theorem exec_sim {s kd tg oc ln ct cn : Nat → Int32} {nx : Int32} {pn : Int32} {row : Nat → Int32} {M : Nat → Nat → Int32} {sz us : Nat → Int32} {lu pu re : Int32} {B : Nat} (hP : PR s kd tg oc ln ct cn nx) (hI : PI s) (hM : MR s pn row M sz us lu pu re B) (hB : B + 1 < 2147483648) {a : Nat} (ha : a < 48) (p : Bool) (hp : s (6 * a) ≠ 2 → p = false) (w : Int32) :
    ∃ t q pn' row' M' sz' us' lu' pu' re', q < 48 ∧ sc s a (tk s a) = nI q ∧ m_X7_executes w s (nI a) (b2i p) = some t ∧ m_X3_collect kd pn row M sz us lu pu re (nI a) = some (pn', row', M', sz', us', lu', pu', re') ∧ PR t kd tg oc ln (nct s ct a) (ncn s cn a) (nI q) ∧ PI t ∧ MR t pn' row' M' sz' us' lu' pu' re' (B + 1) ∧ (∀ b, b < 48 → t (6 * b) = s (6 * b)) ∧ t 379 = s 379 + nI (3 * dm (tk s a) p) ∧ t 380 = s 380 ∧ t 381 = s 381 + 1 ∧ t 382 = s 382 ∧ t 383 = s 383 + nI (dm (tk s a) p) ∧ t 384 = s 384 + wv w 1 ∧ t 385 = s 385 ∧ t 388 = s 388 := by
  obtain ⟨q, hq, hq2⟩ := sc_in hI ha (tk s a)
  obtain ⟨a1, a2, a3, a4, a5⟩ := MR_congr (t := sb s a p) (fun j h1 h2 => sb_f (by omega) (by omega) (by omega) (by omega)) (sb_f (by omega) (by omega) (by omega) (by omega)) (sb_f (by omega) (by omega) (by omega) (by omega)) hM
  obtain ⟨y, pn', row', M', sz', us', lu', pu', re', y1, y2, y3, y4, y5, y6, y7, y8⟩ := collect_sim (s := sb s a p) (kd := kd) (fun b hb => by rw [sb_f (by omega) (by omega) (by omega) (by omega)]; exact (hP.1 b hb).1) a1 a2 a3 a4 a5 hB ha
  have hex : m_X7_executes w s (nI a) (b2i p) = m_X7_executes_158 w (nI a) (b2i p) (sb s a p) (sc s a (tk s a)) := by
    unfold sb
    by_cases h : s (6 * a) = 2
    · rw [if_pos h]
      exact r_exec2 hI ha p h w
    · rw [if_neg h]
      exact r_exec1 hI ha p h w
  obtain ⟨T, hT⟩ : ∃ T, T = upd (upd (upd y 288 (nI q)) 381 (y 381 + 1)) 384 (y 384 + wv w 1) := ⟨_, rfl⟩
  have Tf : ∀ j, j ≠ 288 → j ≠ 381 → j ≠ 384 → T j = y j := fun j h1 h2 h3 => by rw [hT, upd_n h3, upd_n h2, upd_n h1]
  have T288 : T 288 = nI q := by rw [hT, upd_n (by omega), upd_n (by omega), upd_s]
  have T381 : T 381 = y 381 + 1 := by rw [hT, upd_n (by omega), upd_s]
  have T384 : T 384 = y 384 + wv w 1 := by rw [hT, upd_s]
  obtain ⟨f1, f2⟩ := y8
  obtain ⟨g1, g2⟩ := sb_c (p := p) ha hp
  obtain ⟨r1, r2, r3⟩ := sb_p hP hI ha p (t := T) hq (fun j hj => by rw [Tf j (by omega) (by omega) (by omega), f1 j (by omega)]) T288
  refine ⟨T, q, pn', row', M', sz', us', lu', pu', re', hq, hq2, by rw [hex, r_158 y1, hq2, hT], y2, r1, r2, MR_congr (fun j h1 h2 => Tf j (by omega) (by omega) (by omega)) (Tf _ (by omega) (by omega) (by omega)) (Tf _ (by omega) (by omega) (by omega)) ⟨y3, y4, y5, y6, y7⟩, r3, ?_, ?_, ?_, ?_, ?_, ?_, ?_, ?_⟩
  · rw [Tf _ (by omega) (by omega) (by omega), f2 _ (by omega) (by omega) (by omega), g1]
  · rw [Tf _ (by omega) (by omega) (by omega), f2 _ (by omega) (by omega) (by omega), sb_f (by omega) (by omega) (by omega) (by omega)]
  · rw [T381, f2 _ (by omega) (by omega) (by omega), sb_f (by omega) (by omega) (by omega) (by omega)]
  · rw [Tf _ (by omega) (by omega) (by omega), f2 _ (by omega) (by omega) (by omega), sb_f (by omega) (by omega) (by omega) (by omega)]
  · rw [Tf _ (by omega) (by omega) (by omega), f2 _ (by omega) (by omega) (by omega), g2]
  · rw [T384, f2 _ (by omega) (by omega) (by omega), sb_f (by omega) (by omega) (by omega) (by omega)]
  · rw [Tf _ (by omega) (by omega) (by omega), f2 _ (by omega) (by omega) (by omega), sb_f (by omega) (by omega) (by omega) (by omega)]
  · rw [Tf _ (by omega) (by omega) (by omega), f2 _ (by omega) (by omega) (by omega), sb_f (by omega) (by omega) (by omega) (by omega)]
