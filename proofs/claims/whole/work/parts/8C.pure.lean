-- ===== 8C: the calls about texts, and undo =====
theorem i32_lt4 {x : Int32} : ((4 : Int32) ≤ x) = ¬ (x ≤ 3) := by
  rw [i32_le, i32_le, show (4 : Int32).toInt = 4 from rfl, show (3 : Int32).toInt = 3 from rfl]
  exact propext ⟨fun h => by omega, fun h => by omega⟩
theorem i32_lt2 {x : Int32} : (x < 2) = (x ≤ 1) := by
  rw [i32_lt, i32_le, show (2 : Int32).toInt = 2 from rfl, show (1 : Int32).toInt = 1 from rfl]
  exact propext ⟨fun h => by omega, fun h => by omega⟩
theorem i32_lt100 {x : Int32} : (x < 100) = (x ≤ 99) := by
  rw [i32_lt, i32_le, show (100 : Int32).toInt = 100 from rfl, show (99 : Int32).toInt = 99 from rfl]
  exact propext ⟨fun h => by omega, fun h => by omega⟩
theorem i32_lt1 {x : Int32} : (x < 1) = ¬ (1 ≤ x) := i32_nlt
theorem i32_lt0 {x : Int32} : (x < 0) = ¬ (0 ≤ x) := i32_nlt
theorem r_in_t {x lo hi : Int32} (h1 : lo ≤ x) (h2 : x ≤ hi) : m_X7_in x lo hi = some 1 := by
  rw [r_in, decide_eq_true h1, decide_eq_true h2]
  rfl
theorem r_in_f {x lo hi : Int32} (h : ¬ (lo ≤ x ∧ x ≤ hi)) : m_X7_in x lo hi = some 0 := by
  rw [r_in]
  by_cases h1 : lo ≤ x
  · rw [decide_eq_false (fun g => h ⟨h1, g⟩), Bool.and_false]
    rfl
  · rw [decide_eq_false h1, Bool.false_and]
    rfl
theorem r_isA_t {x : Int32} (h : okA x = true) : m_X7_isAddress x = some 1 := by
  rw [r_isA, h]
  rfl
theorem r_isA_f {x : Int32} (h : ¬ okA x = true) : m_X7_isAddress x = some 0 := by
  rw [r_isA, Bool.eq_false_iff.mpr h]
  rfl
theorem k_reqA_t {x : Int32} (h : okA x = true) : m_X6_requireAddress x = some 0 := by rw [k_reqA, if_pos h]
theorem k_reqA_f {x : Int32} (h : ¬ okA x = true) : m_X6_requireAddress x = some 1 := by rw [k_reqA, if_neg h]
theorem r_holds0 {tw : Int32} : m_X7_holds tw 0 = some (1, 0) := by rw [r_holds, if_pos rfl]
theorem r_holds1 {tw : Int32} : m_X7_holds tw 1 = some (0, 1) := by rw [r_holds, if_neg (by decide)]
theorem r_holds2 {tw : Int32} : m_X7_holds tw 2 = some (0, 2) := by rw [r_holds, if_neg (by decide)]
theorem rng {x : Int32} {lo hi : Nat} (hl : lo < 2147483648) (hh : hi < 2147483648) (h1 : nI lo ≤ x) (h2 : x ≤ nI hi) : ∃ c, lo ≤ c ∧ c ≤ hi ∧ x = nI c := by
  rw [i32_le, nI_toInt hl] at h1
  rw [i32_le, nI_toInt hh] at h2
  refine ⟨x.toInt.toNat, by omega, by omega, Int32.toInt_inj.mp ?_⟩
  rw [nI_toInt (by omega)]
  omega
theorem O_ok {O : Nat → Int64} {b : Int32} : lg_cmp (vp_updL O (Int32.toNatClampNeg 0) (Int32.toInt64 b) (Int32.toNatClampNeg 0)) (Int32.toInt64 b) = 0 := (lg_cmp_eq _ _).mpr (by simp [vp_updL])
theorem inb0_1 : inb 0 1 = true := inbN (n := 0) (by omega) (by omega)
/-- the text, both sides -/
def TXR (X T : Nat → Int32) (xn sn : Int32) : Prop := ∃ n, TX T n ∧ xn = nI n ∧ sn = nI n ∧ ∀ i, i < n → X i = T i
theorem append_case {X T : Nat → Int32} {xn sn : Int32} (h : TXR X T xn sn) (O : Nat → Int64) (tw x1 : Int32) : ∃ k O' b X' T' xn' sn', m_L_appendText O X xn x1 = some (k, O', X', xn') ∧ m_X7_appendText tw T sn x1 = some (b, k, T', sn') ∧ (k = 0 → lg_cmp (O' (Int32.toNatClampNeg 0)) (Int32.toInt64 b) = 0) ∧ TXR X' T' xn' sn' := by
  have h0 := h
  obtain ⟨n, hT, rfl, rfl, hX⟩ := h
  have h80 := hT.1
  have e1 : (x1 < 32) = ¬ 32 ≤ x1 := i32_nlt
  by_cases c1 : 32 ≤ x1
  · by_cases c2 : x1 ≤ 126
    · obtain ⟨c, g1, g2, g3⟩ := rng (lo := 32) (hi := 126) (by omega) (by omega) c1 c2
      have e2 : (nI n < 80) = (n < 80) := ltN (b := 80) (by omega) (by omega)
      have e3 : (nI n = 80) = (n = 80) := eqN (b := 80) (by omega) (by omega)
      by_cases c3 : n = 80
      · have e4 : nI n = 80 := by rw [e3]; exact c3
        have k1 : m_L_appendText O X (nI n) x1 = some (2, O, X, nI n) := by
          unfold m_L_appendText m_X6_appendText m_X5_add
          rw [if_neg (show ¬ x1 < 32 by rw [e1]; exact not_not_intro c1), if_pos c2, if_neg (show ¬ nI n < 80 by rw [e2]; omega), bn_s]
          dsimp only
          rw [if_pos rfl, bn_s]
          dsimp only
          rw [if_neg (by decide), if_neg (by decide), if_pos rfl]
        have r1 : m_X7_appendText tw T (nI n) x1 = some (0, 2, T, nI n) := by
          unfold m_X7_appendText m_X7_appendText_30
          rw [r_in_t c1 c2, bn_s, if_neg (by decide), if_pos e4, r_holds2, bn_s, if_pos rfl]
        exact ⟨_, _, _, _, _, _, _, k1, r1, fun g => by simp at g, h0⟩
      · have e4 : ¬ nI n = 80 := by rw [e3]; exact c3
        have k1 : m_L_appendText O X (nI n) x1 = some (0, vp_updL O (Int32.toNatClampNeg 0) (Int32.toInt64 (nI (n + 1))), upd X n x1, nI (n + 1)) := by
          unfold m_L_appendText m_X6_appendText m_X5_add
          rw [if_neg (show ¬ x1 < 32 by rw [e1]; exact not_not_intro c1), if_pos c2, if_pos (show nI n < 80 by rw [e2]; omega), inbN (by omega) (by omega), gd_s, bdE, bdE, nI1, clN (by omega), bn_s]
          dsimp only
          rw [if_neg (by decide), bn_s]
          dsimp only
          rw [if_pos rfl, inb0_1, gd_s, bdE]
        have r1 : m_X7_appendText tw T (nI n) x1 = some (nI (n + 1), 0, upd T n x1, nI (n + 1)) := by
          unfold m_X7_appendText m_X7_appendText_30
          rw [r_in_t c1 c2, bn_s, if_neg (by decide), if_neg e4, r_holds0, bn_s, if_neg (by decide), inbN (by omega) (by omega), gd_s, bdE, bdE, nI1, clN (by omega)]
        refine ⟨_, _, _, _, _, _, _, k1, r1, fun g => O_ok, n + 1, ⟨by omega, fun i hi => ?_⟩, rfl, rfl, fun i hi => ?_⟩
        · by_cases e : i = n
          · rw [e, upd_s]
            exact ⟨c, g1, g2, g3⟩
          · rw [upd_n e]
            exact hT.2 i (by omega)
        · by_cases e : i = n
          · rw [e, upd_s, upd_s]
          · rw [upd_n e, upd_n e]
            exact hX i (by omega)
    · have k1 : m_L_appendText O X (nI n) x1 = some (1, O, X, nI n) := by
        unfold m_L_appendText m_X6_appendText m_X6_appendText_12
        simp [e1, c1, c2, bn_s]
      have r1 : m_X7_appendText tw T (nI n) x1 = some (0, 1, T, nI n) := by
        unfold m_X7_appendText m_X7_appendText_30
        rw [r_in, bn_s]
        simp [r_holds, bn_s, c1, c2, b2i]
      exact ⟨_, _, _, _, _, _, _, k1, r1, fun g => by simp at g, h0⟩
  · have k1 : m_L_appendText O X (nI n) x1 = some (1, O, X, nI n) := by
      unfold m_L_appendText m_X6_appendText m_X6_appendText_12
      simp [e1, c1, bn_s]
    have r1 : m_X7_appendText tw T (nI n) x1 = some (0, 1, T, nI n) := by
      unfold m_X7_appendText m_X7_appendText_30
      rw [r_in, bn_s]
      simp [r_holds, bn_s, c1, b2i]
    exact ⟨_, _, _, _, _, _, _, k1, r1, fun g => by simp at g, h0⟩
theorem TXR_clear {X T : Nat → Int32} : TXR X T 0 0 := ⟨0, ⟨by omega, fun i hi => by omega⟩, rfl, rfl, fun i hi => by omega⟩
theorem error_case {X T : Nat → Int32} {xn sn : Int32} (h : TXR X T xn sn) (P o a v c : Int32) (tw : Int32) (s f F : Nat → Int32) (m w sp wr eb : Int32) : ∃ b P' o' a' v' c' sp' wr' eb', m_X6_errorPosition X xn P o a v c = some (b, P', o', a', v', c') ∧ m_X7_errorPosition T sn tw s f F m w sp wr eb = some (b, 0, s, f, F, m, w, sp', wr', eb') := by
  obtain ⟨n, hT, rfl, rfl, hX⟩ := h
  obtain ⟨P', o', a', v', c', e1⟩ := k_err hT hX P o a v c
  obtain ⟨sp', e2, e3⟩ := r_rd0 hT s f F m w sp wr eb
  have k1 : m_X6_errorPosition X (nI n) P o a v c = some (ev T n, P', o', a', v', c') := by
    unfold m_X6_errorPosition
    rw [e1, bn_s]
  by_cases d : ev T n = -1
  · rw [if_pos d] at e2
    have r1 : m_X7_errorPosition T (nI n) tw s f F m w sp wr eb = some (ev T n, 0, s, f, F, m, w, sp', 0, 0) := by
      unfold m_X7_errorPosition m_X7_errorPosition_25
      rw [e2, bn_s]
      dsimp only
      rw [if_pos rfl, d]
    exact ⟨_, _, _, _, _, _, _, _, _, k1, r1⟩
  · rw [if_neg d] at e2
    have r1 : m_X7_errorPosition T (nI n) tw s f F m w sp wr eb = some (ev T n, 0, s, f, F, m, w, sp', 1, 0) := by
      unfold m_X7_errorPosition m_X7_errorPosition_25
      rw [e2, bn_s]
      dsimp only
      rw [if_neg (by first | decide | (dsimp only; decide)), e3 d]
    exact ⟨_, _, _, _, _, _, _, _, _, k1, r1⟩
theorem ev_none {T : Nat → Int32} {n : Nat} (h : TX T n) (d : ev T n = -1) : rd T n 80 0 = none := by
  have h80 := h.1
  unfold ev at d
  cases hr : rd T n 80 0 with
  | none => rfl
  | some e =>
    have hel := rd_lt 80 0 e (Nat.zero_le _) hr
    rw [hr] at d
    exact absurd d (nIm1 (by omega))
theorem text_case {X T : Nat → Int32} {xn sn : Int32} (h : TXR X T xn sn) {s : Nat → Int32} {z : zMT} {B : Nat} (hz : RZ s z B) {sv : Nat → Int32} {mn : Int32} {H : Nat → zMT} {od si : Int32} (hH : HR sv mn H od si B) (hB : B + 71280 < 2147483648) (O : Nat → Int64) (P o a v c : Int32) (FA FP : Nat → Int32) (Fs Fp Fe Fm : Int32) (tw : Int32) (f F : Nat → Int32) (m w sp wr eb : Int32) :
    ∃ k O' b P' o' a' v' c' z' FA' FP' Fs' Fp' Fe' Fm' H' od' si' t sv' mn' f' F' m' w' sp' wr' eb', m_L_runText X xn O P o a v c z.1 z.2.1 z.2.2.1 z.2.2.2.1 z.2.2.2.2.1 z.2.2.2.2.2.1 z.2.2.2.2.2.2.1 z.2.2.2.2.2.2.2.1 z.2.2.2.2.2.2.2.2.1 z.2.2.2.2.2.2.2.2.2.1 z.2.2.2.2.2.2.2.2.2.2.1 z.2.2.2.2.2.2.2.2.2.2.2.1 z.2.2.2.2.2.2.2.2.2.2.2.2.1 z.2.2.2.2.2.2.2.2.2.2.2.2.2.1 z.2.2.2.2.2.2.2.2.2.2.2.2.2.2.1 z.2.2.2.2.2.2.2.2.2.2.2.2.2.2.2.1 z.2.2.2.2.2.2.2.2.2.2.2.2.2.2.2.2.1 z.2.2.2.2.2.2.2.2.2.2.2.2.2.2.2.2.2.1 z.2.2.2.2.2.2.2.2.2.2.2.2.2.2.2.2.2.2.1 z.2.2.2.2.2.2.2.2.2.2.2.2.2.2.2.2.2.2.2.1 z.2.2.2.2.2.2.2.2.2.2.2.2.2.2.2.2.2.2.2.2.1 z.2.2.2.2.2.2.2.2.2.2.2.2.2.2.2.2.2.2.2.2.2.1 z.2.2.2.2.2.2.2.2.2.2.2.2.2.2.2.2.2.2.2.2.2.2 FA FP Fs Fp Fe Fm H od si = some (k, O', P', o', a', v', c', z'.1, z'.2.1, z'.2.2.1, z'.2.2.2.1, z'.2.2.2.2.1, z'.2.2.2.2.2.1, z'.2.2.2.2.2.2.1, z'.2.2.2.2.2.2.2.1, z'.2.2.2.2.2.2.2.2.1, z'.2.2.2.2.2.2.2.2.2.1, z'.2.2.2.2.2.2.2.2.2.2.1, z'.2.2.2.2.2.2.2.2.2.2.2.1, z'.2.2.2.2.2.2.2.2.2.2.2.2.1, z'.2.2.2.2.2.2.2.2.2.2.2.2.2.1, z'.2.2.2.2.2.2.2.2.2.2.2.2.2.2.1, z'.2.2.2.2.2.2.2.2.2.2.2.2.2.2.2.1, z'.2.2.2.2.2.2.2.2.2.2.2.2.2.2.2.2.1, z'.2.2.2.2.2.2.2.2.2.2.2.2.2.2.2.2.2.1, z'.2.2.2.2.2.2.2.2.2.2.2.2.2.2.2.2.2.2.1, z'.2.2.2.2.2.2.2.2.2.2.2.2.2.2.2.2.2.2.2.1, z'.2.2.2.2.2.2.2.2.2.2.2.2.2.2.2.2.2.2.2.2.1, z'.2.2.2.2.2.2.2.2.2.2.2.2.2.2.2.2.2.2.2.2.2.1, z'.2.2.2.2.2.2.2.2.2.2.2.2.2.2.2.2.2.2.2.2.2.2, FA', FP', Fs', Fp', Fe', Fm', H', od', si') ∧
    m_X7_runText T sn tw s sv mn f F m w sp wr eb = some (b, k, t, sv', mn', f', F', m', w', sp', wr', eb') ∧ (k = 0 → lg_cmp (O' (Int32.toNatClampNeg 0)) (Int32.toInt64 b) = 0) ∧ RZ t z' (B + 71280) ∧ HR sv' mn' H' od' si' (B + 71280) := by
  obtain ⟨n, hT, rfl, rfl, hX⟩ := h
  have h80 := hT.1
  obtain ⟨P', o', a', v', c', e1⟩ := k_err hT hX P o a v c
  obtain ⟨sp', e2, e3⟩ := r_rd0 hT s f F m w sp wr eb
  by_cases d : ev T n = -1
  · rw [if_pos d] at e2
    rw [d] at e1
    obtain ⟨sv', mn', H', od', si', s1, s2, s3⟩ := save_sim hz hH
    obtain ⟨tot, t, f', F', m', w', sp2, z', P2, o2, a2, v2, c2, FA', FP', Fs', Fp', Fe', Fm', b1, b2, b3⟩ := text_loop hT hX (H := H') (od := od') (si := si') 80 0 0 4000 4000 80 s f F m w 0 z B o' a' v' c' FA FP Fs Fp Fe Fm 0 (Or.inl ⟨rfl, rfl⟩) (by omega) (by omega) (by omega) (by omega) (by omega) (by omega) (ev_none hT d) hz (by omega)
    rw [Int32.zero_add] at b1 b3
    have b1' : m_X7_reads_17 T (nI n) 1 4000 s f F m w 0 0 0 1 = some (t, f', F', m', w', sp2, 0, tot) := b1
    have b3' : m_X6_runText_44 X (nI n) 4000 0 o' a' v' c' z.1 z.2.1 z.2.2.1 z.2.2.2.1 z.2.2.2.2.1 z.2.2.2.2.2.1 z.2.2.2.2.2.2.1 z.2.2.2.2.2.2.2.1 z.2.2.2.2.2.2.2.2.1 z.2.2.2.2.2.2.2.2.2.1 z.2.2.2.2.2.2.2.2.2.2.1 z.2.2.2.2.2.2.2.2.2.2.2.1 z.2.2.2.2.2.2.2.2.2.2.2.2.1 z.2.2.2.2.2.2.2.2.2.2.2.2.2.1 z.2.2.2.2.2.2.2.2.2.2.2.2.2.2.1 z.2.2.2.2.2.2.2.2.2.2.2.2.2.2.2.1 z.2.2.2.2.2.2.2.2.2.2.2.2.2.2.2.2.1 z.2.2.2.2.2.2.2.2.2.2.2.2.2.2.2.2.2.1 z.2.2.2.2.2.2.2.2.2.2.2.2.2.2.2.2.2.2.1 z.2.2.2.2.2.2.2.2.2.2.2.2.2.2.2.2.2.2.2.1 z.2.2.2.2.2.2.2.2.2.2.2.2.2.2.2.2.2.2.2.2.1 z.2.2.2.2.2.2.2.2.2.2.2.2.2.2.2.2.2.2.2.2.2.1 z.2.2.2.2.2.2.2.2.2.2.2.2.2.2.2.2.2.2.2.2.2.2 FA FP Fs Fp Fe Fm H' od' si' 0 80 = some ((0 : Nat), tot, P2, o2, a2, v2, c2, z'.1, z'.2.1, z'.2.2.1, z'.2.2.2.1, z'.2.2.2.2.1, z'.2.2.2.2.2.1, z'.2.2.2.2.2.2.1, z'.2.2.2.2.2.2.2.1, z'.2.2.2.2.2.2.2.2.1, z'.2.2.2.2.2.2.2.2.2.1, z'.2.2.2.2.2.2.2.2.2.2.1, z'.2.2.2.2.2.2.2.2.2.2.2.1, z'.2.2.2.2.2.2.2.2.2.2.2.2.1, z'.2.2.2.2.2.2.2.2.2.2.2.2.2.1, z'.2.2.2.2.2.2.2.2.2.2.2.2.2.2.1, z'.2.2.2.2.2.2.2.2.2.2.2.2.2.2.2.1, z'.2.2.2.2.2.2.2.2.2.2.2.2.2.2.2.2.1, z'.2.2.2.2.2.2.2.2.2.2.2.2.2.2.2.2.2.1, z'.2.2.2.2.2.2.2.2.2.2.2.2.2.2.2.2.2.2.1, z'.2.2.2.2.2.2.2.2.2.2.2.2.2.2.2.2.2.2.2.1, z'.2.2.2.2.2.2.2.2.2.2.2.2.2.2.2.2.2.2.2.2.1, z'.2.2.2.2.2.2.2.2.2.2.2.2.2.2.2.2.2.2.2.2.2.1, z'.2.2.2.2.2.2.2.2.2.2.2.2.2.2.2.2.2.2.2.2.2.2, FA', FP', Fs', Fp', Fe', Fm', H', od', si') := b3
    have k1 : m_L_runText X (nI n) O P o a v c z.1 z.2.1 z.2.2.1 z.2.2.2.1 z.2.2.2.2.1 z.2.2.2.2.2.1 z.2.2.2.2.2.2.1 z.2.2.2.2.2.2.2.1 z.2.2.2.2.2.2.2.2.1 z.2.2.2.2.2.2.2.2.2.1 z.2.2.2.2.2.2.2.2.2.2.1 z.2.2.2.2.2.2.2.2.2.2.2.1 z.2.2.2.2.2.2.2.2.2.2.2.2.1 z.2.2.2.2.2.2.2.2.2.2.2.2.2.1 z.2.2.2.2.2.2.2.2.2.2.2.2.2.2.1 z.2.2.2.2.2.2.2.2.2.2.2.2.2.2.2.1 z.2.2.2.2.2.2.2.2.2.2.2.2.2.2.2.2.1 z.2.2.2.2.2.2.2.2.2.2.2.2.2.2.2.2.2.1 z.2.2.2.2.2.2.2.2.2.2.2.2.2.2.2.2.2.2.1 z.2.2.2.2.2.2.2.2.2.2.2.2.2.2.2.2.2.2.2.1 z.2.2.2.2.2.2.2.2.2.2.2.2.2.2.2.2.2.2.2.2.1 z.2.2.2.2.2.2.2.2.2.2.2.2.2.2.2.2.2.2.2.2.2.1 z.2.2.2.2.2.2.2.2.2.2.2.2.2.2.2.2.2.2.2.2.2.2 FA FP Fs Fp Fe Fm H od si = some (0, vp_updL O (Int32.toNatClampNeg 0) (Int32.toInt64 tot), P2, o2, a2, v2, c2, z'.1, z'.2.1, z'.2.2.1, z'.2.2.2.1, z'.2.2.2.2.1, z'.2.2.2.2.2.1, z'.2.2.2.2.2.2.1, z'.2.2.2.2.2.2.2.1, z'.2.2.2.2.2.2.2.2.1, z'.2.2.2.2.2.2.2.2.2.1, z'.2.2.2.2.2.2.2.2.2.2.1, z'.2.2.2.2.2.2.2.2.2.2.2.1, z'.2.2.2.2.2.2.2.2.2.2.2.2.1, z'.2.2.2.2.2.2.2.2.2.2.2.2.2.1, z'.2.2.2.2.2.2.2.2.2.2.2.2.2.2.1, z'.2.2.2.2.2.2.2.2.2.2.2.2.2.2.2.1, z'.2.2.2.2.2.2.2.2.2.2.2.2.2.2.2.2.1, z'.2.2.2.2.2.2.2.2.2.2.2.2.2.2.2.2.2.1, z'.2.2.2.2.2.2.2.2.2.2.2.2.2.2.2.2.2.2.1, z'.2.2.2.2.2.2.2.2.2.2.2.2.2.2.2.2.2.2.2.1, z'.2.2.2.2.2.2.2.2.2.2.2.2.2.2.2.2.2.2.2.2.1, z'.2.2.2.2.2.2.2.2.2.2.2.2.2.2.2.2.2.2.2.2.2.1, z'.2.2.2.2.2.2.2.2.2.2.2.2.2.2.2.2.2.2.2.2.2.2, FA', FP', Fs', Fp', Fe', Fm', H', od', si') := by
      unfold m_L_runText m_X6_runText m_X5_rewind
      rw [e1, bn_s, if_pos rfl, s2, bn_s, bn_s, b3', bn_s, if_pos rfl, inb0_1, gd_s, bdE]
    have r1 : m_X7_runText T (nI n) tw s sv mn f F m w sp wr eb = some (tot, 0, t, sv', mn', f', F', m', w', sp2, 0, tot) := by
      unfold m_X7_runText m_X7_runText_18 m_X7_reads
      unfold m_X7_reads at e2
      rw [e2, bn_s, if_pos rfl, r_holds0, bn_s, if_neg (by first | decide | (dsimp only; decide)), s1, bn_s, b1', bn_s]
    exact ⟨_, _, _, _, _, _, _, _, _, _, _, _, _, _, _, _, _, _, _, _, _, _, _, _, _, _, _, _, k1, r1, fun _ => O_ok, ⟨FRl_mono (by omega) b2.1, b2.2⟩, HR_mono (by omega) s3⟩
  · rw [if_neg d] at e2
    have k1 : m_L_runText X (nI n) O P o a v c z.1 z.2.1 z.2.2.1 z.2.2.2.1 z.2.2.2.2.1 z.2.2.2.2.2.1 z.2.2.2.2.2.2.1 z.2.2.2.2.2.2.2.1 z.2.2.2.2.2.2.2.2.1 z.2.2.2.2.2.2.2.2.2.1 z.2.2.2.2.2.2.2.2.2.2.1 z.2.2.2.2.2.2.2.2.2.2.2.1 z.2.2.2.2.2.2.2.2.2.2.2.2.1 z.2.2.2.2.2.2.2.2.2.2.2.2.2.1 z.2.2.2.2.2.2.2.2.2.2.2.2.2.2.1 z.2.2.2.2.2.2.2.2.2.2.2.2.2.2.2.1 z.2.2.2.2.2.2.2.2.2.2.2.2.2.2.2.2.1 z.2.2.2.2.2.2.2.2.2.2.2.2.2.2.2.2.2.1 z.2.2.2.2.2.2.2.2.2.2.2.2.2.2.2.2.2.2.1 z.2.2.2.2.2.2.2.2.2.2.2.2.2.2.2.2.2.2.2.1 z.2.2.2.2.2.2.2.2.2.2.2.2.2.2.2.2.2.2.2.2.1 z.2.2.2.2.2.2.2.2.2.2.2.2.2.2.2.2.2.2.2.2.2.1 z.2.2.2.2.2.2.2.2.2.2.2.2.2.2.2.2.2.2.2.2.2.2 FA FP Fs Fp Fe Fm H od si = some (1, O, P', o', a', v', c', z.1, z.2.1, z.2.2.1, z.2.2.2.1, z.2.2.2.2.1, z.2.2.2.2.2.1, z.2.2.2.2.2.2.1, z.2.2.2.2.2.2.2.1, z.2.2.2.2.2.2.2.2.1, z.2.2.2.2.2.2.2.2.2.1, z.2.2.2.2.2.2.2.2.2.2.1, z.2.2.2.2.2.2.2.2.2.2.2.1, z.2.2.2.2.2.2.2.2.2.2.2.2.1, z.2.2.2.2.2.2.2.2.2.2.2.2.2.1, z.2.2.2.2.2.2.2.2.2.2.2.2.2.2.1, z.2.2.2.2.2.2.2.2.2.2.2.2.2.2.2.1, z.2.2.2.2.2.2.2.2.2.2.2.2.2.2.2.2.1, z.2.2.2.2.2.2.2.2.2.2.2.2.2.2.2.2.2.1, z.2.2.2.2.2.2.2.2.2.2.2.2.2.2.2.2.2.2.1, z.2.2.2.2.2.2.2.2.2.2.2.2.2.2.2.2.2.2.2.1, z.2.2.2.2.2.2.2.2.2.2.2.2.2.2.2.2.2.2.2.2.1, z.2.2.2.2.2.2.2.2.2.2.2.2.2.2.2.2.2.2.2.2.2.1, z.2.2.2.2.2.2.2.2.2.2.2.2.2.2.2.2.2.2.2.2.2.2, FA, FP, Fs, Fp, Fe, Fm, H, od, si) := by
      unfold m_L_runText m_X6_runText
      rw [e1, bn_s, if_neg d, bn_s, if_neg (by first | decide | (dsimp only; decide)), if_pos rfl]
    have r1 : m_X7_runText T (nI n) tw s sv mn f F m w sp wr eb = some (0, 1, s, sv, mn, f, F, m, w, sp', 1, 0) := by
      unfold m_X7_runText m_X7_runText_18
      rw [e2, bn_s, if_neg (by first | decide | (dsimp only; decide)), r_holds1, bn_s, if_pos rfl]
    exact ⟨_, _, _, _, _, _, _, _, z, _, _, _, _, _, _, _, _, _, _, _, _, _, _, _, _, _, _, _, k1, r1, fun g => by simp at g, ⟨FRl_mono (by omega) hz.1, hz.2⟩, HR_mono (by omega) hH⟩
theorem undo_case {s : Nat → Int32} {z : zMT} {B : Nat} (hz : RZ s z B) {sv : Nat → Int32} {mn : Int32} {H : Nat → zMT} {od si : Int32} (hH : HR sv mn H od si B) (O : Nat → Int64) (tw : Int32) :
    ∃ k O' b z' si' t mn', m_L_undo H od O z.1 z.2.1 z.2.2.1 z.2.2.2.1 z.2.2.2.2.1 z.2.2.2.2.2.1 z.2.2.2.2.2.2.1 z.2.2.2.2.2.2.2.1 z.2.2.2.2.2.2.2.2.1 z.2.2.2.2.2.2.2.2.2.1 z.2.2.2.2.2.2.2.2.2.2.1 z.2.2.2.2.2.2.2.2.2.2.2.1 z.2.2.2.2.2.2.2.2.2.2.2.2.1 z.2.2.2.2.2.2.2.2.2.2.2.2.2.1 z.2.2.2.2.2.2.2.2.2.2.2.2.2.2.1 z.2.2.2.2.2.2.2.2.2.2.2.2.2.2.2.1 z.2.2.2.2.2.2.2.2.2.2.2.2.2.2.2.2.1 z.2.2.2.2.2.2.2.2.2.2.2.2.2.2.2.2.2.1 z.2.2.2.2.2.2.2.2.2.2.2.2.2.2.2.2.2.2.1 z.2.2.2.2.2.2.2.2.2.2.2.2.2.2.2.2.2.2.2.1 z.2.2.2.2.2.2.2.2.2.2.2.2.2.2.2.2.2.2.2.2.1 z.2.2.2.2.2.2.2.2.2.2.2.2.2.2.2.2.2.2.2.2.2.1 z.2.2.2.2.2.2.2.2.2.2.2.2.2.2.2.2.2.2.2.2.2.2 si = some (k, O', z'.1, z'.2.1, z'.2.2.1, z'.2.2.2.1, z'.2.2.2.2.1, z'.2.2.2.2.2.1, z'.2.2.2.2.2.2.1, z'.2.2.2.2.2.2.2.1, z'.2.2.2.2.2.2.2.2.1, z'.2.2.2.2.2.2.2.2.2.1, z'.2.2.2.2.2.2.2.2.2.2.1, z'.2.2.2.2.2.2.2.2.2.2.2.1, z'.2.2.2.2.2.2.2.2.2.2.2.2.1, z'.2.2.2.2.2.2.2.2.2.2.2.2.2.1, z'.2.2.2.2.2.2.2.2.2.2.2.2.2.2.1, z'.2.2.2.2.2.2.2.2.2.2.2.2.2.2.2.1, z'.2.2.2.2.2.2.2.2.2.2.2.2.2.2.2.2.1, z'.2.2.2.2.2.2.2.2.2.2.2.2.2.2.2.2.2.1, z'.2.2.2.2.2.2.2.2.2.2.2.2.2.2.2.2.2.2.1, z'.2.2.2.2.2.2.2.2.2.2.2.2.2.2.2.2.2.2.2.1, z'.2.2.2.2.2.2.2.2.2.2.2.2.2.2.2.2.2.2.2.2.1, z'.2.2.2.2.2.2.2.2.2.2.2.2.2.2.2.2.2.2.2.2.2.1, z'.2.2.2.2.2.2.2.2.2.2.2.2.2.2.2.2.2.2.2.2.2.2, si') ∧ m_X7_undo sv tw s mn = some (b, k, t, mn') ∧ (k = 0 → lg_cmp (O' (Int32.toNatClampNeg 0)) (Int32.toInt64 b) = 0) ∧ RZ t z' B ∧ HR sv mn' H od si' B := by
  have hH0 := hH
  obtain ⟨m, o, h1, h2, h3, h4, h5, h6⟩ := hH
  subst h3 h4
  by_cases c : m = 0
  · subst c
    have k1 : m_L_undo H od O z.1 z.2.1 z.2.2.1 z.2.2.2.1 z.2.2.2.2.1 z.2.2.2.2.2.1 z.2.2.2.2.2.2.1 z.2.2.2.2.2.2.2.1 z.2.2.2.2.2.2.2.2.1 z.2.2.2.2.2.2.2.2.2.1 z.2.2.2.2.2.2.2.2.2.2.1 z.2.2.2.2.2.2.2.2.2.2.2.1 z.2.2.2.2.2.2.2.2.2.2.2.2.1 z.2.2.2.2.2.2.2.2.2.2.2.2.2.1 z.2.2.2.2.2.2.2.2.2.2.2.2.2.2.1 z.2.2.2.2.2.2.2.2.2.2.2.2.2.2.2.1 z.2.2.2.2.2.2.2.2.2.2.2.2.2.2.2.2.1 z.2.2.2.2.2.2.2.2.2.2.2.2.2.2.2.2.2.1 z.2.2.2.2.2.2.2.2.2.2.2.2.2.2.2.2.2.2.1 z.2.2.2.2.2.2.2.2.2.2.2.2.2.2.2.2.2.2.2.1 z.2.2.2.2.2.2.2.2.2.2.2.2.2.2.2.2.2.2.2.2.1 z.2.2.2.2.2.2.2.2.2.2.2.2.2.2.2.2.2.2.2.2.2.1 z.2.2.2.2.2.2.2.2.2.2.2.2.2.2.2.2.2.2.2.2.2.2 (nI 0) = some (1, O, z.1, z.2.1, z.2.2.1, z.2.2.2.1, z.2.2.2.2.1, z.2.2.2.2.2.1, z.2.2.2.2.2.2.1, z.2.2.2.2.2.2.2.1, z.2.2.2.2.2.2.2.2.1, z.2.2.2.2.2.2.2.2.2.1, z.2.2.2.2.2.2.2.2.2.2.1, z.2.2.2.2.2.2.2.2.2.2.2.1, z.2.2.2.2.2.2.2.2.2.2.2.2.1, z.2.2.2.2.2.2.2.2.2.2.2.2.2.1, z.2.2.2.2.2.2.2.2.2.2.2.2.2.2.1, z.2.2.2.2.2.2.2.2.2.2.2.2.2.2.2.1, z.2.2.2.2.2.2.2.2.2.2.2.2.2.2.2.2.1, z.2.2.2.2.2.2.2.2.2.2.2.2.2.2.2.2.2.1, z.2.2.2.2.2.2.2.2.2.2.2.2.2.2.2.2.2.2.1, z.2.2.2.2.2.2.2.2.2.2.2.2.2.2.2.2.2.2.2.1, z.2.2.2.2.2.2.2.2.2.2.2.2.2.2.2.2.2.2.2.2.1, z.2.2.2.2.2.2.2.2.2.2.2.2.2.2.2.2.2.2.2.2.2.1, z.2.2.2.2.2.2.2.2.2.2.2.2.2.2.2.2.2.2.2.2.2.2, nI 0) := by
      unfold m_L_undo m_X6_undo
      rw [if_pos (show nI 0 = 0 from rfl), bn_s, if_neg (by first | decide | (dsimp only; decide)), if_pos rfl]
    have r1 : m_X7_undo sv tw s (nI 0) = some (0, 1, s, nI 0) := by
      unfold m_X7_undo m_X7_undo_13
      rw [if_pos (show nI 0 ≤ 0 by decide), r_holds1, bn_s, if_pos rfl]
    exact ⟨_, _, _, z, _, _, _, k1, r1, fun g => by simp at g, hz, hH0⟩
  · obtain ⟨m, rfl⟩ : ∃ y, m = y + 1 := ⟨m - 1, by omega⟩
    obtain ⟨u, z', a1, a2, a3, a4⟩ := undo_sim (z := z) (s := s) hH0 (by omega) 0
    have e0 : nI (m + 1) - 1 = nI m := by rw [sub1N (by omega)]; rfl
    have k1 : m_L_undo H od O z.1 z.2.1 z.2.2.1 z.2.2.2.1 z.2.2.2.2.1 z.2.2.2.2.2.1 z.2.2.2.2.2.2.1 z.2.2.2.2.2.2.2.1 z.2.2.2.2.2.2.2.2.1 z.2.2.2.2.2.2.2.2.2.1 z.2.2.2.2.2.2.2.2.2.2.1 z.2.2.2.2.2.2.2.2.2.2.2.1 z.2.2.2.2.2.2.2.2.2.2.2.2.1 z.2.2.2.2.2.2.2.2.2.2.2.2.2.1 z.2.2.2.2.2.2.2.2.2.2.2.2.2.2.1 z.2.2.2.2.2.2.2.2.2.2.2.2.2.2.2.1 z.2.2.2.2.2.2.2.2.2.2.2.2.2.2.2.2.1 z.2.2.2.2.2.2.2.2.2.2.2.2.2.2.2.2.2.1 z.2.2.2.2.2.2.2.2.2.2.2.2.2.2.2.2.2.2.1 z.2.2.2.2.2.2.2.2.2.2.2.2.2.2.2.2.2.2.2.1 z.2.2.2.2.2.2.2.2.2.2.2.2.2.2.2.2.2.2.2.2.1 z.2.2.2.2.2.2.2.2.2.2.2.2.2.2.2.2.2.2.2.2.2.1 z.2.2.2.2.2.2.2.2.2.2.2.2.2.2.2.2.2.2.2.2.2.2 (nI (m + 1)) = some (0, vp_updL O (Int32.toNatClampNeg 0) (Int32.toInt64 (nI m)), z'.1, z'.2.1, z'.2.2.1, z'.2.2.2.1, z'.2.2.2.2.1, z'.2.2.2.2.2.1, z'.2.2.2.2.2.2.1, z'.2.2.2.2.2.2.2.1, z'.2.2.2.2.2.2.2.2.1, z'.2.2.2.2.2.2.2.2.2.1, z'.2.2.2.2.2.2.2.2.2.2.1, z'.2.2.2.2.2.2.2.2.2.2.2.1, z'.2.2.2.2.2.2.2.2.2.2.2.2.1, z'.2.2.2.2.2.2.2.2.2.2.2.2.2.1, z'.2.2.2.2.2.2.2.2.2.2.2.2.2.2.1, z'.2.2.2.2.2.2.2.2.2.2.2.2.2.2.2.1, z'.2.2.2.2.2.2.2.2.2.2.2.2.2.2.2.2.1, z'.2.2.2.2.2.2.2.2.2.2.2.2.2.2.2.2.2.1, z'.2.2.2.2.2.2.2.2.2.2.2.2.2.2.2.2.2.2.1, z'.2.2.2.2.2.2.2.2.2.2.2.2.2.2.2.2.2.2.2.1, z'.2.2.2.2.2.2.2.2.2.2.2.2.2.2.2.2.2.2.2.2.1, z'.2.2.2.2.2.2.2.2.2.2.2.2.2.2.2.2.2.2.2.2.2.1, z'.2.2.2.2.2.2.2.2.2.2.2.2.2.2.2.2.2.2.2.2.2.2, nI m) := by
      unfold m_L_undo m_X6_undo
      rw [if_neg (show ¬ nI (m + 1) = 0 by rw [eqN0 (by omega)]; omega), a2, bn_s, bn_s, if_pos rfl, inb0_1, gd_s, bdE]
    have r1 : m_X7_undo sv tw s (nI (m + 1)) = some (nI m, 0, u, nI m) := by
      unfold m_X7_undo m_X7_undo_13
      rw [if_neg (show ¬ nI (m + 1) ≤ 0 by rw [leN0 (by omega)]; omega), r_holds0, bn_s, if_neg (by first | decide | (dsimp only; decide)), bdE, e0, a1]
    exact ⟨_, _, _, _, _, _, _, k1, r1, fun _ => O_ok, a3, a4⟩
