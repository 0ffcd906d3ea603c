-- ===== 8D: the questions about instructions, lines and counts =====
theorem ins_val {s kd tg oc ln ct cn : Nat → Int32} {nx : Int32} (hP : PR s kd tg oc ln ct cn nx) {a c : Nat} (ha : a < 48) (hc : c ≤ 6) (hok : okA (nI a) = true) : ∃ v, m_X6_instruction kd tg oc ln ct cn (nI a) (nI c) = some (0, v) ∧ m_X7_partOf s (nI a) (nI c) = some v := by
  obtain ⟨e1, e2, e3, e4, e5, e6⟩ := hP.1 a ha
  have hi : inb (nI a) 48 = true := inbN (by omega) (by omega)
  have hcl : Int32.toNatClampNeg (nI a) = a := clN (by omega)
  rcases (show c = 0 ∨ c = 1 ∨ c = 2 ∨ c = 3 ∨ c = 4 ∨ c = 5 ∨ c = 6 by omega) with rfl | rfl | rfl | rfl | rfl | rfl | rfl
  · refine ⟨s (6 * a), ?_, ?_⟩
    · unfold m_X6_instruction
      rw [k_reqA_t hok, bn_s, if_pos rfl, if_pos (show nI 0 = 0 from rfl), hi, gd_s, bdE, hcl, e1]
    · unfold m_X7_partOf
      rw [if_pos (show nI 0 = 0 from rfl), of_0, bn_s, inbN (by omega) (by omega), gd_s, bdE, clN (by omega)]
  · by_cases hk : s (6 * a) = 0
    · refine ⟨-1, ?_, ?_⟩
      · unfold m_X6_instruction m_X6_instruction_82
        rw [k_reqA_t hok, bn_s, if_pos rfl, if_neg (show ¬ nI 1 = 0 by decide), if_pos (show nI 1 = 1 from rfl), hi, gd_s, hcl, e1, if_pos hk]
      · unfold m_X7_partOf m_X7_partOf_78
        rw [if_neg (show ¬ nI 1 = 0 by decide), if_pos (show nI 1 = 1 from rfl), of_0, bn_s, inbN (by omega) (by omega), gd_s, clN (by omega), if_pos hk]
    · refine ⟨s (6 * a + 1), ?_, ?_⟩
      · unfold m_X6_instruction m_X6_instruction_82
        rw [k_reqA_t hok, bn_s, if_pos rfl, if_neg (show ¬ nI 1 = 0 by decide), if_pos (show nI 1 = 1 from rfl), hi, gd_s, gd_s, hcl, e1, if_neg hk, e2 hk]
      · unfold m_X7_partOf m_X7_partOf_78
        rw [if_neg (show ¬ nI 1 = 0 by decide), if_pos (show nI 1 = 1 from rfl), of_0, bn_s, inbN (by omega) (by omega), gd_s, clN (by omega), if_neg hk, of_1, bn_s, inbN (by omega) (by omega), gd_s, clN (by omega)]
  · refine ⟨s (6 * a + 4), ?_, ?_⟩
    · unfold m_X6_instruction
      rw [k_reqA_t hok, bn_s, if_pos rfl, if_neg (show ¬ nI 2 = 0 by decide), if_neg (show ¬ nI 2 = 1 by decide), if_pos (show nI 2 = 2 from rfl), hi, gd_s, bdE, hcl, e5]
    · unfold m_X7_partOf
      rw [if_neg (show ¬ nI 2 = 0 by decide), if_neg (show ¬ nI 2 = 1 by decide), if_pos (show nI 2 = 2 from rfl), of_4, bn_s, inbN (by omega) (by omega), gd_s, bdE, clN (by omega)]
  · refine ⟨s (6 * a + 3), ?_, ?_⟩
    · unfold m_X6_instruction
      rw [k_reqA_t hok, bn_s, if_pos rfl, if_neg (show ¬ nI 3 = 0 by decide), if_neg (show ¬ nI 3 = 1 by decide), if_neg (show ¬ nI 3 = 2 by decide), if_pos (show nI 3 = 3 from rfl), hi, gd_s, bdE, hcl, e4]
    · unfold m_X7_partOf
      rw [if_neg (show ¬ nI 3 = 0 by decide), if_neg (show ¬ nI 3 = 1 by decide), if_neg (show ¬ nI 3 = 2 by decide), if_pos (show nI 3 = 3 from rfl), of_3, bn_s, inbN (by omega) (by omega), gd_s, bdE, clN (by omega)]
  · refine ⟨s (6 * a + 2), ?_, ?_⟩
    · unfold m_X6_instruction
      rw [k_reqA_t hok, bn_s, if_pos rfl, if_neg (show ¬ nI 4 = 0 by decide), if_neg (show ¬ nI 4 = 1 by decide), if_neg (show ¬ nI 4 = 2 by decide), if_neg (show ¬ nI 4 = 3 by decide), if_pos (show nI 4 = 4 from rfl), hi, gd_s, bdE, hcl, e3]
    · unfold m_X7_partOf
      rw [if_neg (show ¬ nI 4 = 0 by decide), if_neg (show ¬ nI 4 = 1 by decide), if_neg (show ¬ nI 4 = 2 by decide), if_neg (show ¬ nI 4 = 3 by decide), if_pos (show nI 4 = 4 from rfl), of_2, bn_s, inbN (by omega) (by omega), gd_s, bdE, clN (by omega)]
  · refine ⟨s (6 * a + 5), ?_, ?_⟩
    · unfold m_X6_instruction
      rw [k_reqA_t hok, bn_s, if_pos rfl, if_neg (show ¬ nI 5 = 0 by decide), if_neg (show ¬ nI 5 = 1 by decide), if_neg (show ¬ nI 5 = 2 by decide), if_neg (show ¬ nI 5 = 3 by decide), if_neg (show ¬ nI 5 = 4 by decide), if_pos (show nI 5 = 5 from rfl), hi, gd_s, bdE, hcl, e6]
    · unfold m_X7_partOf
      rw [if_neg (show ¬ nI 5 = 0 by decide), if_neg (show ¬ nI 5 = 1 by decide), if_neg (show ¬ nI 5 = 2 by decide), if_neg (show ¬ nI 5 = 3 by decide), if_neg (show ¬ nI 5 = 4 by decide), if_pos (show nI 5 = 5 from rfl), of_5, bn_s, inbN (by omega) (by omega), gd_s, bdE, clN (by omega)]
  · refine ⟨ps s a, ?_, ?_⟩
    · unfold m_X6_instruction
      rw [k_reqA_t hok, bn_s, if_pos rfl, if_neg (show ¬ nI 6 = 0 by decide), if_neg (show ¬ nI 6 = 1 by decide), if_neg (show ¬ nI 6 = 2 by decide), if_neg (show ¬ nI 6 = 3 by decide), if_neg (show ¬ nI 6 = 4 by decide), if_neg (show ¬ nI 6 = 5 by decide), if_pos (show nI 6 = 6 from rfl), k_predS hP ha, bn_s]
    · unfold m_X7_partOf
      rw [if_neg (show ¬ nI 6 = 0 by decide), if_neg (show ¬ nI 6 = 1 by decide), if_neg (show ¬ nI 6 = 2 by decide), if_neg (show ¬ nI 6 = 3 by decide), if_neg (show ¬ nI 6 = 4 by decide), if_neg (show ¬ nI 6 = 5 by decide), r_predS ha, bn_s]
theorem ins_no {kd tg oc ln ct cn : Nat → Int32} {x1 x2 : Int32} (hok : okA x1 = true) (hx : ¬ (0 ≤ x2 ∧ x2 ≤ 6)) : m_X6_instruction kd tg oc ln ct cn x1 x2 = some (2, 0) := by
  have hn : ∀ c : Nat, c ≤ 6 → ¬ x2 = nI c := fun c hc e => hx (by
    subst e
    exact ⟨leN_t (a := 0) (by omega) (by omega), leN_t (b := 6) (by omega) hc⟩)
  unfold m_X6_instruction
  rw [k_reqA_t hok, bn_s, if_pos rfl, if_neg (show ¬ x2 = 0 from hn 0 (by omega)), if_neg (show ¬ x2 = 1 from hn 1 (by omega)), if_neg (show ¬ x2 = 2 from hn 2 (by omega)), if_neg (show ¬ x2 = 3 from hn 3 (by omega)), if_neg (show ¬ x2 = 4 from hn 4 (by omega)), if_neg (show ¬ x2 = 5 from hn 5 (by omega)), if_neg (show ¬ x2 = 6 from hn 6 (by omega))]
theorem instruction_case {s kd tg oc ln ct cn : Nat → Int32} {nx : Int32} (hP : PR s kd tg oc ln ct cn nx) (O : Nat → Int64) (tw x1 x2 : Int32) : ∃ k O' b, m_L_instruction kd tg oc ln ct cn O x1 x2 = some (k, O') ∧ m_X7_instruction s tw x1 x2 = some (b, k) ∧ (k = 0 → lg_cmp (O' (Int32.toNatClampNeg 0)) (Int32.toInt64 b) = 0) := by
  by_cases hok : okA x1 = true
  · by_cases hx : 0 ≤ x2 ∧ x2 ≤ 6
    · obtain ⟨a, ha, rfl⟩ := okA_nI hok
      have r0 := r_in_t hx.1 hx.2
      obtain ⟨c, -, hc, rfl⟩ := rng (lo := 0) (hi := 6) (by omega) (by omega) hx.1 hx.2
      obtain ⟨v, v1, v2⟩ := ins_val hP ha hc hok
      refine ⟨0, vp_updL O (Int32.toNatClampNeg 0) (Int32.toInt64 v), v, ?_, ?_, fun _ => O_ok⟩
      · unfold m_L_instruction
        rw [v1, bn_s, if_pos rfl, inb0_1, gd_s, bdE]
      · unfold m_X7_instruction m_X7_instruction_27 m_X7_instruction_43
        rw [r_isA_t hok, bn_s, if_neg (by first | decide | (dsimp only; decide)), r0, bn_s, if_neg (by first | decide | (dsimp only; decide)), r_holds0, bn_s, if_neg (by first | decide | (dsimp only; decide)), v2, bn_s]
    · refine ⟨2, O, 0, ?_, ?_, fun g => by simp at g⟩
      · unfold m_L_instruction
        rw [ins_no hok hx, bn_s, if_neg (by first | decide | (dsimp only; decide)), if_neg (by first | decide | (dsimp only; decide)), if_pos rfl]
      · unfold m_X7_instruction m_X7_instruction_27 m_X7_instruction_43
        rw [r_isA_t hok, bn_s, if_neg (by first | decide | (dsimp only; decide)), r_in_f hx, bn_s, if_pos rfl, r_holds2, bn_s, if_pos rfl]
  · refine ⟨1, O, 0, ?_, ?_, fun g => by simp at g⟩
    · unfold m_L_instruction m_X6_instruction
      rw [k_reqA_f hok, bn_s, if_neg (by first | decide | (dsimp only; decide)), bn_s, if_neg (by first | decide | (dsimp only; decide)), if_pos (by first | decide | (dsimp only; decide))]
    · unfold m_X7_instruction m_X7_instruction_27 m_X7_instruction_43
      rw [r_isA_f hok, bn_s, if_pos rfl, r_holds1, bn_s, if_pos rfl]
theorem line_val {s kd tg oc ln ct cn : Nat → Int32} {nx : Int32} {M : Nat → Nat → Int32} {sz us : Nat → Int32} {lu pu re : Int32} (hP : PR s kd tg oc ln ct cn nx) (hC : CR s M sz us lu pu re) (hL : LI s) {q w c : Nat} (hq : q ≤ 3) (hw : w ≤ 1) (hc : c ≤ 10) : ∃ v, m_X6_line M sz us kd tg cn (nI q) (nI w) (nI c) = some (0, v) ∧ m_X7_ofOne s (2 * nI q + nI w) (nI c) = some v := by
  have hp : 2 * q + w < 8 := by omega
  have e1 : nI q * 2 + nI w = nI (2 * q + w) := by rw [show nI q * 2 = nI (q * 2) from pk_mul q 2, nI_add, Nat.mul_comm]
  have e2 : (2 : Int32) * nI q + nI w = nI (2 * q + w) := by rw [mul2N, nI_add]
  rw [e2]
  generalize hpe : 2 * q + w = p at *
  have h8 := hL p hp
  have hCp := hC.1 p hp
  have hi : inb (nI p) 8 = true := inbN hp (by omega)
  have hcl : Int32.toNatClampNeg (nI p) = p := clN (by omega)
  have k0 : m_X6_line M sz us kd tg cn (nI q) (nI w) (nI c) = if zs s p = 0 then some (0, -1) else if c = 0 then some (0, nI (zs s p)) else if c = 1 then some (0, nI (ul s p)) else if c = 2 then some (0, s (290 + 10 * p)) else bn (m_X0_addressAt M sz (nI p) (nI c - 3)) (fun y => some (0, y)) := by
    have c0 : (nI c = 0) = (c = 0) := eqN0 (by omega)
    have c1 : (nI c = 1) = (c = 1) := eqN (b := 1) (by omega) (by omega)
    have c2 : (nI c = 2) = (c = 2) := eqN (b := 2) (by omega) (by omega)
    have z0 : (nI (zs s p) = 0) = (zs s p = 0) := eqN0 (by omega)
    unfold m_X6_line
    rw [if_neg (show ¬ nI q < 0 by rw [i32_lt0]; exact not_not_intro (leN_t (a := 0) (by omega) (by omega))), if_neg (show ¬ 4 ≤ nI q from leN_f (a := 4) (by omega) (by omega)), if_neg (show ¬ nI w < 0 by rw [i32_lt0]; exact not_not_intro (leN_t (a := 0) (by omega) (by omega))), if_pos (show nI w < 2 by rw [i32_lt2]; exact leN_t (b := 1) (by omega) (by omega)), if_neg (show ¬ nI c < 0 by rw [i32_lt0]; exact not_not_intro (leN_t (a := 0) (by omega) (by omega))), if_pos (show nI c ≤ 10 from leN_t (b := 10) (by omega) (by omega)), bdE, e1, hi, gd_s, gd_s, gd_s, hcl, hCp.1, h8.2.1, bdE, bdE]
    simp only [c0, c1, c2, z0]
    by_cases g0 : zs s p = 0
    · rw [if_pos g0, if_pos g0]
    · rw [if_neg g0, if_neg g0, k_usable hP hC hL hp (by omega), bn_s, hCp.2.2 (by omega)]
  rw [k0]
  have z0 : (nI (zs s p) = 0) = (zs s p = 0) := eqN0 (by omega)
  by_cases g0 : zs s p = 0
  · rw [if_pos g0]
    refine ⟨-1, rfl, ?_⟩
    unfold m_X7_ofOne m_X7_ofOne_29
    rw [ofL_0, bn_s, inbN (by omega) (by omega), gd_s, clN (by omega), h8.2.1, if_pos (by rw [z0]; exact g0)]
  · rw [if_neg g0]
    have hr : m_X7_ofOne s (nI p) (nI c) = if nI c - 3 < nI (zs s p) then (if nI c = 0 then some (nI (zs s p)) else if nI c = 1 then some (nI (ul s p)) else if nI c = 2 then some (s (290 + 10 * p)) else (bn (m_X7_ofLine (nI p) (2 + nI c - 3)) (fun y89 => gd (inb y89 389) (some (s (Int32.toNatClampNeg y89)))))) else some (-1) := by
      unfold m_X7_ofOne m_X7_ofOne_29 m_X7_ofOne_93
      rw [ofL_0, bn_s, inbN (by omega) (by omega), gd_s, clN (by omega), h8.2.1, if_neg (by rw [z0]; exact g0), bn_s, inbN (by omega) (by omega), gd_s, clN (by omega), h8.2.1, bn_s, inbN (by omega) (by omega), gd_s, clN (by omega), h8.2.1, r_usable hL hp, bn_s, ofL_1, bn_s, inbN (by omega) (by omega), gd_s, clN (by omega), show 289 + 10 * p + 1 = 290 + 10 * p by omega]
    rw [hr]
    by_cases c3 : c < 3
    · have hlt : nI c - 3 < nI (zs s p) := by
        have : ∃ t : Int32, nI c - 3 = t ∧ t < 0 := by
          rcases (show c = 0 ∨ c = 1 ∨ c = 2 by omega) with rfl | rfl | rfl
          · exact ⟨_, rfl, by decide⟩
          · exact ⟨_, rfl, by decide⟩
          · exact ⟨_, rfl, by decide⟩
        obtain ⟨t, t1, t2⟩ := this
        rw [t1, i32_lt, nI_toInt (by omega)]
        rw [i32_lt, show (0 : Int32).toInt = 0 from rfl] at t2
        omega
      rw [if_pos hlt]
      rcases (show c = 0 ∨ c = 1 ∨ c = 2 by omega) with rfl | rfl | rfl
      · exact ⟨_, if_pos rfl, if_pos rfl⟩
      · exact ⟨nI (ul s p), by rw [if_neg (by first | decide | (dsimp only; decide)), if_pos rfl], by rw [if_neg (show ¬ nI 1 = 0 by decide), if_pos (show nI 1 = 1 from rfl)]⟩
      · exact ⟨s (290 + 10 * p), by rw [if_neg (by first | decide | (dsimp only; decide)), if_neg (by first | decide | (dsimp only; decide)), if_pos rfl], by rw [if_neg (show ¬ nI 2 = 0 by decide), if_neg (show ¬ nI 2 = 1 by decide), if_pos (show nI 2 = 2 from rfl)]⟩
    · have e3 : nI c - 3 = nI (c - 3) := by rw [show (3 : Int32) = nI 3 from rfl, pk_sub (by omega)]
      have e4 : (2 : Int32) + nI c - 3 = nI (2 + (c - 3)) := by
        rw [show (2 : Int32) + nI c = nI (2 + c) from nI_add 2 c, show (3 : Int32) = nI 3 from rfl, pk_sub (by omega)]
        congr 1
        omega
      rw [if_neg (by omega), if_neg (by omega), if_neg (by omega), e3, e4]
      have lt : (nI (c - 3) < nI (zs s p)) = (c - 3 < zs s p) := ltN (by omega) (by omega)
      simp only [lt]
      unfold m_X0_addressAt m_X0_addressAt_22
      rw [hi, gd_s, gd_s, hcl, hCp.1, h8.2.1]
      by_cases g : c - 3 < zs s p
      · rw [if_pos g, if_neg (leN_f (by omega) g), inbN (by omega) (by omega), gd_s, bn_s, clN (by omega), hCp.2.1 _ g]
        refine ⟨_, rfl, ?_⟩
        rw [if_neg (show ¬ nI c = 0 by rw [eqN0 (by omega)]; omega), if_neg (show ¬ nI c = 1 by rw [show (1 : Int32) = nI 1 from rfl, eqN (by omega) (by omega)]; omega), if_neg (show ¬ nI c = 2 by rw [show (2 : Int32) = nI 2 from rfl, eqN (by omega) (by omega)]; omega), ofL, bn_s, inbN (by omega) (by omega), gd_s, clN (by omega), show 289 + 10 * p + (2 + (c - 3)) = 291 + 10 * p + (c - 3) by omega]
      · rw [if_neg g, if_pos (leN_t (by omega) (by omega)), bn_s]
        exact ⟨_, rfl, rfl⟩
theorem line_case {s kd tg oc ln ct cn : Nat → Int32} {nx : Int32} {M : Nat → Nat → Int32} {sz us : Nat → Int32} {lu pu re : Int32} (hP : PR s kd tg oc ln ct cn nx) (hC : CR s M sz us lu pu re) (hL : LI s) (O : Nat → Int64) (tw x1 x2 x3 : Int32) : ∃ k O' b, m_L_line M sz us kd tg cn O x1 x2 x3 = some (k, O') ∧ m_X7_line s tw x1 x2 x3 = some (b, k) ∧ (k = 0 → lg_cmp (O' (Int32.toNatClampNeg 0)) (Int32.toInt64 b) = 0) := by
  have no1 : ¬ ((0 ≤ x1 ∧ x1 ≤ 3) ∧ (0 ≤ x2 ∧ x2 ≤ 1)) → m_X6_line M sz us kd tg cn x1 x2 x3 = some (1, 0) := by
    intro g
    unfold m_X6_line m_X6_line_18
    simp only [i32_lt0, i32_lt4, i32_lt2]
    by_cases g1 : 0 ≤ x1
    · by_cases g2 : x1 ≤ 3
      · by_cases g3 : 0 ≤ x2
        · have g4 : ¬ x2 ≤ 1 := fun q => g ⟨⟨g1, g2⟩, g3, q⟩
          rw [if_neg (not_not_intro g1), if_neg (not_not_intro g2), if_neg (not_not_intro g3), if_neg g4]
        · rw [if_neg (not_not_intro g1), if_neg (not_not_intro g2), if_pos g3]
      · rw [if_neg (not_not_intro g1), if_pos g2]
    · rw [if_pos g1]
  have no2 : (0 ≤ x1 ∧ x1 ≤ 3) ∧ (0 ≤ x2 ∧ x2 ≤ 1) → ¬ (0 ≤ x3 ∧ x3 ≤ 10) → m_X6_line M sz us kd tg cn x1 x2 x3 = some (2, 0) := by
    intro g g'
    unfold m_X6_line m_X6_line_38
    simp only [i32_lt0, i32_lt4, i32_lt2]
    rw [if_neg (not_not_intro g.1.1), if_neg (not_not_intro g.1.2), if_neg (not_not_intro g.2.1), if_pos g.2.2]
    by_cases g5 : 0 ≤ x3
    · rw [if_neg (not_not_intro g5), if_neg (fun q => g' ⟨g5, q⟩)]
    · rw [if_pos g5]
  by_cases h1 : (0 ≤ x1 ∧ x1 ≤ 3) ∧ (0 ≤ x2 ∧ x2 ≤ 1)
  · have r1 := r_in_t h1.1.1 h1.1.2
    have r2 := r_in_t h1.2.1 h1.2.2
    by_cases h3 : 0 ≤ x3 ∧ x3 ≤ 10
    · have r3 := r_in_t h3.1 h3.2
      obtain ⟨q, -, hq, rfl⟩ := rng (lo := 0) (hi := 3) (by omega) (by omega) h1.1.1 h1.1.2
      obtain ⟨w, -, hw, rfl⟩ := rng (lo := 0) (hi := 1) (by omega) (by omega) h1.2.1 h1.2.2
      obtain ⟨c, -, hc, rfl⟩ := rng (lo := 0) (hi := 10) (by omega) (by omega) h3.1 h3.2
      obtain ⟨v, v1, v2⟩ := line_val hP hC hL hq hw hc
      refine ⟨0, vp_updL O (Int32.toNatClampNeg 0) (Int32.toInt64 v), v, ?_, ?_, fun _ => O_ok⟩
      · unfold m_L_line
        rw [v1, bn_s, if_pos rfl, inb0_1, gd_s, bdE]
      · unfold m_X7_line m_X7_line_23 m_X7_line_50 m_X7_line_70
        rw [r1, bn_s, if_neg (by first | decide | (dsimp only; decide)), r2, bn_s, if_neg (by first | decide | (dsimp only; decide)), if_neg (by first | decide | (dsimp only; decide)), r3, bn_s, if_neg (by first | decide | (dsimp only; decide)), r_holds0, bn_s, if_neg (by first | decide | (dsimp only; decide)), v2, bn_s]
    · refine ⟨2, O, 0, ?_, ?_, fun g => by simp at g⟩
      · unfold m_L_line
        rw [no2 h1 h3, bn_s, if_neg (by first | decide | (dsimp only; decide)), if_neg (by first | decide | (dsimp only; decide)), if_pos rfl]
      · unfold m_X7_line m_X7_line_23 m_X7_line_50 m_X7_line_70
        rw [r1, bn_s, if_neg (by first | decide | (dsimp only; decide)), r2, bn_s, if_neg (by first | decide | (dsimp only; decide)), if_neg (by first | decide | (dsimp only; decide)), r_in_f h3, bn_s, if_pos rfl, r_holds2, bn_s, if_pos rfl]
  · refine ⟨1, O, 0, ?_, ?_, fun g => by simp at g⟩
    · unfold m_L_line
      rw [no1 h1, bn_s, if_neg (by first | decide | (dsimp only; decide)), if_pos rfl]
    · unfold m_X7_line m_X7_line_22 m_X7_line_23 m_X7_line_50 m_X7_line_70
      by_cases g1 : 0 ≤ x1 ∧ x1 ≤ 3
      · rw [r_in_t g1.1 g1.2, bn_s, if_neg (by first | decide | (dsimp only; decide)), r_in_f (fun g => h1 ⟨g1, g⟩), bn_s, if_pos rfl, if_pos rfl, r_holds1, bn_s, if_pos rfl]
      · rw [r_in_f g1, bn_s, if_pos rfl, if_pos rfl, r_holds1, bn_s, if_pos rfl]
theorem pending_case {s : Nat → Int32} {pn : Int32} {row : Nat → Int32} (hQ : QI s 7) (hR : QR s pn row) (O : Nat → Int64) (tw x1 : Int32) : ∃ k O' b, m_L_pending pn row O x1 = some (k, O') ∧ m_X7_pending s tw x1 = some (b, k) ∧ (k = 0 → lg_cmp (O' (Int32.toNatClampNeg 0)) (Int32.toInt64 b) = 0) := by
  by_cases h0 : 0 ≤ x1
  · by_cases h1 : s 369 ≤ x1
    · refine ⟨0, vp_updL O (Int32.toNatClampNeg 0) (Int32.toInt64 (-1)), -1, ?_, ?_, fun _ => O_ok⟩
      · unfold m_L_pending m_X6_pending m_X3_pendingAt m_X3_pendingAt_18
        rw [if_pos h0, hR.1, if_pos h1, bn_s, bn_s, if_pos rfl, inb0_1, gd_s, bdE]
      · unfold m_X7_pending m_X7_pending_10 m_X7_pending_44
        rw [if_pos h0, r_holds0, bn_s, if_neg (by first | decide | (dsimp only; decide)), inb369, gd_s, cl369, if_pos h1]
    · have hz := hQ.1
      have e := hQ.2.1
      have hx : ∃ i, i < zp s ∧ x1 = nI i := by
        rw [e, i32_le, nI_toInt (by omega)] at h1
        rw [i32_le, show (0 : Int32).toInt = 0 from rfl] at h0
        refine ⟨x1.toInt.toNat, by omega, Int32.toInt_inj.mp ?_⟩
        rw [nI_toInt (by omega)]
        omega
      obtain ⟨i, hi, rfl⟩ := hx
      refine ⟨0, vp_updL O (Int32.toNatClampNeg 0) (Int32.toInt64 (s (370 + i))), s (370 + i), ?_, ?_, fun _ => O_ok⟩
      · unfold m_L_pending m_X6_pending m_X3_pendingAt m_X3_pendingAt_18
        rw [if_pos h0, hR.1, if_neg h1, inbN (by omega) (by omega), gd_s, clN (by omega), hR.2 i hi, bn_s, bn_s, if_pos rfl, inb0_1, gd_s, bdE]
      · unfold m_X7_pending m_X7_pending_10 m_X7_pending_44
        rw [if_pos h0, r_holds0, bn_s, if_neg (by first | decide | (dsimp only; decide)), inb369, gd_s, cl369, if_neg h1, bdE, add370, inbN (by omega) (by omega), gd_s, clN (by omega)]
  · refine ⟨1, O, 0, ?_, ?_, fun g => by simp at g⟩
    · unfold m_L_pending m_X6_pending
      rw [if_neg h0, bn_s, if_neg (by first | decide | (dsimp only; decide)), if_pos rfl]
    · unfold m_X7_pending m_X7_pending_10
      rw [if_neg h0, r_holds1, bn_s, if_pos rfl]
theorem r_lw_loop {s : Nat → Int32} (hL : LI s) {a : Nat} {tw : Int32} : ∀ k i n c, i + k = 8 → c ≤ i → k < n → m_X7_linesWith_25 s (nI a) n tw (nI c) (nI i) = some (nI (c + ctb (fun p => has s p a) k i), tw) := by
  intro k
  induction k with
  | zero =>
    intro i n c h1 hc h3
    obtain ⟨n, rfl⟩ : ∃ z, n = z + 1 := ⟨n - 1, by omega⟩
    rw [m_X7_linesWith_25, if_pos (show (8 : Int32) ≤ nI i from leN_t (a := 8) (by omega) (by omega))]
    rfl
  | succ k ih =>
    intro i n c h1 hc h3
    obtain ⟨n, rfl⟩ : ∃ z, n = z + 1 := ⟨n - 1, by omega⟩
    have i0 := ih (i + 1) n c (by omega) (by omega) (by omega)
    have i1 := ih (i + 1) n (c + 1) (by omega) (by omega) (by omega)
    have e0 : nI c + 0 = nI c := nI_add c 0
    rw [m_X7_linesWith_25, if_neg (show ¬ (8 : Int32) ≤ nI i from leN_f (a := 8) (by omega) (by omega)), r_contains hL (by omega), bn_s]
    unfold m_X7_linesWith_46
    by_cases hq : has s i a = true
    · rw [hq, if_neg (by first | decide | (dsimp only; decide)), bdE, bdE, nI1, nI1, i1, ctb, if_pos hq]
      rw [Nat.add_assoc]
    · rw [Bool.eq_false_iff.mpr hq, if_pos (show b2i false = 0 from rfl), bdE, bdE, nI1, e0, i0, ctb, if_neg hq, Nat.zero_add]
theorem linesWith_case {s : Nat → Int32} {M : Nat → Nat → Int32} {sz us : Nat → Int32} {lu pu re : Int32} (hC : CR s M sz us lu pu re) (hL : LI s) (O : Nat → Int64) (tw x1 : Int32) : ∃ k O' b, m_L_linesWith M sz O x1 = some (k, O') ∧ m_X7_linesWith s tw x1 = some (b, k) ∧ (k = 0 → lg_cmp (O' (Int32.toNatClampNeg 0)) (Int32.toInt64 b) = 0) := by
  by_cases hok : okA x1 = true
  · have q1 := k_reqA_t hok
    have q2 := r_isA_t hok
    obtain ⟨a, ha, rfl⟩ := okA_nI hok
    have hl := r_lw_loop hL (a := a) (tw := 0) 8 0 4000 0 (by omega) (by omega) (by omega)
    rw [Nat.zero_add] at hl
    have hl' : m_X7_linesWith_25 s (nI a) 4000 0 0 0 = some (nI (nw s a), 0) := hl
    refine ⟨0, vp_updL O (Int32.toNatClampNeg 0) (Int32.toInt64 (nI (nw s a))), nI (nw s a), ?_, ?_, fun _ => O_ok⟩
    · unfold m_L_linesWith m_X6_linesWith
      rw [q1, bn_s, if_pos rfl, k_holding hC hL, bn_s, bn_s, if_pos rfl, inb0_1, gd_s, bdE]
    · unfold m_X7_linesWith m_X7_linesWith_13
      rw [q2, bn_s, if_neg (by first | decide | (dsimp only; decide)), r_holds0, bn_s, if_neg (by first | decide | (dsimp only; decide)), hl']
  · refine ⟨1, O, 0, ?_, ?_, fun g => by simp at g⟩
    · unfold m_L_linesWith m_X6_linesWith
      rw [k_reqA_f hok, bn_s, if_neg (by first | decide | (dsimp only; decide)), bn_s, if_neg (by first | decide | (dsimp only; decide)), if_pos (by first | decide | (dsimp only; decide))]
    · unfold m_X7_linesWith m_X7_linesWith_13
      rw [r_isA_f hok, bn_s, if_pos rfl, r_holds1, bn_s, if_pos rfl]
theorem lines_case {s : Nat → Int32} {M : Nat → Nat → Int32} {sz us : Nat → Int32} {lu pu re : Int32} (hC : CR s M sz us lu pu re) (hL : LI s) (tw : Int32) : m_X6_lines sz = some (nI (nl s)) ∧ m_X7_lines s tw = some (nI (nl s), 0) := by
  constructor
  · unfold m_X6_lines
    rw [k_filled (fun p hp => (hC.1 p hp).1) hL, bn_s]
  · unfold m_X7_lines
    rw [r_lines hL, bn_s]
theorem count_case {s : Nat → Int32} {tm ft xe th ms fl lf pu re dr : Int32} (h0 : tm = s 379) (h1 : ft = s 380) (h2 : xe = s 381) (h3 : th = s 382) (h4 : ms = s 383) (h5 : fl = s 384) (h6 : lf = s 385) (h7 : pu = s 386) (h8 : re = s 387) (h9 : dr = s 388) (O : Nat → Int64) (tw x1 : Int32) : ∃ k O' b, m_L_count tm ft xe th ms fl lf pu re dr O x1 = some (k, O') ∧ m_X7_count s tw x1 = some (b, k) ∧ (k = 0 → lg_cmp (O' (Int32.toNatClampNeg 0)) (Int32.toInt64 b) = 0) := by
  by_cases hx : 0 ≤ x1 ∧ x1 ≤ 9
  · have r0 := r_in_t hx.1 hx.2
    obtain ⟨c, -, hc, rfl⟩ := rng (lo := 0) (hi := 9) (by omega) (by omega) hx.1 hx.2
    have kc : m_X6_count tm ft xe th ms fl lf pu re dr (nI c) = some (0, s (379 + c)) := by
      unfold m_X6_count
      subst h0 h1 h2 h3 h4 h5 h6 h7 h8 h9
      rcases (show c = 0 ∨ c = 1 ∨ c = 2 ∨ c = 3 ∨ c = 4 ∨ c = 5 ∨ c = 6 ∨ c = 7 ∨ c = 8 ∨ c = 9 by omega) with rfl | rfl | rfl | rfl | rfl | rfl | rfl | rfl | rfl | rfl <;> rfl
    refine ⟨0, vp_updL O (Int32.toNatClampNeg 0) (Int32.toInt64 (s (379 + c))), s (379 + c), ?_, ?_, fun _ => O_ok⟩
    · unfold m_L_count
      rw [kc, bn_s, if_pos rfl, inb0_1, gd_s, bdE]
    · unfold m_X7_count m_X7_count_16 m_X7_count_36
      rw [r0, bn_s, if_neg (by first | decide | (dsimp only; decide)), r_holds0, bn_s, if_neg (by first | decide | (dsimp only; decide)), bdE, show (379 : Int32) + nI c = nI (379 + c) from nI_add 379 c, inbN (by omega) (by omega), gd_s, clN (by omega)]
  · have hn : ∀ c : Nat, c ≤ 9 → ¬ x1 = nI c := fun c hc e => hx (by
      subst e
      exact ⟨leN_t (a := 0) (by omega) (by omega), leN_t (b := 9) (by omega) hc⟩)
    refine ⟨1, O, 0, ?_, ?_, fun g => by simp at g⟩
    · unfold m_L_count m_X6_count
      rw [if_neg (show ¬ x1 = 0 from hn 0 (by omega)), if_neg (show ¬ x1 = 1 from hn 1 (by omega)), if_neg (show ¬ x1 = 2 from hn 2 (by omega)), if_neg (show ¬ x1 = 3 from hn 3 (by omega)), if_neg (show ¬ x1 = 4 from hn 4 (by omega)), if_neg (show ¬ x1 = 5 from hn 5 (by omega)), if_neg (show ¬ x1 = 6 from hn 6 (by omega)), if_neg (show ¬ x1 = 7 from hn 7 (by omega)), if_neg (show ¬ x1 = 8 from hn 8 (by omega)), if_neg (show ¬ x1 = 9 from hn 9 (by omega)), bn_s, if_neg (by first | decide | (dsimp only; decide)), if_pos rfl]
    · unfold m_X7_count m_X7_count_16 m_X7_count_36
      rw [r_in_f hx, bn_s, if_pos rfl, r_holds1, bn_s, if_pos rfl]
