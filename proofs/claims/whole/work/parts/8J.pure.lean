-- ===== 8J: the law's loop =====
theorem law_step {L : Nat} {xs : Nat → Int32} {n j B : Nat} (hL : L ≤ 2048) (hj : j + 3 < L) (hB : B + 71280 < 2147483648) (K : LAWK L xs n (j + 4) (B + 71280)) : LAWK L xs (n + 1) j B := by
  intro O_row X_characters X_length X_place X_operation X_address X_number X_outcomes R_kinds R_targets R_outcomes R_lengths R_outcomeCounts R_counters R_next M_pendingSize M_time M_fetches M_executed M_thrownAway M_mispredictions M_executedFromLines M_fetchesFromLines L_row C_addresses C_sizes C_useNumbers C_lastUse C_put C_replaced C_dropped P_kinds P_targets P_outcomes P_lengths P_outcomeCounts P_counters P_next F_addresses F_predictions F_size F_place F_executed F_mispredictions H_saved H_oldest H_size S_thrown S_s S_aside S_saved S_savedMany S_text S_length S_fetched S_predicted S_fetchedMany S_fetchedWay S_spot S_isWrong S_executedByText hz hH hT
  by_cases c0 : xs j &&& 31 = 0
  · exact law_write hL hj hz hH hT hB c0 K
  by_cases c1 : xs j &&& 31 = 1
  · exact law_pattern hL hj hz hH hT hB c1 K
  by_cases c2 : xs j &&& 31 = 2
  · exact law_jump hL hj hz hH hT hB c2 K
  by_cases c3 : xs j &&& 31 = 3
  · exact law_run hL hj hz hH hT hB c3 K
  by_cases c4 : xs j &&& 31 = 4
  · exact law_flush hL hj hz hH hT hB c4 K
  by_cases c5 : xs j &&& 31 = 5
  · exact law_append hL hj hz hH hT hB c5 K
  by_cases c6 : xs j &&& 31 = 6
  · exact law_clear hL hj hz hH hT hB c6 K
  by_cases c7 : xs j &&& 31 = 7
  · exact law_error hL hj hz hH hT hB c7 K
  by_cases c8 : xs j &&& 31 = 8
  · exact law_runText hL hj hz hH hT hB c8 K
  by_cases c9 : xs j &&& 31 = 9
  · exact law_undo hL hj hz hH hT hB c9 K
  by_cases c10 : xs j &&& 31 = 10
  · exact law_instruction hL hj hz hH hT hB c10 K
  by_cases c11 : xs j &&& 31 = 11
  · exact law_counter hL hj hz hH hT hB c11 K
  by_cases c12 : xs j &&& 31 = 12
  · exact law_will hL hj hz hH hT hB c12 K
  by_cases c13 : xs j &&& 31 = 13
  · exact law_line hL hj hz hH hT hB c13 K
  by_cases c14 : xs j &&& 31 = 14
  · exact law_pending hL hj hz hH hT hB c14 K
  by_cases c15 : xs j &&& 31 = 15
  · exact law_lines hL hj hz hH hT hB c15 K
  by_cases c16 : xs j &&& 31 = 16
  · exact law_linesWith hL hj hz hH hT hB c16 K
  by_cases c17 : xs j &&& 31 = 17
  · exact law_nextf hL hj hz hH hT hB c17 K
  by_cases c18 : xs j &&& 31 = 18
  · exact law_would hL hj hz hH hT hB c18 K
  by_cases c19 : xs j &&& 31 = 19
  · exact law_count hL hj hz hH hT hB c19 K
  by_cases c20 : xs j &&& 31 = 20
  · exact law_rate hL hj hz hH hT hB c20 K
  by_cases c21 : xs j &&& 31 = 21
  · exact law_saved hL hj hz hH hT hB c21 K
  by_cases c22 : xs j &&& 31 = 22
  · exact law_length hL hj hz hH hT hB c22 K
  refine law_other hL hj hz hH hT hB (fun c hc => ?_) K
  rcases (show c = 0 ∨ c = 1 ∨ c = 2 ∨ c = 3 ∨ c = 4 ∨ c = 5 ∨ c = 6 ∨ c = 7 ∨ c = 8 ∨ c = 9 ∨ c = 10 ∨ c = 11 ∨ c = 12 ∨ c = 13 ∨ c = 14 ∨ c = 15 ∨ c = 16 ∨ c = 17 ∨ c = 18 ∨ c = 19 ∨ c = 20 ∨ c = 21 ∨ c = 22 by omega) with rfl | rfl | rfl | rfl | rfl | rfl | rfl | rfl | rfl | rfl | rfl | rfl | rfl | rfl | rfl | rfl | rfl | rfl | rfl | rfl | rfl | rfl | rfl
  · exact c0
  · exact c1
  · exact c2
  · exact c3
  · exact c4
  · exact c5
  · exact c6
  · exact c7
  · exact c8
  · exact c9
  · exact c10
  · exact c11
  · exact c12
  · exact c13
  · exact c14
  · exact c15
  · exact c16
  · exact c17
  · exact c18
  · exact c19
  · exact c20
  · exact c21
  · exact c22
theorem law_all {L : Nat} {xs : Nat → Int32} (hL : L ≤ 2048) : ∀ r i n B, L < 4 * i + 4 + 4 * r → i ≤ 600 → r < n → r ≤ 600 → B + 71280 * r < 2147483648 → LAWK L xs n (4 * i) B := by
  intro r
  induction r with
  | zero =>
    intro i n B h1 h2 h3 h4 h5 O_row X_characters X_length X_place X_operation X_address X_number X_outcomes R_kinds R_targets R_outcomes R_lengths R_outcomeCounts R_counters R_next M_pendingSize M_time M_fetches M_executed M_thrownAway M_mispredictions M_executedFromLines M_fetchesFromLines L_row C_addresses C_sizes C_useNumbers C_lastUse C_put C_replaced C_dropped P_kinds P_targets P_outcomes P_lengths P_outcomeCounts P_counters P_next F_addresses F_predictions F_size F_place F_executed F_mispredictions H_saved H_oldest H_size S_thrown S_s S_aside S_saved S_savedMany S_text S_length S_fetched S_predicted S_fetchedMany S_fetchedWay S_spot S_isWrong S_executedByText hz hH hT
    obtain ⟨n, rfl⟩ : ∃ z, n = z + 1 := ⟨n - 1, by omega⟩
    rw [m_L_law_23, if_pos (by rw [L4 hL (by omega)]; omega)]
  | succ r ih =>
    intro i n B h1 h2 h3 h4 h5
    rw [Nat.mul_succ, ← Nat.add_assoc] at h5
    generalize hK : 71280 * r = Q at *
    obtain ⟨n, rfl⟩ : ∃ z, n = z + 1 := ⟨n - 1, by omega⟩
    by_cases h : L < 4 * i + 4
    · intro O_row X_characters X_length X_place X_operation X_address X_number X_outcomes R_kinds R_targets R_outcomes R_lengths R_outcomeCounts R_counters R_next M_pendingSize M_time M_fetches M_executed M_thrownAway M_mispredictions M_executedFromLines M_fetchesFromLines L_row C_addresses C_sizes C_useNumbers C_lastUse C_put C_replaced C_dropped P_kinds P_targets P_outcomes P_lengths P_outcomeCounts P_counters P_next F_addresses F_predictions F_size F_place F_executed F_mispredictions H_saved H_oldest H_size S_thrown S_s S_aside S_saved S_savedMany S_text S_length S_fetched S_predicted S_fetchedMany S_fetchedWay S_spot S_isWrong S_executedByText hz hH hT
      rw [m_L_law_23, if_pos (by rw [L4 hL (by omega)]; omega)]
    · have := ih (i + 1) n (B + 71280) (by omega) (by omega) (by omega) (by omega) (by omega)
      exact law_step hL (by omega) (by omega) this
