set_option maxHeartbeats 8000000 in
set_option maxRecDepth 100000 in
theorem c_X4_copyFrom (l : Launch) (D : va_G) (cI cZ cII cJ cM : ClassId) (aP : Nat → Nat) (aP2 : Nat → Nat) (P_kinds : Nat → Int32) (P_targets : Nat → Int32) (P_outcomes : Nat → Int32) (P_lengths : Nat → Int32) (P_outcomeCounts : Nat → Int32) (P_counters : Nat → Int32) (P_next : Int32) (P2_kinds : Nat → Int32) (P2_targets : Nat → Int32) (P2_outcomes : Nat → Int32) (P2_lengths : Nat → Int32) (P2_outcomeCounts : Nat → Int32) (P2_counters : Nat → Int32) (P2_next : Int32) (sz : Nat) (y : (Nat → Int32) × (Nat → Int32) × (Nat → Int32) × (Nat → Int32) × (Nat → Int32) × (Nat → Int32) × (Int32)) (hf : m_X4_copyFrom P2_kinds P2_targets P2_outcomes P2_lengths P2_outcomeCounts P2_counters P2_next P_kinds P_targets P_outcomes P_lengths P_outcomeCounts P_counters P_next = some y) : Met l yX4_copyFrom wsX4_copyFrom ({ frames := 1, cells := 0, slots := 0, locals := 60 } : Room) (va_Pc [.ref (aP 0), .ref (aP2 0)] (pzPre D (zT cI cZ cII cJ cM) (wX4 cI cZ cII aP P_kinds P_targets P_outcomes P_lengths P_outcomeCounts P_counters P_next ++ (wX4 cI cZ cII aP2 P2_kinds P2_targets P2_outcomes P2_lengths P2_outcomeCounts P2_counters P2_next ++ [])) sz)) (va_Qv (fun (_ : Unit) => True) (fun _ t => pzB D (zT cI cZ cII cJ cM) (va_A (wX4 cI cZ cII aP P_kinds P_targets P_outcomes P_lengths P_outcomeCounts P_counters P_next ++ (wX4 cI cZ cII aP2 P2_kinds P2_targets P2_outcomes P2_lengths P2_outcomeCounts P2_counters P2_next ++ [])) sz) (wX4 cI cZ cII aP y.1 y.2.1 y.2.2.1 y.2.2.2.1 y.2.2.2.2.1 y.2.2.2.2.2.1 y.2.2.2.2.2.2 ++ (wX4 cI cZ cII aP2 P2_kinds P2_targets P2_outcomes P2_lengths P2_outcomeCounts P2_counters P2_next ++ [])) t) (va_A (wX4 cI cZ cII aP P_kinds P_targets P_outcomes P_lengths P_outcomeCounts P_counters P_next ++ (wX4 cI cZ cII aP2 P2_kinds P2_targets P2_outcomes P2_lengths P2_outcomeCounts P2_counters P2_next ++ [])) sz)) 0 0 (va_A (wX4 cI cZ cII aP P_kinds P_targets P_outcomes P_lengths P_outcomeCounts P_counters P_next ++ (wX4 cI cZ cII aP2 P2_kinds P2_targets P2_outcomes P2_lengths P2_outcomeCounts P2_counters P2_next ++ [])) sz) := by
  refine z_metv (cc := cX4_copyFrom) (maxL := 2) (by decide) rfl (Nat.le_of_ble_eq_true rfl) ?_
  intro p e s m args below meth c A ls Q H locs F hP hD hS hl hret
  obtain ⟨hx, hb, hml, hown, hts, hN, hK, hA⟩ := F
  have hown : s.vm.findClass RX4 = some m.cls := hown
  have hl : lv_has ls 2 [(0, .ref (aP 0)), (1, .ref (aP2 0))] := hl
  have inX4 : ∀ w ∈ u_ws RX4 TX4 7, w ∈ wsX4_copyFrom := by decide +kernel
  have kX4_9 := hts (.fieldLink RX4 9 "TraceCache$Program" "kinds" "[I") (by decide +kernel)
  have kX4_15 := hts (.fieldLink RX4 15 "TraceCache$Program" "targets" "[I") (by decide +kernel)
  have kX4_18 := hts (.fieldLink RX4 18 "TraceCache$Program" "outcomes" "[I") (by decide +kernel)
  have kX4_21 := hts (.fieldLink RX4 21 "TraceCache$Program" "lengths" "[I") (by decide +kernel)
  have kX4_24 := hts (.fieldLink RX4 24 "TraceCache$Program" "outcomeCounts" "[I") (by decide +kernel)
  have kX4_27 := hts (.fieldLink RX4 27 "TraceCache$Program" "counters" "[I") (by decide +kernel)
  have kX4_36 := hts (.fieldLink RX4 36 "TraceCache$Program" "next" "I") (by decide +kernel)
  unfold m_X4_copyFrom at hf
  refine lv_aload_n hx hb dX4_copyFrom_0 rfl (lv_at hl 1 rfl) ?_
  refine va_get (D := D) (ci := 4) (v := .ref (aP2 1)) (C := RX4) (T := TX4) (N := 7) hx hb hts inX4 hown hK hP 7 rfl rfl 0 (by decide) kX4_9 (fun _ h9 => h9) rfl dX4_copyFrom_1 ?_
  refine lv_iconst (v := 0) hx hb dX4_copyFrom_4 (by decide) ?_
  refine lv_aload_n hx hb dX4_copyFrom_5 rfl (lv_at hl 0 rfl) ?_
  refine va_get (D := D) (ci := 4) (v := .ref (aP 1)) (C := RX4) (T := TX4) (N := 7) hx hb hts inX4 hown hK hP 0 rfl rfl 0 (by decide) kX4_9 (fun _ h9 => h9) rfl dX4_copyFrom_6 ?_
  refine lv_iconst (v := 0) hx hb dX4_copyFrom_9 (by decide) ?_
  refine lv_bipush (v := 48) hx hb dX4_copyFrom_10 (by decide) ?_
  obtain ⟨g12, hf⟩ := gd_t hf
  obtain ⟨g121, g122, g123, g124, g125⟩ := cpb_t g12
  refine va_copyi hx hb (hml.trans hl.1.symm) hown (hts (.methodLink RX4 30 arraycopyName) (by decide +kernel)) (hts (.native arraycopyName) (by decide +kernel)) (hts (.static arraycopyName) (by decide +kernel)) (hts (.initialized "java/lang/System") (by decide +kernel)) hK hP hD hS 8 1 0 0 rfl rfl rfl rfl rfl g121 g122 g123 g124 g125 (fun _ _ => rfl) (Nat.le_of_ble_eq_true rfl) (Nat.le_of_ble_eq_true rfl) dX4_copyFrom_12 (fun H locs hP hD hS => ?_)
  obtain ⟨P_kinds_12, eP_kinds_12⟩ : ∃ z : Nat → Int32, z = va_cpy P2_kinds P_kinds (Int32.toNatClampNeg (0 : Int32)) (Int32.toNatClampNeg (0 : Int32)) (Int32.toNatClampNeg (48 : Int32)) := ⟨_, rfl⟩
  have hf := bd_t eP_kinds_12 hf
  have hP : va_P D vwCl (wX4 cI cZ cII aP P_kinds_12 P_targets P_outcomes P_lengths P_outcomeCounts P_counters P_next ++ (wX4 cI cZ cII aP2 P2_kinds P2_targets P2_outcomes P2_lengths P2_outcomeCounts P2_counters P2_next ++ [])) H := by rw [eP_kinds_12]; exact hP
  have hD : va_D A (wX4 cI cZ cII aP P_kinds_12 P_targets P_outcomes P_lengths P_outcomeCounts P_counters P_next ++ (wX4 cI cZ cII aP2 P2_kinds P2_targets P2_outcomes P2_lengths P2_outcomeCounts P2_counters P2_next ++ [])) := by rw [eP_kinds_12]; exact hD
  refine lv_aload_n hx hb dX4_copyFrom_15 rfl (lv_at hl 1 rfl) ?_
  refine va_get (D := D) (ci := 4) (v := .ref (aP2 2)) (C := RX4) (T := TX4) (N := 7) hx hb hts inX4 hown hK hP 7 rfl rfl 1 (by decide) kX4_15 (fun _ h9 => h9) rfl dX4_copyFrom_16 ?_
  refine lv_iconst (v := 0) hx hb dX4_copyFrom_19 (by decide) ?_
  refine lv_aload_n hx hb dX4_copyFrom_20 rfl (lv_at hl 0 rfl) ?_
  refine va_get (D := D) (ci := 4) (v := .ref (aP 2)) (C := RX4) (T := TX4) (N := 7) hx hb hts inX4 hown hK hP 0 rfl rfl 1 (by decide) kX4_15 (fun _ h9 => h9) rfl dX4_copyFrom_21 ?_
  refine lv_iconst (v := 0) hx hb dX4_copyFrom_24 (by decide) ?_
  refine lv_bipush (v := 48) hx hb dX4_copyFrom_25 (by decide) ?_
  obtain ⟨g27, hf⟩ := gd_t hf
  obtain ⟨g271, g272, g273, g274, g275⟩ := cpb_t g27
  refine va_copyi hx hb (hml.trans hl.1.symm) hown (hts (.methodLink RX4 30 arraycopyName) (by decide +kernel)) (hts (.native arraycopyName) (by decide +kernel)) (hts (.static arraycopyName) (by decide +kernel)) (hts (.initialized "java/lang/System") (by decide +kernel)) hK hP hD hS 9 2 0 0 rfl rfl rfl rfl rfl g271 g272 g273 g274 g275 (fun _ _ => rfl) (Nat.le_of_ble_eq_true rfl) (Nat.le_of_ble_eq_true rfl) dX4_copyFrom_27 (fun H locs hP hD hS => ?_)
  obtain ⟨P_targets_27, eP_targets_27⟩ : ∃ z : Nat → Int32, z = va_cpy P2_targets P_targets (Int32.toNatClampNeg (0 : Int32)) (Int32.toNatClampNeg (0 : Int32)) (Int32.toNatClampNeg (48 : Int32)) := ⟨_, rfl⟩
  have hf := bd_t eP_targets_27 hf
  have hP : va_P D vwCl (wX4 cI cZ cII aP P_kinds_12 P_targets_27 P_outcomes P_lengths P_outcomeCounts P_counters P_next ++ (wX4 cI cZ cII aP2 P2_kinds P2_targets P2_outcomes P2_lengths P2_outcomeCounts P2_counters P2_next ++ [])) H := by rw [eP_targets_27]; exact hP
  have hD : va_D A (wX4 cI cZ cII aP P_kinds_12 P_targets_27 P_outcomes P_lengths P_outcomeCounts P_counters P_next ++ (wX4 cI cZ cII aP2 P2_kinds P2_targets P2_outcomes P2_lengths P2_outcomeCounts P2_counters P2_next ++ [])) := by rw [eP_targets_27]; exact hD
  refine lv_aload_n hx hb dX4_copyFrom_30 rfl (lv_at hl 1 rfl) ?_
  refine va_get (D := D) (ci := 4) (v := .ref (aP2 3)) (C := RX4) (T := TX4) (N := 7) hx hb hts inX4 hown hK hP 7 rfl rfl 2 (by decide) kX4_18 (fun _ h9 => h9) rfl dX4_copyFrom_31 ?_
  refine lv_iconst (v := 0) hx hb dX4_copyFrom_34 (by decide) ?_
  refine lv_aload_n hx hb dX4_copyFrom_35 rfl (lv_at hl 0 rfl) ?_
  refine va_get (D := D) (ci := 4) (v := .ref (aP 3)) (C := RX4) (T := TX4) (N := 7) hx hb hts inX4 hown hK hP 0 rfl rfl 2 (by decide) kX4_18 (fun _ h9 => h9) rfl dX4_copyFrom_36 ?_
  refine lv_iconst (v := 0) hx hb dX4_copyFrom_39 (by decide) ?_
  refine lv_bipush (v := 48) hx hb dX4_copyFrom_40 (by decide) ?_
  obtain ⟨g42, hf⟩ := gd_t hf
  obtain ⟨g421, g422, g423, g424, g425⟩ := cpb_t g42
  refine va_copyi hx hb (hml.trans hl.1.symm) hown (hts (.methodLink RX4 30 arraycopyName) (by decide +kernel)) (hts (.native arraycopyName) (by decide +kernel)) (hts (.static arraycopyName) (by decide +kernel)) (hts (.initialized "java/lang/System") (by decide +kernel)) hK hP hD hS 10 3 0 0 rfl rfl rfl rfl rfl g421 g422 g423 g424 g425 (fun _ _ => rfl) (Nat.le_of_ble_eq_true rfl) (Nat.le_of_ble_eq_true rfl) dX4_copyFrom_42 (fun H locs hP hD hS => ?_)
  obtain ⟨P_outcomes_42, eP_outcomes_42⟩ : ∃ z : Nat → Int32, z = va_cpy P2_outcomes P_outcomes (Int32.toNatClampNeg (0 : Int32)) (Int32.toNatClampNeg (0 : Int32)) (Int32.toNatClampNeg (48 : Int32)) := ⟨_, rfl⟩
  have hf := bd_t eP_outcomes_42 hf
  have hP : va_P D vwCl (wX4 cI cZ cII aP P_kinds_12 P_targets_27 P_outcomes_42 P_lengths P_outcomeCounts P_counters P_next ++ (wX4 cI cZ cII aP2 P2_kinds P2_targets P2_outcomes P2_lengths P2_outcomeCounts P2_counters P2_next ++ [])) H := by rw [eP_outcomes_42]; exact hP
  have hD : va_D A (wX4 cI cZ cII aP P_kinds_12 P_targets_27 P_outcomes_42 P_lengths P_outcomeCounts P_counters P_next ++ (wX4 cI cZ cII aP2 P2_kinds P2_targets P2_outcomes P2_lengths P2_outcomeCounts P2_counters P2_next ++ [])) := by rw [eP_outcomes_42]; exact hD
  refine lv_aload_n hx hb dX4_copyFrom_45 rfl (lv_at hl 1 rfl) ?_
  refine va_get (D := D) (ci := 4) (v := .ref (aP2 4)) (C := RX4) (T := TX4) (N := 7) hx hb hts inX4 hown hK hP 7 rfl rfl 3 (by decide) kX4_21 (fun _ h9 => h9) rfl dX4_copyFrom_46 ?_
  refine lv_iconst (v := 0) hx hb dX4_copyFrom_49 (by decide) ?_
  refine lv_aload_n hx hb dX4_copyFrom_50 rfl (lv_at hl 0 rfl) ?_
  refine va_get (D := D) (ci := 4) (v := .ref (aP 4)) (C := RX4) (T := TX4) (N := 7) hx hb hts inX4 hown hK hP 0 rfl rfl 3 (by decide) kX4_21 (fun _ h9 => h9) rfl dX4_copyFrom_51 ?_
  refine lv_iconst (v := 0) hx hb dX4_copyFrom_54 (by decide) ?_
  refine lv_bipush (v := 48) hx hb dX4_copyFrom_55 (by decide) ?_
  obtain ⟨g57, hf⟩ := gd_t hf
  obtain ⟨g571, g572, g573, g574, g575⟩ := cpb_t g57
  refine va_copyi hx hb (hml.trans hl.1.symm) hown (hts (.methodLink RX4 30 arraycopyName) (by decide +kernel)) (hts (.native arraycopyName) (by decide +kernel)) (hts (.static arraycopyName) (by decide +kernel)) (hts (.initialized "java/lang/System") (by decide +kernel)) hK hP hD hS 11 4 0 0 rfl rfl rfl rfl rfl g571 g572 g573 g574 g575 (fun _ _ => rfl) (Nat.le_of_ble_eq_true rfl) (Nat.le_of_ble_eq_true rfl) dX4_copyFrom_57 (fun H locs hP hD hS => ?_)
  obtain ⟨P_lengths_57, eP_lengths_57⟩ : ∃ z : Nat → Int32, z = va_cpy P2_lengths P_lengths (Int32.toNatClampNeg (0 : Int32)) (Int32.toNatClampNeg (0 : Int32)) (Int32.toNatClampNeg (48 : Int32)) := ⟨_, rfl⟩
  have hf := bd_t eP_lengths_57 hf
  have hP : va_P D vwCl (wX4 cI cZ cII aP P_kinds_12 P_targets_27 P_outcomes_42 P_lengths_57 P_outcomeCounts P_counters P_next ++ (wX4 cI cZ cII aP2 P2_kinds P2_targets P2_outcomes P2_lengths P2_outcomeCounts P2_counters P2_next ++ [])) H := by rw [eP_lengths_57]; exact hP
  have hD : va_D A (wX4 cI cZ cII aP P_kinds_12 P_targets_27 P_outcomes_42 P_lengths_57 P_outcomeCounts P_counters P_next ++ (wX4 cI cZ cII aP2 P2_kinds P2_targets P2_outcomes P2_lengths P2_outcomeCounts P2_counters P2_next ++ [])) := by rw [eP_lengths_57]; exact hD
  refine lv_aload_n hx hb dX4_copyFrom_60 rfl (lv_at hl 1 rfl) ?_
  refine va_get (D := D) (ci := 4) (v := .ref (aP2 5)) (C := RX4) (T := TX4) (N := 7) hx hb hts inX4 hown hK hP 7 rfl rfl 4 (by decide) kX4_24 (fun _ h9 => h9) rfl dX4_copyFrom_61 ?_
  refine lv_iconst (v := 0) hx hb dX4_copyFrom_64 (by decide) ?_
  refine lv_aload_n hx hb dX4_copyFrom_65 rfl (lv_at hl 0 rfl) ?_
  refine va_get (D := D) (ci := 4) (v := .ref (aP 5)) (C := RX4) (T := TX4) (N := 7) hx hb hts inX4 hown hK hP 0 rfl rfl 4 (by decide) kX4_24 (fun _ h9 => h9) rfl dX4_copyFrom_66 ?_
  refine lv_iconst (v := 0) hx hb dX4_copyFrom_69 (by decide) ?_
  refine lv_bipush (v := 48) hx hb dX4_copyFrom_70 (by decide) ?_
  obtain ⟨g72, hf⟩ := gd_t hf
  obtain ⟨g721, g722, g723, g724, g725⟩ := cpb_t g72
  refine va_copyi hx hb (hml.trans hl.1.symm) hown (hts (.methodLink RX4 30 arraycopyName) (by decide +kernel)) (hts (.native arraycopyName) (by decide +kernel)) (hts (.static arraycopyName) (by decide +kernel)) (hts (.initialized "java/lang/System") (by decide +kernel)) hK hP hD hS 12 5 0 0 rfl rfl rfl rfl rfl g721 g722 g723 g724 g725 (fun _ _ => rfl) (Nat.le_of_ble_eq_true rfl) (Nat.le_of_ble_eq_true rfl) dX4_copyFrom_72 (fun H locs hP hD hS => ?_)
  obtain ⟨P_outcomeCounts_72, eP_outcomeCounts_72⟩ : ∃ z : Nat → Int32, z = va_cpy P2_outcomeCounts P_outcomeCounts (Int32.toNatClampNeg (0 : Int32)) (Int32.toNatClampNeg (0 : Int32)) (Int32.toNatClampNeg (48 : Int32)) := ⟨_, rfl⟩
  have hf := bd_t eP_outcomeCounts_72 hf
  have hP : va_P D vwCl (wX4 cI cZ cII aP P_kinds_12 P_targets_27 P_outcomes_42 P_lengths_57 P_outcomeCounts_72 P_counters P_next ++ (wX4 cI cZ cII aP2 P2_kinds P2_targets P2_outcomes P2_lengths P2_outcomeCounts P2_counters P2_next ++ [])) H := by rw [eP_outcomeCounts_72]; exact hP
  have hD : va_D A (wX4 cI cZ cII aP P_kinds_12 P_targets_27 P_outcomes_42 P_lengths_57 P_outcomeCounts_72 P_counters P_next ++ (wX4 cI cZ cII aP2 P2_kinds P2_targets P2_outcomes P2_lengths P2_outcomeCounts P2_counters P2_next ++ [])) := by rw [eP_outcomeCounts_72]; exact hD
  refine lv_aload_n hx hb dX4_copyFrom_75 rfl (lv_at hl 1 rfl) ?_
  refine va_get (D := D) (ci := 4) (v := .ref (aP2 6)) (C := RX4) (T := TX4) (N := 7) hx hb hts inX4 hown hK hP 7 rfl rfl 5 (by decide) kX4_27 (fun _ h9 => h9) rfl dX4_copyFrom_76 ?_
  refine lv_iconst (v := 0) hx hb dX4_copyFrom_79 (by decide) ?_
  refine lv_aload_n hx hb dX4_copyFrom_80 rfl (lv_at hl 0 rfl) ?_
  refine va_get (D := D) (ci := 4) (v := .ref (aP 6)) (C := RX4) (T := TX4) (N := 7) hx hb hts inX4 hown hK hP 0 rfl rfl 5 (by decide) kX4_27 (fun _ h9 => h9) rfl dX4_copyFrom_81 ?_
  refine lv_iconst (v := 0) hx hb dX4_copyFrom_84 (by decide) ?_
  refine lv_bipush (v := 48) hx hb dX4_copyFrom_85 (by decide) ?_
  obtain ⟨g87, hf⟩ := gd_t hf
  obtain ⟨g871, g872, g873, g874, g875⟩ := cpb_t g87
  refine va_copyi hx hb (hml.trans hl.1.symm) hown (hts (.methodLink RX4 30 arraycopyName) (by decide +kernel)) (hts (.native arraycopyName) (by decide +kernel)) (hts (.static arraycopyName) (by decide +kernel)) (hts (.initialized "java/lang/System") (by decide +kernel)) hK hP hD hS 13 6 0 0 rfl rfl rfl rfl rfl g871 g872 g873 g874 g875 (fun _ _ => rfl) (Nat.le_of_ble_eq_true rfl) (Nat.le_of_ble_eq_true rfl) dX4_copyFrom_87 (fun H locs hP hD hS => ?_)
  obtain ⟨P_counters_87, eP_counters_87⟩ : ∃ z : Nat → Int32, z = va_cpy P2_counters P_counters (Int32.toNatClampNeg (0 : Int32)) (Int32.toNatClampNeg (0 : Int32)) (Int32.toNatClampNeg (48 : Int32)) := ⟨_, rfl⟩
  have hf := bd_t eP_counters_87 hf
  have hP : va_P D vwCl (wX4 cI cZ cII aP P_kinds_12 P_targets_27 P_outcomes_42 P_lengths_57 P_outcomeCounts_72 P_counters_87 P_next ++ (wX4 cI cZ cII aP2 P2_kinds P2_targets P2_outcomes P2_lengths P2_outcomeCounts P2_counters P2_next ++ [])) H := by rw [eP_counters_87]; exact hP
  have hD : va_D A (wX4 cI cZ cII aP P_kinds_12 P_targets_27 P_outcomes_42 P_lengths_57 P_outcomeCounts_72 P_counters_87 P_next ++ (wX4 cI cZ cII aP2 P2_kinds P2_targets P2_outcomes P2_lengths P2_outcomeCounts P2_counters P2_next ++ [])) := by rw [eP_counters_87]; exact hD
  refine lv_aload_n hx hb dX4_copyFrom_90 rfl (lv_at hl 0 rfl) ?_
  refine lv_aload_n hx hb dX4_copyFrom_91 rfl (lv_at hl 1 rfl) ?_
  refine va_get (D := D) (ci := 4) (v := .int P2_next) (C := RX4) (T := TX4) (N := 7) hx hb hts inX4 hown hK hP 7 rfl rfl 6 (by decide) kX4_36 (fun _ h9 => h9) rfl dX4_copyFrom_92 ?_
  refine va_put (D := D) (ci := 4) (v := .int P2_next) (ty := .int) (C := RX4) (T := TX4) (N := 7) hx hb hts inX4 tyX4 tyX4_ok nmX4 hown hK hP hD hS 0 rfl rfl 6 (by decide) kX4_36 (fun _ h9 => h9) rfl (by decide +kernel) rfl rfl (Nat.le_of_ble_eq_true rfl) dX4_copyFrom_95 (fun H locs hP hD hS => ?_)
  have hP : va_P D vwCl (wX4 cI cZ cII aP P_kinds_12 P_targets_27 P_outcomes_42 P_lengths_57 P_outcomeCounts_72 P_counters_87 P2_next ++ (wX4 cI cZ cII aP2 P2_kinds P2_targets P2_outcomes P2_lengths P2_outcomeCounts P2_counters P2_next ++ [])) H := hP
  have hD : va_D A (wX4 cI cZ cII aP P_kinds_12 P_targets_27 P_outcomes_42 P_lengths_57 P_outcomeCounts_72 P_counters_87 P2_next ++ (wX4 cI cZ cII aP2 P2_kinds P2_targets P2_outcomes P2_lengths P2_outcomeCounts P2_counters P2_next ++ [])) := hD
  obtain rfl := Option.some.inj hf
  exact hret _ _ _ _ dX4_copyFrom_98 hP hD hS
set_option maxHeartbeats 8000000 in
set_option maxRecDepth 100000 in
theorem c_X4_replacePattern (l : Launch) (D : va_G) (cI cZ cII cJ cM : ClassId) (aP : Nat → Nat) (P_kinds : Nat → Int32) (P_targets : Nat → Int32) (P_outcomes : Nat → Int32) (P_lengths : Nat → Int32) (P_outcomeCounts : Nat → Int32) (P_counters : Nat → Int32) (P_next : Int32) (x1 : Int32) (x2 : Int32) (x3 : Int32) (sz : Nat) (y : (Int32) × (Nat → Int32) × (Nat → Int32) × (Nat → Int32)) (hf : m_X4_replacePattern P_outcomes P_lengths P_outcomeCounts x1 x2 x3 = some y) : Met l yX4_replacePattern wsX4_replacePattern ({ frames := 0, cells := 0, slots := 0, locals := 0 } : Room) (va_Pc [.ref (aP 0), .int x1, .int x2, .int x3] (pzPre D (zT cI cZ cII cJ cM) (wX4 cI cZ cII aP P_kinds P_targets P_outcomes P_lengths P_outcomeCounts P_counters P_next ++ []) sz)) (va_Qi (fun v (_ : Unit) => v = y.1) (fun _ t => pzB D (zT cI cZ cII cJ cM) (va_A (wX4 cI cZ cII aP P_kinds P_targets P_outcomes P_lengths P_outcomeCounts P_counters P_next ++ []) sz) (wX4 cI cZ cII aP P_kinds P_targets y.2.1 y.2.2.1 y.2.2.2 P_counters P_next ++ []) t) (va_A (wX4 cI cZ cII aP P_kinds P_targets P_outcomes P_lengths P_outcomeCounts P_counters P_next ++ []) sz)) 0 0 (va_A (wX4 cI cZ cII aP P_kinds P_targets P_outcomes P_lengths P_outcomeCounts P_counters P_next ++ []) sz) := by
  refine z_meti (cc := cX4_replacePattern) (maxL := 5) (by decide) rfl (Nat.le_of_ble_eq_true rfl) ?_
  intro p e s m args below meth c A ls Q H locs F hP hD hS hl hret
  obtain ⟨hx, hb, hml, hown, hts, hN, hK, hA⟩ := F
  have hown : s.vm.findClass RX4 = some m.cls := hown
  have hl : lv_has ls 5 [(0, .ref (aP 0)), (1, .int x1), (2, .int x2), (3, .int x3)] := hl
  have inX4 : ∀ w ∈ u_ws RX4 TX4 7, w ∈ wsX4_replacePattern := by decide +kernel
  have kX4_18 := hts (.fieldLink RX4 18 "TraceCache$Program" "outcomes" "[I") (by decide +kernel)
  have kX4_21 := hts (.fieldLink RX4 21 "TraceCache$Program" "lengths" "[I") (by decide +kernel)
  have kX4_24 := hts (.fieldLink RX4 24 "TraceCache$Program" "outcomeCounts" "[I") (by decide +kernel)
  unfold m_X4_replacePattern at hf
  refine lv_aload_n hx hb dX4_replacePattern_0 rfl (lv_at hl 0 rfl) ?_
  refine va_get (D := D) (ci := 4) (v := .ref (aP 5)) (C := RX4) (T := TX4) (N := 7) hx hb hts inX4 hown hK hP 0 rfl rfl 4 (by decide) kX4_24 (fun _ h9 => h9) rfl dX4_replacePattern_1 ?_
  refine lv_iload_n hx hb dX4_replacePattern_4 rfl (lv_at hl 1 rfl) ?_
  obtain ⟨g5, hf⟩ := gd_t hf
  refine va_iald hx hb hK hP 5 0 rfl rfl (inb_t g5) dX4_replacePattern_5 ?_
  refine lv_topi (fun v6 ev6 => ?_)
  have hf := bd_t ev6 hf
  refine lv_istore (lv' := [(4, .int v6), (0, .ref (aP 0)), (1, .int x1), (2, .int x2), (3, .int x3)]) hx hb dX4_replacePattern_6 hl (by decide) rfl (fun ls hl => ?_)
  refine lv_aload_n hx hb dX4_replacePattern_8 rfl (lv_at hl 1 rfl) ?_
  refine va_get (D := D) (ci := 4) (v := .ref (aP 3)) (C := RX4) (T := TX4) (N := 7) hx hb hts inX4 hown hK hP 0 rfl rfl 2 (by decide) kX4_18 (fun _ h9 => h9) rfl dX4_replacePattern_9 ?_
  refine lv_iload_n hx hb dX4_replacePattern_12 rfl (lv_at hl 2 rfl) ?_
  refine lv_iload_n hx hb dX4_replacePattern_13 rfl (lv_at hl 3 rfl) ?_
  obtain ⟨g14, hf⟩ := gd_t hf
  refine va_iast hx hb hK hP hD hS 3 0 rfl rfl (inb_t g14) dX4_replacePattern_14 (fun H locs hP hD hS => ?_)
  obtain ⟨P_outcomes_14, eP_outcomes_14⟩ : ∃ z : Nat → Int32, z = upd P_outcomes (Int32.toNatClampNeg x1) x2 := ⟨_, rfl⟩
  have hf := bd_t eP_outcomes_14 hf
  have hP : va_P D vwCl (wX4 cI cZ cII aP P_kinds P_targets P_outcomes_14 P_lengths P_outcomeCounts P_counters P_next ++ []) H := by rw [eP_outcomes_14]; exact hP
  have hD : va_D A (wX4 cI cZ cII aP P_kinds P_targets P_outcomes_14 P_lengths P_outcomeCounts P_counters P_next ++ []) := by rw [eP_outcomes_14]; exact hD
  refine lv_aload_n hx hb dX4_replacePattern_15 rfl (lv_at hl 1 rfl) ?_
  refine va_get (D := D) (ci := 4) (v := .ref (aP 4)) (C := RX4) (T := TX4) (N := 7) hx hb hts inX4 hown hK hP 0 rfl rfl 3 (by decide) kX4_21 (fun _ h9 => h9) rfl dX4_replacePattern_16 ?_
  refine lv_iload_n hx hb dX4_replacePattern_19 rfl (lv_at hl 2 rfl) ?_
  refine lv_iload_n hx hb dX4_replacePattern_20 rfl (lv_at hl 4 rfl) ?_
  obtain ⟨g21, hf⟩ := gd_t hf
  refine va_iast hx hb hK hP hD hS 4 0 rfl rfl (inb_t g21) dX4_replacePattern_21 (fun H locs hP hD hS => ?_)
  obtain ⟨P_lengths_21, eP_lengths_21⟩ : ∃ z : Nat → Int32, z = upd P_lengths (Int32.toNatClampNeg x1) x3 := ⟨_, rfl⟩
  have hf := bd_t eP_lengths_21 hf
  have hP : va_P D vwCl (wX4 cI cZ cII aP P_kinds P_targets P_outcomes_14 P_lengths_21 P_outcomeCounts P_counters P_next ++ []) H := by rw [eP_lengths_21]; exact hP
  have hD : va_D A (wX4 cI cZ cII aP P_kinds P_targets P_outcomes_14 P_lengths_21 P_outcomeCounts P_counters P_next ++ []) := by rw [eP_lengths_21]; exact hD
  refine lv_aload_n hx hb dX4_replacePattern_22 rfl (lv_at hl 1 rfl) ?_
  refine va_get (D := D) (ci := 4) (v := .ref (aP 5)) (C := RX4) (T := TX4) (N := 7) hx hb hts inX4 hown hK hP 0 rfl rfl 4 (by decide) kX4_24 (fun _ h9 => h9) rfl dX4_replacePattern_23 ?_
  refine lv_iload_n hx hb dX4_replacePattern_26 rfl (lv_at hl 2 rfl) ?_
  refine lv_iconst (v := 0) hx hb dX4_replacePattern_27 (by decide) ?_
  obtain ⟨g28, hf⟩ := gd_t hf
  refine va_iast hx hb hK hP hD hS 5 0 rfl rfl (inb_t g28) dX4_replacePattern_28 (fun H locs hP hD hS => ?_)
  obtain ⟨P_outcomeCounts_28, eP_outcomeCounts_28⟩ : ∃ z : Nat → Int32, z = upd P_outcomeCounts (Int32.toNatClampNeg x1) (0 : Int32) := ⟨_, rfl⟩
  have hf := bd_t eP_outcomeCounts_28 hf
  have hP : va_P D vwCl (wX4 cI cZ cII aP P_kinds P_targets P_outcomes_14 P_lengths_21 P_outcomeCounts_28 P_counters P_next ++ []) H := by rw [eP_outcomeCounts_28]; exact hP
  have hD : va_D A (wX4 cI cZ cII aP P_kinds P_targets P_outcomes_14 P_lengths_21 P_outcomeCounts_28 P_counters P_next ++ []) := by rw [eP_outcomeCounts_28]; exact hD
  refine lv_iload hx hb dX4_replacePattern_29 (lv_at hl 0 rfl) ?_
  obtain rfl := Option.some.inj hf
  exact hret _ _ _ _ _ dX4_replacePattern_31 rfl hP hD hS
set_option maxHeartbeats 8000000 in
set_option maxRecDepth 100000 in
theorem c_X4_predictsTaken (l : Launch) (D : va_G) (cI cZ cII cJ cM : ClassId) (aP : Nat → Nat) (P_kinds : Nat → Int32) (P_targets : Nat → Int32) (P_outcomes : Nat → Int32) (P_lengths : Nat → Int32) (P_outcomeCounts : Nat → Int32) (P_counters : Nat → Int32) (P_next : Int32) (x1 : Int32) (sz : Nat) (y : (Int32)) (hf : m_X4_predictsTaken P_kinds P_counters x1 = some y) : Met l yX4_predictsTaken wsX4_predictsTaken ({ frames := 0, cells := 0, slots := 0, locals := 0 } : Room) (va_Pc [.ref (aP 0), .int x1] (pzPre D (zT cI cZ cII cJ cM) (wX4 cI cZ cII aP P_kinds P_targets P_outcomes P_lengths P_outcomeCounts P_counters P_next ++ []) sz)) (va_Qi (fun v (_ : Unit) => v = y) (fun _ t => pzB D (zT cI cZ cII cJ cM) (va_A (wX4 cI cZ cII aP P_kinds P_targets P_outcomes P_lengths P_outcomeCounts P_counters P_next ++ []) sz) (wX4 cI cZ cII aP P_kinds P_targets P_outcomes P_lengths P_outcomeCounts P_counters P_next ++ []) t) (va_A (wX4 cI cZ cII aP P_kinds P_targets P_outcomes P_lengths P_outcomeCounts P_counters P_next ++ []) sz)) 0 0 (va_A (wX4 cI cZ cII aP P_kinds P_targets P_outcomes P_lengths P_outcomeCounts P_counters P_next ++ []) sz) := by
  refine z_metz (cc := cX4_predictsTaken) (maxL := 2) (by decide) rfl (Nat.le_of_ble_eq_true rfl) ?_
  intro p e s m args below meth c A ls Q H locs F hP hD hS hl hret
  obtain ⟨hx, hb, hml, hown, hts, hN, hK, hA⟩ := F
  have hown : s.vm.findClass RX4 = some m.cls := hown
  have hl : lv_has ls 2 [(0, .ref (aP 0)), (1, .int x1)] := hl
  have inX4 : ∀ w ∈ u_ws RX4 TX4 7, w ∈ wsX4_predictsTaken := by decide +kernel
  have kX4_9 := hts (.fieldLink RX4 9 "TraceCache$Program" "kinds" "[I") (by decide +kernel)
  have kX4_27 := hts (.fieldLink RX4 27 "TraceCache$Program" "counters" "[I") (by decide +kernel)
  have J25 : ∀ (k0 : Int32) (H : Heap) (locs : List Loc) (ls : Array Slot), m_X4_predictsTaken_25 P_kinds P_counters x1 k0 = some y → va_P D vwCl (wX4 cI cZ cII aP P_kinds P_targets P_outcomes P_lengths P_outcomeCounts P_counters P_next ++ []) H → va_D A (wX4 cI cZ cII aP P_kinds P_targets P_outcomes P_lengths P_outcomeCounts P_counters P_next ++ []) → va_S A s.heap H locs → lv_has ls 2 [] → W p l e ({ frames := 0, cells := 0, slots := 0, locals := 0 } : Room) s m args below meth c H locs 0 0 Q (F0 m 25 ls [.int k0]) := by
    intro k0 H locs ls hf hP hD hS hl
    unfold m_X4_predictsTaken_25 at hf
    obtain ⟨g25, hf⟩ := gd_t hf
    obtain rfl := Option.some.inj hf
    exact hret _ _ _ _ _ dX4_predictsTaken_25 g25 rfl hP hD hS
  have J24 : ∀ (H : Heap) (locs : List Loc) (ls : Array Slot), m_X4_predictsTaken_24 P_kinds P_counters x1 = some y → va_P D vwCl (wX4 cI cZ cII aP P_kinds P_targets P_outcomes P_lengths P_outcomeCounts P_counters P_next ++ []) H → va_D A (wX4 cI cZ cII aP P_kinds P_targets P_outcomes P_lengths P_outcomeCounts P_counters P_next ++ []) → va_S A s.heap H locs → lv_has ls 2 [] → W p l e ({ frames := 0, cells := 0, slots := 0, locals := 0 } : Room) s m args below meth c H locs 0 0 Q (F0 m 24 ls []) := by
    intro  H locs ls hf hP hD hS hl
    unfold m_X4_predictsTaken_24 at hf
    refine lv_iconst (v := 0) hx hb dX4_predictsTaken_24 (by decide) ?_
    exact J25 (0 : Int32) _ _ _ hf hP hD hS (lv_sub hl [] rfl)
  unfold m_X4_predictsTaken at hf
  refine lv_aload_n hx hb dX4_predictsTaken_0 rfl (lv_at hl 0 rfl) ?_
  refine va_get (D := D) (ci := 4) (v := .ref (aP 1)) (C := RX4) (T := TX4) (N := 7) hx hb hts inX4 hown hK hP 0 rfl rfl 0 (by decide) kX4_9 (fun _ h9 => h9) rfl dX4_predictsTaken_1 ?_
  refine lv_iload_n hx hb dX4_predictsTaken_4 rfl (lv_at hl 1 rfl) ?_
  obtain ⟨g5, hf⟩ := gd_t hf
  refine va_iald hx hb hK hP 1 0 rfl rfl (inb_t g5) dX4_predictsTaken_5 ?_
  refine lv_iconst (v := 2) hx hb dX4_predictsTaken_6 (by decide) ?_
  refine lv_icmp_ne (tgt := 24) hx hb dX4_predictsTaken_7 (by decide) (fun c7 => ?_) (fun c7 => ?_)
  · have hf := if_f c7 hf
    exact J24  _ _ _ hf hP hD hS (lv_sub hl [] rfl)
  · have hf := if_t c7 hf
    refine lv_aload_n hx hb dX4_predictsTaken_10 rfl (lv_at hl 0 rfl) ?_
    refine va_get (D := D) (ci := 4) (v := .ref (aP 6)) (C := RX4) (T := TX4) (N := 7) hx hb hts inX4 hown hK hP 0 rfl rfl 5 (by decide) kX4_27 (fun _ h9 => h9) rfl dX4_predictsTaken_11 ?_
    refine lv_iload_n hx hb dX4_predictsTaken_14 rfl (lv_at hl 1 rfl) ?_
    obtain ⟨g15, hf⟩ := gd_t hf
    refine va_iald hx hb hK hP 6 0 rfl rfl (inb_t g15) dX4_predictsTaken_15 ?_
    refine lv_iconst (v := 2) hx hb dX4_predictsTaken_16 (by decide) ?_
    refine lv_icmp_lt (tgt := 24) hx hb dX4_predictsTaken_17 (by decide) (fun c17 => ?_) (fun c17 => ?_)
    · have hf := if_t c17 hf
      exact J24  _ _ _ hf hP hD hS (lv_sub hl [] rfl)
    · have hf := if_f c17 hf
      refine lv_iconst (v := 1) hx hb dX4_predictsTaken_20 (by decide) ?_
      refine lv_goto (tgt := 25) hx hb dX4_predictsTaken_21 (by decide) ?_
      exact J25 (1 : Int32) _ _ _ hf hP hD hS (lv_sub hl [] rfl)
set_option maxHeartbeats 8000000 in
set_option maxRecDepth 100000 in
theorem c_X4_successor (l : Launch) (D : va_G) (cI cZ cII cJ cM : ClassId) (aP : Nat → Nat) (P_kinds : Nat → Int32) (P_targets : Nat → Int32) (P_outcomes : Nat → Int32) (P_lengths : Nat → Int32) (P_outcomeCounts : Nat → Int32) (P_counters : Nat → Int32) (P_next : Int32) (x1 : Int32) (x2 : Int32) (sz : Nat) (y : (Int32)) (hf : m_X4_successor P_kinds P_targets x1 x2 = some y) : Met l yX4_successor wsX4_successor ({ frames := 0, cells := 0, slots := 0, locals := 0 } : Room) (va_Pc [.ref (aP 0), .int x1, .int x2] (pzPre D (zT cI cZ cII cJ cM) (wX4 cI cZ cII aP P_kinds P_targets P_outcomes P_lengths P_outcomeCounts P_counters P_next ++ []) sz)) (va_Qi (fun v (_ : Unit) => v = y) (fun _ t => pzB D (zT cI cZ cII cJ cM) (va_A (wX4 cI cZ cII aP P_kinds P_targets P_outcomes P_lengths P_outcomeCounts P_counters P_next ++ []) sz) (wX4 cI cZ cII aP P_kinds P_targets P_outcomes P_lengths P_outcomeCounts P_counters P_next ++ []) t) (va_A (wX4 cI cZ cII aP P_kinds P_targets P_outcomes P_lengths P_outcomeCounts P_counters P_next ++ []) sz)) 0 0 (va_A (wX4 cI cZ cII aP P_kinds P_targets P_outcomes P_lengths P_outcomeCounts P_counters P_next ++ []) sz) := by
  refine z_meti (cc := cX4_successor) (maxL := 5) (by decide) rfl (Nat.le_of_ble_eq_true rfl) ?_
  intro p e s m args below meth c A ls Q H locs F hP hD hS hl hret
  obtain ⟨hx, hb, hml, hown, hts, hN, hK, hA⟩ := F
  have hown : s.vm.findClass RX4 = some m.cls := hown
  have hl : lv_has ls 5 [(0, .ref (aP 0)), (1, .int x1), (2, .int x2)] := hl
  have inX4 : ∀ w ∈ u_ws RX4 TX4 7, w ∈ wsX4_successor := by decide +kernel
  have kX4_9 := hts (.fieldLink RX4 9 "TraceCache$Program" "kinds" "[I") (by decide +kernel)
  have kX4_15 := hts (.fieldLink RX4 15 "TraceCache$Program" "targets" "[I") (by decide +kernel)
  have J48 : ∀ (k0 : Int32) (H : Heap) (locs : List Loc) (ls : Array Slot), m_X4_successor_48 P_kinds P_targets x1 x2 k0 = some y → va_P D vwCl (wX4 cI cZ cII aP P_kinds P_targets P_outcomes P_lengths P_outcomeCounts P_counters P_next ++ []) H → va_D A (wX4 cI cZ cII aP P_kinds P_targets P_outcomes P_lengths P_outcomeCounts P_counters P_next ++ []) → va_S A s.heap H locs → lv_has ls 5 [] → W p l e ({ frames := 0, cells := 0, slots := 0, locals := 0 } : Room) s m args below meth c H locs 0 0 Q (F0 m 48 ls [.int k0]) := by
    intro k0 H locs ls hf hP hD hS hl
    unfold m_X4_successor_48 at hf
    obtain rfl := Option.some.inj hf
    exact hret _ _ _ _ _ dX4_successor_48 rfl hP hD hS
  have J26 : ∀ (k0 : Int32) (H : Heap) (locs : List Loc) (ls : Array Slot), m_X4_successor_26 P_kinds P_targets x1 x2 k0 = some y → va_P D vwCl (wX4 cI cZ cII aP P_kinds P_targets P_outcomes P_lengths P_outcomeCounts P_counters P_next ++ []) H → va_D A (wX4 cI cZ cII aP P_kinds P_targets P_outcomes P_lengths P_outcomeCounts P_counters P_next ++ []) → va_S A s.heap H locs → lv_has ls 5 [(0, .ref (aP 0)), (1, .int x1)] → W p l e ({ frames := 0, cells := 0, slots := 0, locals := 0 } : Room) s m args below meth c H locs 0 0 Q (F0 m 26 ls [.int k0]) := by
    intro k0 H locs ls hf hP hD hS hl
    unfold m_X4_successor_26 at hf
    refine lv_istore (lv' := [(4, .int k0), (0, .ref (aP 0)), (1, .int x1)]) hx hb dX4_successor_26 hl (by decide) rfl (fun ls hl => ?_)
    refine lv_iload hx hb dX4_successor_28 (lv_at hl 0 rfl) ?_
    refine lv_if_eq (tgt := 42) hx hb dX4_successor_30 (by decide) (fun c30 => ?_) (fun c30 => ?_)
    · have hf := if_t c30 hf
      refine lv_iload_n hx hb dX4_successor_42 rfl (lv_at hl 2 rfl) ?_
      refine lv_iconst (v := 1) hx hb dX4_successor_43 (by decide) ?_
      refine lv_iadd hx hb dX4_successor_44 ?_
      refine lv_bipush (v := 48) hx hb dX4_successor_45 (by decide) ?_
      refine lv_irem hx hb dX4_successor_47 (by decide) ?_
      exact J48 ((x1 + (1 : Int32)) - (x1 + (1 : Int32)) / (48 : Int32) * (48 : Int32)) _ _ _ hf hP hD hS (lv_sub hl [] rfl)
    · have hf := if_f c30 hf
      refine lv_aload_n hx hb dX4_successor_33 rfl (lv_at hl 1 rfl) ?_
      refine va_get (D := D) (ci := 4) (v := .ref (aP 2)) (C := RX4) (T := TX4) (N := 7) hx hb hts inX4 hown hK hP 0 rfl rfl 1 (by decide) kX4_15 (fun _ h9 => h9) rfl dX4_successor_34 ?_
      refine lv_iload_n hx hb dX4_successor_37 rfl (lv_at hl 2 rfl) ?_
      obtain ⟨g38, hf⟩ := gd_t hf
      refine va_iald hx hb hK hP 2 0 rfl rfl (inb_t g38) dX4_successor_38 ?_
      refine lv_goto (tgt := 48) hx hb dX4_successor_39 (by decide) ?_
      exact J48 (P_targets (Int32.toNatClampNeg x1)) _ _ _ hf hP hD hS (lv_sub hl [] rfl)
  have J21 : ∀ (H : Heap) (locs : List Loc) (ls : Array Slot), m_X4_successor_21 P_kinds P_targets x1 x2 = some y → va_P D vwCl (wX4 cI cZ cII aP P_kinds P_targets P_outcomes P_lengths P_outcomeCounts P_counters P_next ++ []) H → va_D A (wX4 cI cZ cII aP P_kinds P_targets P_outcomes P_lengths P_outcomeCounts P_counters P_next ++ []) → va_S A s.heap H locs → lv_has ls 5 [(0, .ref (aP 0)), (1, .int x1)] → W p l e ({ frames := 0, cells := 0, slots := 0, locals := 0 } : Room) s m args below meth c H locs 0 0 Q (F0 m 21 ls []) := by
    intro  H locs ls hf hP hD hS hl
    unfold m_X4_successor_21 at hf
    refine lv_iconst (v := 1) hx hb dX4_successor_21 (by decide) ?_
    refine lv_goto (tgt := 26) hx hb dX4_successor_22 (by decide) ?_
    exact J26 (1 : Int32) _ _ _ hf hP hD hS (lv_sub hl [0, 1] rfl)
  have J25 : ∀ (H : Heap) (locs : List Loc) (ls : Array Slot), m_X4_successor_25 P_kinds P_targets x1 x2 = some y → va_P D vwCl (wX4 cI cZ cII aP P_kinds P_targets P_outcomes P_lengths P_outcomeCounts P_counters P_next ++ []) H → va_D A (wX4 cI cZ cII aP P_kinds P_targets P_outcomes P_lengths P_outcomeCounts P_counters P_next ++ []) → va_S A s.heap H locs → lv_has ls 5 [(0, .ref (aP 0)), (1, .int x1)] → W p l e ({ frames := 0, cells := 0, slots := 0, locals := 0 } : Room) s m args below meth c H locs 0 0 Q (F0 m 25 ls []) := by
    intro  H locs ls hf hP hD hS hl
    unfold m_X4_successor_25 at hf
    refine lv_iconst (v := 0) hx hb dX4_successor_25 (by decide) ?_
    exact J26 (0 : Int32) _ _ _ hf hP hD hS (lv_sub hl [0, 1] rfl)
  unfold m_X4_successor at hf
  refine lv_aload_n hx hb dX4_successor_0 rfl (lv_at hl 0 rfl) ?_
  refine va_get (D := D) (ci := 4) (v := .ref (aP 1)) (C := RX4) (T := TX4) (N := 7) hx hb hts inX4 hown hK hP 0 rfl rfl 0 (by decide) kX4_9 (fun _ h9 => h9) rfl dX4_successor_1 ?_
  refine lv_iload_n hx hb dX4_successor_4 rfl (lv_at hl 1 rfl) ?_
  obtain ⟨g5, hf⟩ := gd_t hf
  refine va_iald hx hb hK hP 1 0 rfl rfl (inb_t g5) dX4_successor_5 ?_
  refine lv_topi (fun v6 ev6 => ?_)
  have hf := bd_t ev6 hf
  refine lv_istore_n (lv' := [(3, .int v6), (0, .ref (aP 0)), (1, .int x1), (2, .int x2)]) hx hb dX4_successor_6 rfl hl (by decide) rfl (fun ls hl => ?_)
  refine lv_iload_n hx hb dX4_successor_7 rfl (lv_at hl 0 rfl) ?_
  refine lv_iconst (v := 1) hx hb dX4_successor_8 (by decide) ?_
  refine lv_icmp_eq (tgt := 21) hx hb dX4_successor_9 (by decide) (fun c9 => ?_) (fun c9 => ?_)
  · have hf := if_t c9 hf
    exact J21  _ _ _ hf hP hD hS (lv_sub hl [1, 2] rfl)
  · have hf := if_f c9 hf
    refine lv_iload_n hx hb dX4_successor_12 rfl (lv_at hl 0 rfl) ?_
    refine lv_iconst (v := 2) hx hb dX4_successor_13 (by decide) ?_
    refine lv_icmp_ne (tgt := 25) hx hb dX4_successor_14 (by decide) (fun c14 => ?_) (fun c14 => ?_)
    · have hf := if_f c14 hf
      exact J25  _ _ _ hf hP hD hS (lv_sub hl [1, 2] rfl)
    · have hf := if_t c14 hf
      refine lv_iload_n hx hb dX4_successor_17 rfl (lv_at hl 3 rfl) ?_
      refine lv_if_eq (tgt := 25) hx hb dX4_successor_18 (by decide) (fun c18 => ?_) (fun c18 => ?_)
      · have hf := if_t c18 hf
        exact J25  _ _ _ hf hP hD hS (lv_sub hl [1, 2] rfl)
      · have hf := if_f c18 hf
        exact J21  _ _ _ hf hP hD hS (lv_sub hl [1, 2] rfl)
set_option maxHeartbeats 8000000 in
set_option maxRecDepth 100000 in
theorem c_X4_predictedSuccessor (l : Launch) (D : va_G) (cI cZ cII cJ cM : ClassId) (aP : Nat → Nat) (P_kinds : Nat → Int32) (P_targets : Nat → Int32) (P_outcomes : Nat → Int32) (P_lengths : Nat → Int32) (P_outcomeCounts : Nat → Int32) (P_counters : Nat → Int32) (P_next : Int32) (x1 : Int32) (sz : Nat) (y : (Int32)) (hf : m_X4_predictedSuccessor P_kinds P_targets P_counters x1 = some y) : Met l yX4_predictedSuccessor wsX4_predictedSuccessor ({ frames := 1, cells := 0, slots := 0, locals := 24 } : Room) (va_Pc [.ref (aP 0), .int x1] (pzPre D (zT cI cZ cII cJ cM) (wX4 cI cZ cII aP P_kinds P_targets P_outcomes P_lengths P_outcomeCounts P_counters P_next ++ []) sz)) (va_Qi (fun v (_ : Unit) => v = y) (fun _ t => pzB D (zT cI cZ cII cJ cM) (va_A (wX4 cI cZ cII aP P_kinds P_targets P_outcomes P_lengths P_outcomeCounts P_counters P_next ++ []) sz) (wX4 cI cZ cII aP P_kinds P_targets P_outcomes P_lengths P_outcomeCounts P_counters P_next ++ []) t) (va_A (wX4 cI cZ cII aP P_kinds P_targets P_outcomes P_lengths P_outcomeCounts P_counters P_next ++ []) sz)) 0 0 (va_A (wX4 cI cZ cII aP P_kinds P_targets P_outcomes P_lengths P_outcomeCounts P_counters P_next ++ []) sz) := by
  refine z_meti (cc := cX4_predictedSuccessor) (maxL := 2) (by decide) rfl (Nat.le_of_ble_eq_true rfl) ?_
  intro p e s m args below meth c A ls Q H locs F hP hD hS hl hret
  obtain ⟨hx, hb, hml, hown, hts, hN, hK, hA⟩ := F
  have hown : s.vm.findClass RX4 = some m.cls := hown
  have hl : lv_has ls 2 [(0, .ref (aP 0)), (1, .int x1)] := hl
  unfold m_X4_predictedSuccessor at hf
  refine lv_aload_n hx hb dX4_predictedSuccessor_0 rfl (lv_at hl 0 rfl) ?_
  refine lv_iload_n hx hb dX4_predictedSuccessor_1 rfl (lv_at hl 1 rfl) ?_
  refine lv_aload_n hx hb dX4_predictedSuccessor_2 rfl (lv_at hl 0 rfl) ?_
  refine lv_iload_n hx hb dX4_predictedSuccessor_3 rfl (lv_at hl 1 rfl) ?_
  obtain ⟨y4, h4, hf⟩ := bn_t hf
  refine z_ai (x := []) (b := wX4 cI cZ cII aP P_kinds P_targets P_outcomes P_lengths P_outcomeCounts P_counters P_next ++ []) (y := ([] : va_W)) (b1 := wX4 cI cZ cII aP P_kinds P_targets P_outcomes P_lengths P_outcomeCounts P_counters P_next ++ []) (wsn := wX4 cI cZ cII aP P_kinds P_targets P_outcomes P_lengths P_outcomeCounts P_counters P_next ++ []) (va_runV (As := [.int x1]) (rest := [.int x1, .ref (aP 0)]) ⟨hx, hb, hml, hown, hts⟩ (c_X4_predictsTaken l D cI cZ cII cJ cM aP P_kinds P_targets P_outcomes P_lengths P_outcomeCounts P_counters P_next x1 H.size y4 h4) (cwV 1 hts gX4_predictedSuccessor_X4_predictsTaken rfl rfl rfl (by decide +kernel) ⟨Nat.le_of_ble_eq_true rfl, Nat.le_of_ble_eq_true rfl⟩) (pz_V (x := []) (b := wX4 cI cZ cII aP P_kinds P_targets P_outcomes P_lengths P_outcomeCounts P_counters P_next ++ []) (y := ([] : va_W)) (C := RX4) (T := TX4) (N := 7) (ci := 4) (As := [.int x1]) (bi := 0) hK hN hP hD (by simp only [List.append_assoc, List.nil_append, List.append_nil]) rfl rfl) rfl rfl hl.1 rfl (lv_room (Nat.le_of_ble_eq_true rfl)) dX4_predictedSuccessor_4 ⟨Nat.le_of_ble_eq_true rfl, Nat.le_of_ble_eq_true rfl⟩) hP hD hS hA (by simp only [List.append_assoc, List.nil_append, List.append_nil]) (by simp only [List.append_assoc, List.nil_append, List.append_nil]) (fun H locs hP hD hS => ?_)
  obtain ⟨y7, h7, hf⟩ := bn_t hf
  refine z_ai (x := []) (b := wX4 cI cZ cII aP P_kinds P_targets P_outcomes P_lengths P_outcomeCounts P_counters P_next ++ []) (y := ([] : va_W)) (b1 := wX4 cI cZ cII aP P_kinds P_targets P_outcomes P_lengths P_outcomeCounts P_counters P_next ++ []) (wsn := wX4 cI cZ cII aP P_kinds P_targets P_outcomes P_lengths P_outcomeCounts P_counters P_next ++ []) (va_runV (As := [.int x1, .int y4]) (rest := []) ⟨hx, hb, hml, hown, hts⟩ (c_X4_successor l D cI cZ cII cJ cM aP P_kinds P_targets P_outcomes P_lengths P_outcomeCounts P_counters P_next x1 y4 H.size y7 h7) (cwV 2 hts gX4_predictedSuccessor_X4_successor rfl rfl rfl (by decide +kernel) ⟨Nat.le_of_ble_eq_true rfl, Nat.le_of_ble_eq_true rfl⟩) (pz_V (x := []) (b := wX4 cI cZ cII aP P_kinds P_targets P_outcomes P_lengths P_outcomeCounts P_counters P_next ++ []) (y := ([] : va_W)) (C := RX4) (T := TX4) (N := 7) (ci := 4) (As := [.int x1, .int y4]) (bi := 0) hK hN hP hD (by simp only [List.append_assoc, List.nil_append, List.append_nil]) rfl rfl) rfl rfl hl.1 rfl (lv_room (Nat.le_of_ble_eq_true rfl)) dX4_predictedSuccessor_7 ⟨Nat.le_of_ble_eq_true rfl, Nat.le_of_ble_eq_true rfl⟩) hP hD hS hA (by simp only [List.append_assoc, List.nil_append, List.append_nil]) (by simp only [List.append_assoc, List.nil_append, List.append_nil]) (fun H locs hP hD hS => ?_)
  obtain rfl := Option.some.inj hf
  exact hret _ _ _ _ _ dX4_predictedSuccessor_10 rfl hP hD hS
set_option maxHeartbeats 8000000 in
set_option maxRecDepth 100000 in
theorem c_X4_decide (l : Launch) (D : va_G) (cI cZ cII cJ cM : ClassId) (aP : Nat → Nat) (P_kinds : Nat → Int32) (P_targets : Nat → Int32) (P_outcomes : Nat → Int32) (P_lengths : Nat → Int32) (P_outcomeCounts : Nat → Int32) (P_counters : Nat → Int32) (P_next : Int32) (x1 : Int32) (sz : Nat) (y : (Int32) × (Nat → Int32) × (Nat → Int32)) (hf : m_X4_decide P_outcomes P_lengths P_outcomeCounts P_counters x1 = some y) : Met l yX4_decide wsX4_decide ({ frames := 0, cells := 0, slots := 0, locals := 0 } : Room) (va_Pc [.ref (aP 0), .int x1] (pzPre D (zT cI cZ cII cJ cM) (wX4 cI cZ cII aP P_kinds P_targets P_outcomes P_lengths P_outcomeCounts P_counters P_next ++ []) sz)) (va_Qi (fun v (_ : Unit) => v = y.1) (fun _ t => pzB D (zT cI cZ cII cJ cM) (va_A (wX4 cI cZ cII aP P_kinds P_targets P_outcomes P_lengths P_outcomeCounts P_counters P_next ++ []) sz) (wX4 cI cZ cII aP P_kinds P_targets P_outcomes P_lengths y.2.1 y.2.2 P_next ++ []) t) (va_A (wX4 cI cZ cII aP P_kinds P_targets P_outcomes P_lengths P_outcomeCounts P_counters P_next ++ []) sz)) 0 0 (va_A (wX4 cI cZ cII aP P_kinds P_targets P_outcomes P_lengths P_outcomeCounts P_counters P_next ++ []) sz) := by
  refine z_metz (cc := cX4_decide) (maxL := 5) (by decide) rfl (Nat.le_of_ble_eq_true rfl) ?_
  intro p e s m args below meth c A ls Q H locs F hP hD hS hl hret
  obtain ⟨hx, hb, hml, hown, hts, hN, hK, hA⟩ := F
  have hown : s.vm.findClass RX4 = some m.cls := hown
  have hl : lv_has ls 5 [(0, .ref (aP 0)), (1, .int x1)] := hl
  have inX4 : ∀ w ∈ u_ws RX4 TX4 7, w ∈ wsX4_decide := by decide +kernel
  have kX4_18 := hts (.fieldLink RX4 18 "TraceCache$Program" "outcomes" "[I") (by decide +kernel)
  have kX4_21 := hts (.fieldLink RX4 21 "TraceCache$Program" "lengths" "[I") (by decide +kernel)
  have kX4_24 := hts (.fieldLink RX4 24 "TraceCache$Program" "outcomeCounts" "[I") (by decide +kernel)
  have kX4_27 := hts (.fieldLink RX4 27 "TraceCache$Program" "counters" "[I") (by decide +kernel)
  have J107 : ∀ (P_outcomeCounts : Nat → Int32) (P_counters : Nat → Int32) (x4 : Int32) (H : Heap) (locs : List Loc) (ls : Array Slot), m_X4_decide_107 P_outcomes P_lengths x1 P_outcomeCounts P_counters x4 = some y → va_P D vwCl (wX4 cI cZ cII aP P_kinds P_targets P_outcomes P_lengths P_outcomeCounts P_counters P_next ++ []) H → va_D A (wX4 cI cZ cII aP P_kinds P_targets P_outcomes P_lengths P_outcomeCounts P_counters P_next ++ []) → va_S A s.heap H locs → lv_has ls 5 [(4, .int x4)] → W p l e ({ frames := 0, cells := 0, slots := 0, locals := 0 } : Room) s m args below meth c H locs 0 0 Q (F0 m 107 ls []) := by
    intro P_outcomeCounts P_counters x4 H locs ls hf hP hD hS hl
    unfold m_X4_decide_107 at hf
    refine lv_iload hx hb dX4_decide_107 (lv_at hl 0 rfl) ?_
    obtain ⟨g109, hf⟩ := gd_t hf
    obtain rfl := Option.some.inj hf
    exact hret _ _ _ _ _ dX4_decide_109 g109 rfl hP hD hS
  have J83 : ∀ (P_outcomeCounts : Nat → Int32) (P_counters : Nat → Int32) (x4 : Int32) (H : Heap) (locs : List Loc) (ls : Array Slot), m_X4_decide_83 P_outcomes P_lengths x1 P_outcomeCounts P_counters x4 = some y → va_P D vwCl (wX4 cI cZ cII aP P_kinds P_targets P_outcomes P_lengths P_outcomeCounts P_counters P_next ++ []) H → va_D A (wX4 cI cZ cII aP P_kinds P_targets P_outcomes P_lengths P_outcomeCounts P_counters P_next ++ []) → va_S A s.heap H locs → lv_has ls 5 [(0, .ref (aP 0)), (1, .int x1), (4, .int x4)] → W p l e ({ frames := 0, cells := 0, slots := 0, locals := 0 } : Room) s m args below meth c H locs 0 0 Q (F0 m 83 ls []) := by
    intro P_outcomeCounts P_counters x4 H locs ls hf hP hD hS hl
    unfold m_X4_decide_83 at hf
    refine lv_iload hx hb dX4_decide_83 (lv_at hl 2 rfl) ?_
    refine lv_if_ne (tgt := 107) hx hb dX4_decide_85 (by decide) (fun c85 => ?_) (fun c85 => ?_)
    · have hf := if_f c85 hf
      exact J107 P_outcomeCounts P_counters x4 _ _ _ hf hP hD hS (lv_sub hl [2] rfl)
    · have hf := if_t c85 hf
      refine lv_aload_n hx hb dX4_decide_88 rfl (lv_at hl 0 rfl) ?_
      refine va_get (D := D) (ci := 4) (v := .ref (aP 6)) (C := RX4) (T := TX4) (N := 7) hx hb hts inX4 hown hK hP 0 rfl rfl 5 (by decide) kX4_27 (fun _ h9 => h9) rfl dX4_decide_89 ?_
      refine lv_iload_n hx hb dX4_decide_92 rfl (lv_at hl 1 rfl) ?_
      obtain ⟨g93, hf⟩ := gd_t hf
      refine va_iald hx hb hK hP 6 0 rfl rfl (inb_t g93) dX4_decide_93 ?_
      refine lv_if_le (tgt := 107) hx hb dX4_decide_94 (by decide) (fun c94 => ?_) (fun c94 => ?_)
      · have hf := if_t c94 hf
        exact J107 P_outcomeCounts P_counters x4 _ _ _ hf hP hD hS (lv_sub hl [2] rfl)
      · have hf := if_f c94 hf
        refine lv_aload_n hx hb dX4_decide_97 rfl (lv_at hl 0 rfl) ?_
        refine va_get (D := D) (ci := 4) (v := .ref (aP 6)) (C := RX4) (T := TX4) (N := 7) hx hb hts inX4 hown hK hP 0 rfl rfl 5 (by decide) kX4_27 (fun _ h9 => h9) rfl dX4_decide_98 ?_
        refine lv_iload_n hx hb dX4_decide_101 rfl (lv_at hl 1 rfl) ?_
        refine lv_dup2_11 hx hb dX4_decide_102 rfl rfl ?_
        obtain ⟨g103, hf⟩ := gd_t hf
        refine va_iald hx hb hK hP 6 0 rfl rfl (inb_t g103) dX4_decide_103 ?_
        refine lv_iconst (v := 1) hx hb dX4_decide_104 (by decide) ?_
        refine lv_isub hx hb dX4_decide_105 ?_
        obtain ⟨g106, hf⟩ := gd_t hf
        refine va_iast hx hb hK hP hD hS 6 0 rfl rfl (inb_t g106) dX4_decide_106 (fun H locs hP hD hS => ?_)
        obtain ⟨P_counters_106, eP_counters_106⟩ : ∃ z : Nat → Int32, z = upd P_counters (Int32.toNatClampNeg x1) ((P_counters (Int32.toNatClampNeg x1)) - (1 : Int32)) := ⟨_, rfl⟩
        have hf := bd_t eP_counters_106 hf
        have hP : va_P D vwCl (wX4 cI cZ cII aP P_kinds P_targets P_outcomes P_lengths P_outcomeCounts P_counters_106 P_next ++ []) H := by rw [eP_counters_106]; exact hP
        have hD : va_D A (wX4 cI cZ cII aP P_kinds P_targets P_outcomes P_lengths P_outcomeCounts P_counters_106 P_next ++ []) := by rw [eP_counters_106]; exact hD
        exact J107 P_outcomeCounts P_counters_106 x4 _ _ _ hf hP hD hS (lv_sub hl [2] rfl)
  have J43 : ∀ (P_outcomeCounts : Nat → Int32) (P_counters : Nat → Int32) (k0 : Int32) (H : Heap) (locs : List Loc) (ls : Array Slot), m_X4_decide_43 P_outcomes P_lengths x1 P_outcomeCounts P_counters k0 = some y → va_P D vwCl (wX4 cI cZ cII aP P_kinds P_targets P_outcomes P_lengths P_outcomeCounts P_counters P_next ++ []) H → va_D A (wX4 cI cZ cII aP P_kinds P_targets P_outcomes P_lengths P_outcomeCounts P_counters P_next ++ []) → va_S A s.heap H locs → lv_has ls 5 [(0, .ref (aP 0)), (1, .int x1)] → W p l e ({ frames := 0, cells := 0, slots := 0, locals := 0 } : Room) s m args below meth c H locs 0 0 Q (F0 m 43 ls [.int k0]) := by
    intro P_outcomeCounts P_counters k0 H locs ls hf hP hD hS hl
    unfold m_X4_decide_43 at hf
    refine lv_istore (lv' := [(4, .int k0), (0, .ref (aP 0)), (1, .int x1)]) hx hb dX4_decide_43 hl (by decide) rfl (fun ls hl => ?_)
    refine lv_aload_n hx hb dX4_decide_45 rfl (lv_at hl 1 rfl) ?_
    refine va_get (D := D) (ci := 4) (v := .ref (aP 5)) (C := RX4) (T := TX4) (N := 7) hx hb hts inX4 hown hK hP 0 rfl rfl 4 (by decide) kX4_24 (fun _ h9 => h9) rfl dX4_decide_46 ?_
    refine lv_iload_n hx hb dX4_decide_49 rfl (lv_at hl 2 rfl) ?_
    refine lv_dup2_11 hx hb dX4_decide_50 rfl rfl ?_
    obtain ⟨g51, hf⟩ := gd_t hf
    refine va_iald hx hb hK hP 5 0 rfl rfl (inb_t g51) dX4_decide_51 ?_
    refine lv_iconst (v := 1) hx hb dX4_decide_52 (by decide) ?_
    refine lv_iadd hx hb dX4_decide_53 ?_
    obtain ⟨g54, hf⟩ := gd_t hf
    refine va_iast hx hb hK hP hD hS 5 0 rfl rfl (inb_t g54) dX4_decide_54 (fun H locs hP hD hS => ?_)
    obtain ⟨P_outcomeCounts_54, eP_outcomeCounts_54⟩ : ∃ z : Nat → Int32, z = upd P_outcomeCounts (Int32.toNatClampNeg x1) ((P_outcomeCounts (Int32.toNatClampNeg x1)) + (1 : Int32)) := ⟨_, rfl⟩
    have hf := bd_t eP_outcomeCounts_54 hf
    have hP : va_P D vwCl (wX4 cI cZ cII aP P_kinds P_targets P_outcomes P_lengths P_outcomeCounts_54 P_counters P_next ++ []) H := by rw [eP_outcomeCounts_54]; exact hP
    have hD : va_D A (wX4 cI cZ cII aP P_kinds P_targets P_outcomes P_lengths P_outcomeCounts_54 P_counters P_next ++ []) := by rw [eP_outcomeCounts_54]; exact hD
    refine lv_iload hx hb dX4_decide_55 (lv_at hl 0 rfl) ?_
    refine lv_if_eq (tgt := 83) hx hb dX4_decide_57 (by decide) (fun c57 => ?_) (fun c57 => ?_)
    · have hf := if_t c57 hf
      exact J83 P_outcomeCounts_54 P_counters k0 _ _ _ hf hP hD hS (lv_sub hl [1, 2, 0] rfl)
    · have hf := if_f c57 hf
      refine lv_aload_n hx hb dX4_decide_60 rfl (lv_at hl 1 rfl) ?_
      refine va_get (D := D) (ci := 4) (v := .ref (aP 6)) (C := RX4) (T := TX4) (N := 7) hx hb hts inX4 hown hK hP 0 rfl rfl 5 (by decide) kX4_27 (fun _ h9 => h9) rfl dX4_decide_61 ?_
      refine lv_iload_n hx hb dX4_decide_64 rfl (lv_at hl 2 rfl) ?_
      obtain ⟨g65, hf⟩ := gd_t hf
      refine va_iald hx hb hK hP 6 0 rfl rfl (inb_t g65) dX4_decide_65 ?_
      refine lv_iconst (v := 3) hx hb dX4_decide_66 (by decide) ?_
      refine lv_icmp_ge (tgt := 83) hx hb dX4_decide_67 (by decide) (fun c67 => ?_) (fun c67 => ?_)
      · have hf := if_t c67 hf
        exact J83 P_outcomeCounts_54 P_counters k0 _ _ _ hf hP hD hS (lv_sub hl [1, 2, 0] rfl)
      · have hf := if_f c67 hf
        refine lv_aload_n hx hb dX4_decide_70 rfl (lv_at hl 1 rfl) ?_
        refine va_get (D := D) (ci := 4) (v := .ref (aP 6)) (C := RX4) (T := TX4) (N := 7) hx hb hts inX4 hown hK hP 0 rfl rfl 5 (by decide) kX4_27 (fun _ h9 => h9) rfl dX4_decide_71 ?_
        refine lv_iload_n hx hb dX4_decide_74 rfl (lv_at hl 2 rfl) ?_
        refine lv_dup2_11 hx hb dX4_decide_75 rfl rfl ?_
        obtain ⟨g76, hf⟩ := gd_t hf
        refine va_iald hx hb hK hP 6 0 rfl rfl (inb_t g76) dX4_decide_76 ?_
        refine lv_iconst (v := 1) hx hb dX4_decide_77 (by decide) ?_
        refine lv_iadd hx hb dX4_decide_78 ?_
        obtain ⟨g79, hf⟩ := gd_t hf
        refine va_iast hx hb hK hP hD hS 6 0 rfl rfl (inb_t g79) dX4_decide_79 (fun H locs hP hD hS => ?_)
        obtain ⟨P_counters_79, eP_counters_79⟩ : ∃ z : Nat → Int32, z = upd P_counters (Int32.toNatClampNeg x1) ((P_counters (Int32.toNatClampNeg x1)) + (1 : Int32)) := ⟨_, rfl⟩
        have hf := bd_t eP_counters_79 hf
        have hP : va_P D vwCl (wX4 cI cZ cII aP P_kinds P_targets P_outcomes P_lengths P_outcomeCounts_54 P_counters_79 P_next ++ []) H := by rw [eP_counters_79]; exact hP
        have hD : va_D A (wX4 cI cZ cII aP P_kinds P_targets P_outcomes P_lengths P_outcomeCounts_54 P_counters_79 P_next ++ []) := by rw [eP_counters_79]; exact hD
        refine lv_goto (tgt := 107) hx hb dX4_decide_80 (by decide) ?_
        exact J107 P_outcomeCounts_54 P_counters_79 k0 _ _ _ hf hP hD hS (lv_sub hl [0] rfl)
  have J23 : ∀ (P_outcomeCounts : Nat → Int32) (P_counters : Nat → Int32) (k0 : Int32) (H : Heap) (locs : List Loc) (ls : Array Slot), m_X4_decide_23 P_outcomes P_lengths x1 P_outcomeCounts P_counters k0 = some y → va_P D vwCl (wX4 cI cZ cII aP P_kinds P_targets P_outcomes P_lengths P_outcomeCounts P_counters P_next ++ []) H → va_D A (wX4 cI cZ cII aP P_kinds P_targets P_outcomes P_lengths P_outcomeCounts P_counters P_next ++ []) → va_S A s.heap H locs → lv_has ls 5 [(0, .ref (aP 0)), (1, .int x1)] → W p l e ({ frames := 0, cells := 0, slots := 0, locals := 0 } : Room) s m args below meth c H locs 0 0 Q (F0 m 23 ls [.int k0]) := by
    intro P_outcomeCounts P_counters k0 H locs ls hf hP hD hS hl
    unfold m_X4_decide_23 at hf
    refine lv_istore_n (lv' := [(3, .int k0), (0, .ref (aP 0)), (1, .int x1)]) hx hb dX4_decide_23 rfl hl (by decide) rfl (fun ls hl => ?_)
    refine lv_aload_n hx hb dX4_decide_24 rfl (lv_at hl 1 rfl) ?_
    refine va_get (D := D) (ci := 4) (v := .ref (aP 3)) (C := RX4) (T := TX4) (N := 7) hx hb hts inX4 hown hK hP 0 rfl rfl 2 (by decide) kX4_18 (fun _ h9 => h9) rfl dX4_decide_25 ?_
    refine lv_iload_n hx hb dX4_decide_28 rfl (lv_at hl 2 rfl) ?_
    obtain ⟨g29, hf⟩ := gd_t hf
    refine va_iald hx hb hK hP 3 0 rfl rfl (inb_t g29) dX4_decide_29 ?_
    refine lv_iload_n hx hb dX4_decide_30 rfl (lv_at hl 0 rfl) ?_
    refine lv_ishr hx hb dX4_decide_31 ?_
    refine lv_iconst (v := 1) hx hb dX4_decide_32 (by decide) ?_
    refine lv_iand hx hb dX4_decide_33 ?_
    refine lv_iconst (v := 1) hx hb dX4_decide_34 (by decide) ?_
    refine lv_icmp_ne (tgt := 42) hx hb dX4_decide_35 (by decide) (fun c35 => ?_) (fun c35 => ?_)
    · have hf := if_f c35 hf
      refine lv_iconst (v := 0) hx hb dX4_decide_42 (by decide) ?_
      exact J43 P_outcomeCounts P_counters (0 : Int32) _ _ _ hf hP hD hS (lv_sub hl [1, 2] rfl)
    · have hf := if_t c35 hf
      refine lv_iconst (v := 1) hx hb dX4_decide_38 (by decide) ?_
      refine lv_goto (tgt := 43) hx hb dX4_decide_39 (by decide) ?_
      exact J43 P_outcomeCounts P_counters (1 : Int32) _ _ _ hf hP hD hS (lv_sub hl [1, 2] rfl)
  unfold m_X4_decide at hf
  refine lv_aload_n hx hb dX4_decide_0 rfl (lv_at hl 0 rfl) ?_
  refine va_get (D := D) (ci := 4) (v := .ref (aP 4)) (C := RX4) (T := TX4) (N := 7) hx hb hts inX4 hown hK hP 0 rfl rfl 3 (by decide) kX4_21 (fun _ h9 => h9) rfl dX4_decide_1 ?_
  refine lv_iload_n hx hb dX4_decide_4 rfl (lv_at hl 1 rfl) ?_
  obtain ⟨g5, hf⟩ := gd_t hf
  refine va_iald hx hb hK hP 4 0 rfl rfl (inb_t g5) dX4_decide_5 ?_
  refine lv_topi (fun v6 ev6 => ?_)
  have hf := bd_t ev6 hf
  refine lv_istore_n (lv' := [(2, .int v6), (0, .ref (aP 0)), (1, .int x1)]) hx hb dX4_decide_6 rfl hl (by decide) rfl (fun ls hl => ?_)
  refine lv_iload_n hx hb dX4_decide_7 rfl (lv_at hl 0 rfl) ?_
  refine lv_if_le (tgt := 22) hx hb dX4_decide_8 (by decide) (fun c8 => ?_) (fun c8 => ?_)
  · have hf := if_t c8 hf
    refine lv_iconst (v := 0) hx hb dX4_decide_22 (by decide) ?_
    exact J23 P_outcomeCounts P_counters (0 : Int32) _ _ _ hf hP hD hS (lv_sub hl [1, 2] rfl)
  · have hf := if_f c8 hf
    refine lv_aload_n hx hb dX4_decide_11 rfl (lv_at hl 1 rfl) ?_
    refine va_get (D := D) (ci := 4) (v := .ref (aP 5)) (C := RX4) (T := TX4) (N := 7) hx hb hts inX4 hown hK hP 0 rfl rfl 4 (by decide) kX4_24 (fun _ h9 => h9) rfl dX4_decide_12 ?_
    refine lv_iload_n hx hb dX4_decide_15 rfl (lv_at hl 2 rfl) ?_
    obtain ⟨g16, hf⟩ := gd_t hf
    refine va_iald hx hb hK hP 5 0 rfl rfl (inb_t g16) dX4_decide_16 ?_
    refine lv_iload_n hx hb dX4_decide_17 rfl (lv_at hl 0 rfl) ?_
    obtain ⟨g18, hf⟩ := gd_t hf
    refine lv_irem hx hb dX4_decide_18 (nzb_t g18) ?_
    refine lv_goto (tgt := 23) hx hb dX4_decide_19 (by decide) ?_
    exact J23 P_outcomeCounts P_counters ((P_outcomeCounts (Int32.toNatClampNeg x1)) - (P_outcomeCounts (Int32.toNatClampNeg x1)) / v6 * v6) _ _ _ hf hP hD hS (lv_sub hl [1, 2] rfl)
set_option maxHeartbeats 8000000 in
set_option maxRecDepth 100000 in
theorem c_X4_step (l : Launch) (D : va_G) (cI cZ cII cJ cM : ClassId) (aP : Nat → Nat) (P_kinds : Nat → Int32) (P_targets : Nat → Int32) (P_outcomes : Nat → Int32) (P_lengths : Nat → Int32) (P_outcomeCounts : Nat → Int32) (P_counters : Nat → Int32) (P_next : Int32) (sz : Nat) (y : (Int32) × (Nat → Int32) × (Nat → Int32) × (Int32)) (hf : m_X4_step P_kinds P_targets P_outcomes P_lengths P_outcomeCounts P_counters P_next = some y) : Met l yX4_step wsX4_step ({ frames := 1, cells := 0, slots := 0, locals := 24 } : Room) (va_Pc [.ref (aP 0)] (pzPre D (zT cI cZ cII cJ cM) (wX4 cI cZ cII aP P_kinds P_targets P_outcomes P_lengths P_outcomeCounts P_counters P_next ++ []) sz)) (va_Qi (fun v (_ : Unit) => v = y.1) (fun _ t => pzB D (zT cI cZ cII cJ cM) (va_A (wX4 cI cZ cII aP P_kinds P_targets P_outcomes P_lengths P_outcomeCounts P_counters P_next ++ []) sz) (wX4 cI cZ cII aP P_kinds P_targets P_outcomes P_lengths y.2.1 y.2.2.1 y.2.2.2 ++ []) t) (va_A (wX4 cI cZ cII aP P_kinds P_targets P_outcomes P_lengths P_outcomeCounts P_counters P_next ++ []) sz)) 0 0 (va_A (wX4 cI cZ cII aP P_kinds P_targets P_outcomes P_lengths P_outcomeCounts P_counters P_next ++ []) sz) := by
  refine z_metz (cc := cX4_step) (maxL := 3) (by decide) rfl (Nat.le_of_ble_eq_true rfl) ?_
  intro p e s m args below meth c A ls Q H locs F hP hD hS hl hret
  obtain ⟨hx, hb, hml, hown, hts, hN, hK, hA⟩ := F
  have hown : s.vm.findClass RX4 = some m.cls := hown
  have hl : lv_has ls 3 [(0, .ref (aP 0))] := hl
  have inX4 : ∀ w ∈ u_ws RX4 TX4 7, w ∈ wsX4_step := by decide +kernel
  have kX4_9 := hts (.fieldLink RX4 9 "TraceCache$Program" "kinds" "[I") (by decide +kernel)
  have kX4_36 := hts (.fieldLink RX4 36 "TraceCache$Program" "next" "I") (by decide +kernel)
  have J28 : ∀ (P_outcomeCounts : Nat → Int32) (P_counters : Nat → Int32) (P_next : Int32) (x1 : Int32) (k0 : Int32) (H : Heap) (locs : List Loc) (ls : Array Slot), m_X4_step_28 P_kinds P_targets P_outcomes P_lengths P_outcomeCounts P_counters P_next x1 k0 = some y → va_P D vwCl (wX4 cI cZ cII aP P_kinds P_targets P_outcomes P_lengths P_outcomeCounts P_counters P_next ++ []) H → va_D A (wX4 cI cZ cII aP P_kinds P_targets P_outcomes P_lengths P_outcomeCounts P_counters P_next ++ []) → va_S A s.heap H locs → lv_has ls 3 [(0, .ref (aP 0)), (1, .int x1)] → W p l e ({ frames := 1, cells := 0, slots := 0, locals := 24 } : Room) s m args below meth c H locs 0 0 Q (F0 m 28 ls [.int k0]) := by
    intro P_outcomeCounts P_counters P_next x1 k0 H locs ls hf hP hD hS hl
    unfold m_X4_step_28 at hf
    refine lv_istore_n (lv' := [(2, .int k0), (0, .ref (aP 0)), (1, .int x1)]) hx hb dX4_step_28 rfl hl (by decide) rfl (fun ls hl => ?_)
    refine lv_aload_n hx hb dX4_step_29 rfl (lv_at hl 1 rfl) ?_
    refine lv_aload_n hx hb dX4_step_30 rfl (lv_at hl 1 rfl) ?_
    refine lv_iload_n hx hb dX4_step_31 rfl (lv_at hl 2 rfl) ?_
    refine lv_iload_n hx hb dX4_step_32 rfl (lv_at hl 0 rfl) ?_
    obtain ⟨y33, h33, hf⟩ := bn_t hf
    refine z_ai (x := []) (b := wX4 cI cZ cII aP P_kinds P_targets P_outcomes P_lengths P_outcomeCounts P_counters P_next ++ []) (y := ([] : va_W)) (b1 := wX4 cI cZ cII aP P_kinds P_targets P_outcomes P_lengths P_outcomeCounts P_counters P_next ++ []) (wsn := wX4 cI cZ cII aP P_kinds P_targets P_outcomes P_lengths P_outcomeCounts P_counters P_next ++ []) (va_runV (As := [.int x1, .int k0]) (rest := [.ref (aP 0)]) ⟨hx, hb, hml, hown, hts⟩ (c_X4_successor l D cI cZ cII cJ cM aP P_kinds P_targets P_outcomes P_lengths P_outcomeCounts P_counters P_next x1 k0 H.size y33 h33) (cwV 2 hts gX4_step_X4_successor rfl rfl rfl (by decide +kernel) ⟨Nat.le_of_ble_eq_true rfl, Nat.le_of_ble_eq_true rfl⟩) (pz_V (x := []) (b := wX4 cI cZ cII aP P_kinds P_targets P_outcomes P_lengths P_outcomeCounts P_counters P_next ++ []) (y := ([] : va_W)) (C := RX4) (T := TX4) (N := 7) (ci := 4) (As := [.int x1, .int k0]) (bi := 0) hK hN hP hD (by simp only [List.append_assoc, List.nil_append, List.append_nil]) rfl rfl) rfl rfl hl.1 rfl (lv_room (Nat.le_of_ble_eq_true rfl)) dX4_step_33 ⟨Nat.le_of_ble_eq_true rfl, Nat.le_of_ble_eq_true rfl⟩) hP hD hS hA (by simp only [List.append_assoc, List.nil_append, List.append_nil]) (by simp only [List.append_assoc, List.nil_append, List.append_nil]) (fun H locs hP hD hS => ?_)
    refine va_put (D := D) (ci := 4) (v := .int y33) (ty := .int) (C := RX4) (T := TX4) (N := 7) hx hb hts inX4 tyX4 tyX4_ok nmX4 hown hK hP hD hS 0 rfl rfl 6 (by decide) kX4_36 (fun _ h9 => h9) rfl (by decide +kernel) rfl rfl (Nat.le_of_ble_eq_true rfl) dX4_step_36 (fun H locs hP hD hS => ?_)
    have hP : va_P D vwCl (wX4 cI cZ cII aP P_kinds P_targets P_outcomes P_lengths P_outcomeCounts P_counters y33 ++ []) H := hP
    have hD : va_D A (wX4 cI cZ cII aP P_kinds P_targets P_outcomes P_lengths P_outcomeCounts P_counters y33 ++ []) := hD
    refine lv_iload_n hx hb dX4_step_39 rfl (lv_at hl 0 rfl) ?_
    obtain ⟨g40, hf⟩ := gd_t hf
    obtain rfl := Option.some.inj hf
    exact hret _ _ _ _ _ dX4_step_40 g40 rfl hP hD hS
  have J27 : ∀ (P_outcomeCounts : Nat → Int32) (P_counters : Nat → Int32) (P_next : Int32) (x1 : Int32) (H : Heap) (locs : List Loc) (ls : Array Slot), m_X4_step_27 P_kinds P_targets P_outcomes P_lengths P_outcomeCounts P_counters P_next x1 = some y → va_P D vwCl (wX4 cI cZ cII aP P_kinds P_targets P_outcomes P_lengths P_outcomeCounts P_counters P_next ++ []) H → va_D A (wX4 cI cZ cII aP P_kinds P_targets P_outcomes P_lengths P_outcomeCounts P_counters P_next ++ []) → va_S A s.heap H locs → lv_has ls 3 [(0, .ref (aP 0)), (1, .int x1)] → W p l e ({ frames := 1, cells := 0, slots := 0, locals := 24 } : Room) s m args below meth c H locs 0 0 Q (F0 m 27 ls []) := by
    intro P_outcomeCounts P_counters P_next x1 H locs ls hf hP hD hS hl
    unfold m_X4_step_27 at hf
    refine lv_iconst (v := 0) hx hb dX4_step_27 (by decide) ?_
    exact J28 P_outcomeCounts P_counters P_next x1 (0 : Int32) _ _ _ hf hP hD hS (lv_sub hl [0, 1] rfl)
  unfold m_X4_step at hf
  refine lv_aload_n hx hb dX4_step_0 rfl (lv_at hl 0 rfl) ?_
  refine va_get (D := D) (ci := 4) (v := .int P_next) (C := RX4) (T := TX4) (N := 7) hx hb hts inX4 hown hK hP 0 rfl rfl 6 (by decide) kX4_36 (fun _ h9 => h9) rfl dX4_step_1 ?_
  refine lv_istore_n (lv' := [(1, .int P_next), (0, .ref (aP 0))]) hx hb dX4_step_4 rfl hl (by decide) rfl (fun ls hl => ?_)
  refine lv_aload_n hx hb dX4_step_5 rfl (lv_at hl 1 rfl) ?_
  refine va_get (D := D) (ci := 4) (v := .ref (aP 1)) (C := RX4) (T := TX4) (N := 7) hx hb hts inX4 hown hK hP 0 rfl rfl 0 (by decide) kX4_9 (fun _ h9 => h9) rfl dX4_step_6 ?_
  refine lv_iload_n hx hb dX4_step_9 rfl (lv_at hl 0 rfl) ?_
  obtain ⟨g10, hf⟩ := gd_t hf
  refine va_iald hx hb hK hP 1 0 rfl rfl (inb_t g10) dX4_step_10 ?_
  refine lv_iconst (v := 2) hx hb dX4_step_11 (by decide) ?_
  refine lv_icmp_ne (tgt := 27) hx hb dX4_step_12 (by decide) (fun c12 => ?_) (fun c12 => ?_)
  · have hf := if_f c12 hf
    exact J27 P_outcomeCounts P_counters P_next P_next _ _ _ hf hP hD hS (lv_sub hl [1, 0] rfl)
  · have hf := if_t c12 hf
    refine lv_aload_n hx hb dX4_step_15 rfl (lv_at hl 1 rfl) ?_
    refine lv_iload_n hx hb dX4_step_16 rfl (lv_at hl 0 rfl) ?_
    obtain ⟨y17, h17, hf⟩ := bn_t hf
    refine z_ai (x := []) (b := wX4 cI cZ cII aP P_kinds P_targets P_outcomes P_lengths P_outcomeCounts P_counters P_next ++ []) (y := ([] : va_W)) (b1 := wX4 cI cZ cII aP P_kinds P_targets P_outcomes P_lengths y17.2.1 y17.2.2 P_next ++ []) (wsn := wX4 cI cZ cII aP P_kinds P_targets P_outcomes P_lengths y17.2.1 y17.2.2 P_next ++ []) (va_runV (As := [.int P_next]) (rest := []) ⟨hx, hb, hml, hown, hts⟩ (c_X4_decide l D cI cZ cII cJ cM aP P_kinds P_targets P_outcomes P_lengths P_outcomeCounts P_counters P_next P_next H.size y17 h17) (cwV 1 hts gX4_step_X4_decide rfl rfl rfl (by decide +kernel) ⟨Nat.le_of_ble_eq_true rfl, Nat.le_of_ble_eq_true rfl⟩) (pz_V (x := []) (b := wX4 cI cZ cII aP P_kinds P_targets P_outcomes P_lengths P_outcomeCounts P_counters P_next ++ []) (y := ([] : va_W)) (C := RX4) (T := TX4) (N := 7) (ci := 4) (As := [.int P_next]) (bi := 0) hK hN hP hD (by simp only [List.append_assoc, List.nil_append, List.append_nil]) rfl rfl) rfl rfl hl.1 rfl (lv_room (Nat.le_of_ble_eq_true rfl)) dX4_step_17 ⟨Nat.le_of_ble_eq_true rfl, Nat.le_of_ble_eq_true rfl⟩) hP hD hS hA (by simp only [List.append_assoc, List.nil_append, List.append_nil]) (by simp only [List.append_assoc, List.nil_append, List.append_nil]) (fun H locs hP hD hS => ?_)
    refine lv_if_eq (tgt := 27) hx hb dX4_step_20 (by decide) (fun c20 => ?_) (fun c20 => ?_)
    · have hf := if_t c20 hf
      exact J27 y17.2.1 y17.2.2 P_next P_next _ _ _ hf hP hD hS (lv_sub hl [1, 0] rfl)
    · have hf := if_f c20 hf
      refine lv_iconst (v := 1) hx hb dX4_step_23 (by decide) ?_
      refine lv_goto (tgt := 28) hx hb dX4_step_24 (by decide) ?_
      exact J28 y17.2.1 y17.2.2 P_next P_next (1 : Int32) _ _ _ hf hP hD hS (lv_sub hl [1, 0] rfl)
