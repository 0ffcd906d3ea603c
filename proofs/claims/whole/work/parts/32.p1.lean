set_option maxHeartbeats 8000000 in
set_option maxRecDepth 100000 in
theorem c_X1_fillFromMemory (l : Launch) (D : va_G) (cI cZ cII cJ cM : ClassId) (aP : Nat → Nat) (aF : Nat → Nat) (P_kinds : Nat → Int32) (P_targets : Nat → Int32) (P_outcomes : Nat → Int32) (P_lengths : Nat → Int32) (P_outcomeCounts : Nat → Int32) (P_counters : Nat → Int32) (P_next : Int32) (F_addresses : Nat → Int32) (F_predictions : Nat → Int32) (F_size : Int32) (F_place : Int32) (F_executed : Int32) (F_mispredictions : Int32) (sz : Nat) (y : (Nat → Int32) × (Int32)) (hf : m_X1_fillFromMemory P_kinds P_counters P_next F_addresses F_size = some y) : Met l yX1_fillFromMemory wsX1_fillFromMemory ({ frames := 1, cells := 0, slots := 0, locals := 21 } : Room) (va_Pc [.ref (aF 0), .ref (aP 0)] (pzPre D (zT cI cZ cII cJ cM) (wX4 cI cZ cII aP P_kinds P_targets P_outcomes P_lengths P_outcomeCounts P_counters P_next ++ (wX1 cI cZ cII aF F_addresses F_predictions F_size F_place F_executed F_mispredictions ++ [])) sz)) (va_Qv (fun (_ : Unit) => True) (fun _ t => pzB D (zT cI cZ cII cJ cM) (va_A (wX4 cI cZ cII aP P_kinds P_targets P_outcomes P_lengths P_outcomeCounts P_counters P_next ++ (wX1 cI cZ cII aF F_addresses F_predictions F_size F_place F_executed F_mispredictions ++ [])) sz) (wX4 cI cZ cII aP P_kinds P_targets P_outcomes P_lengths P_outcomeCounts P_counters P_next ++ (wX1 cI cZ cII aF y.1 F_predictions y.2 F_place F_executed F_mispredictions ++ [])) t) (va_A (wX4 cI cZ cII aP P_kinds P_targets P_outcomes P_lengths P_outcomeCounts P_counters P_next ++ (wX1 cI cZ cII aF F_addresses F_predictions F_size F_place F_executed F_mispredictions ++ [])) sz)) 0 0 (va_A (wX4 cI cZ cII aP P_kinds P_targets P_outcomes P_lengths P_outcomeCounts P_counters P_next ++ (wX1 cI cZ cII aF F_addresses F_predictions F_size F_place F_executed F_mispredictions ++ [])) sz) := by
  refine z_metv (cc := cX1_fillFromMemory) (maxL := 5) (by decide) rfl (Nat.le_of_ble_eq_true rfl) ?_
  intro p e s m args below meth c A ls Q H locs F hP hD hS hl hret
  obtain ⟨hx, hb, hml, hown, hts, hN, hK, hA⟩ := F
  have hown : s.vm.findClass RX1 = some m.cls := hown
  have hl : lv_has ls 5 [(0, .ref (aF 0)), (1, .ref (aP 0))] := hl
  have inX1 : ∀ w ∈ u_ws RX1 TX1 6, w ∈ wsX1_fillFromMemory := by decide +kernel
  have inX4 : ∀ w ∈ u_ws RX4 TX4 7, w ∈ wsX1_fillFromMemory := by decide +kernel
  have kX1_9 := hts (.fieldLink RX1 9 "TraceCache$Fetch" "addresses" "[I") (by decide +kernel)
  have kX1_34 := hts (.fieldLink RX1 34 "TraceCache$Fetch" "size" "I") (by decide +kernel)
  have J10 : ∀ (n10 : Nat), ∀ (F_addresses : Nat → Int32) (F_size : Int32) (x2 : Int32) (x3 : Int32) (x4 : Int32) (H : Heap) (locs : List Loc) (ls : Array Slot), m_X1_fillFromMemory_10 P_kinds P_counters P_next n10 F_addresses F_size x2 x3 x4 = some y → va_P D vwCl (wX4 cI cZ cII aP P_kinds P_targets P_outcomes P_lengths P_outcomeCounts P_counters P_next ++ (wX1 cI cZ cII aF F_addresses F_predictions F_size F_place F_executed F_mispredictions ++ [])) H → va_D A (wX4 cI cZ cII aP P_kinds P_targets P_outcomes P_lengths P_outcomeCounts P_counters P_next ++ (wX1 cI cZ cII aF F_addresses F_predictions F_size F_place F_executed F_mispredictions ++ [])) → va_S A s.heap H locs → lv_has ls 5 [(0, .ref (aF 0)), (1, .ref (aP 0)), (2, .int x2), (3, .int x3), (4, .int x4)] → W p l e ({ frames := 1, cells := 0, slots := 0, locals := 21 } : Room) s m args below meth c H locs 0 0 Q (F0 m 10 ls []) := by
    intro n10
    induction n10 with
    | zero =>
      intro F_addresses F_size x2 x3 x4 H locs ls hf hP hD hS hl
      rw [m_X1_fillFromMemory_10] at hf
      cases hf
    | succ n10 ih10 =>
      have J59 : ∀ (F_addresses : Nat → Int32) (F_size : Int32) (x2 : Int32) (x4 : Int32) (k0 : Int32) (H : Heap) (locs : List Loc) (ls : Array Slot), m_X1_fillFromMemory_59 P_kinds P_counters P_next (m_X1_fillFromMemory_10 P_kinds P_counters P_next n10) F_addresses F_size x2 x4 k0 = some y → va_P D vwCl (wX4 cI cZ cII aP P_kinds P_targets P_outcomes P_lengths P_outcomeCounts P_counters P_next ++ (wX1 cI cZ cII aF F_addresses F_predictions F_size F_place F_executed F_mispredictions ++ [])) H → va_D A (wX4 cI cZ cII aP P_kinds P_targets P_outcomes P_lengths P_outcomeCounts P_counters P_next ++ (wX1 cI cZ cII aF F_addresses F_predictions F_size F_place F_executed F_mispredictions ++ [])) → va_S A s.heap H locs → lv_has ls 5 [(0, .ref (aF 0)), (1, .ref (aP 0)), (2, .int x2), (4, .int x4)] → W p l e ({ frames := 1, cells := 0, slots := 0, locals := 21 } : Room) s m args below meth c H locs 0 0 Q (F0 m 59 ls [.int k0]) := by
        intro F_addresses F_size x2 x4 k0 H locs ls hf hP hD hS hl
        unfold m_X1_fillFromMemory_59 at hf
        refine lv_istore_n (lv' := [(3, .int k0), (0, .ref (aF 0)), (1, .ref (aP 0)), (2, .int x2), (4, .int x4)]) hx hb dX1_fillFromMemory_59 rfl hl (by decide) rfl (fun ls hl => ?_)
        refine lv_iload_n hx hb dX1_fillFromMemory_60 rfl (lv_at hl 3 rfl) ?_
        refine lv_iconst (v := 1) hx hb dX1_fillFromMemory_61 (by decide) ?_
        refine lv_iadd hx hb dX1_fillFromMemory_62 ?_
        refine lv_bipush (v := 48) hx hb dX1_fillFromMemory_63 (by decide) ?_
        refine lv_irem hx hb dX1_fillFromMemory_65 (by decide) ?_
        refine lv_topi (fun v66 ev66 => ?_)
        have hf := bd_t ev66 hf
        refine lv_istore_n (lv' := [(2, .int v66), (3, .int k0), (0, .ref (aF 0)), (1, .ref (aP 0)), (4, .int x4)]) hx hb dX1_fillFromMemory_66 rfl hl (by decide) rfl (fun ls hl => ?_)
        obtain ⟨v67, ev67⟩ : ∃ z : Int32, z = x4 + (1 : Int32) := ⟨_, rfl⟩
        have hf := bd_t ev67 hf
        refine lv_iinc (v := v67) (lv' := [(4, .int v67), (2, .int v66), (3, .int k0), (0, .ref (aF 0)), (1, .ref (aP 0))]) hx hb dX1_fillFromMemory_67 hl (k := 4) rfl (by rw [ev67]; rfl) (by decide) rfl (fun ls hl => ?_)
        refine lv_goto (tgt := 10) hx hb dX1_fillFromMemory_70 (by decide) ?_
        exact ih10 F_addresses F_size v66 k0 v67 _ _ _ hf hP hD hS (lv_sub hl [3, 4, 1, 2, 0] rfl)
      have J54 : ∀ (F_addresses : Nat → Int32) (F_size : Int32) (x2 : Int32) (x4 : Int32) (H : Heap) (locs : List Loc) (ls : Array Slot), m_X1_fillFromMemory_54 P_kinds P_counters P_next (m_X1_fillFromMemory_10 P_kinds P_counters P_next n10) F_addresses F_size x2 x4 = some y → va_P D vwCl (wX4 cI cZ cII aP P_kinds P_targets P_outcomes P_lengths P_outcomeCounts P_counters P_next ++ (wX1 cI cZ cII aF F_addresses F_predictions F_size F_place F_executed F_mispredictions ++ [])) H → va_D A (wX4 cI cZ cII aP P_kinds P_targets P_outcomes P_lengths P_outcomeCounts P_counters P_next ++ (wX1 cI cZ cII aF F_addresses F_predictions F_size F_place F_executed F_mispredictions ++ [])) → va_S A s.heap H locs → lv_has ls 5 [(0, .ref (aF 0)), (1, .ref (aP 0)), (2, .int x2), (4, .int x4)] → W p l e ({ frames := 1, cells := 0, slots := 0, locals := 21 } : Room) s m args below meth c H locs 0 0 Q (F0 m 54 ls []) := by
        intro F_addresses F_size x2 x4 H locs ls hf hP hD hS hl
        unfold m_X1_fillFromMemory_54 at hf
        refine lv_iconst (v := 1) hx hb dX1_fillFromMemory_54 (by decide) ?_
        refine lv_goto (tgt := 59) hx hb dX1_fillFromMemory_55 (by decide) ?_
        exact J59 F_addresses F_size x2 x4 (1 : Int32) _ _ _ hf hP hD hS (lv_sub hl [0, 1, 2, 3] rfl)
      intro F_addresses F_size x2 x3 x4 H locs ls hf hP hD hS hl
      rw [m_X1_fillFromMemory_10] at hf
      refine lv_iload hx hb dX1_fillFromMemory_10 (lv_at hl 4 rfl) ?_
      refine lv_iconst (v := 4) hx hb dX1_fillFromMemory_12 (by decide) ?_
      refine lv_icmp_ge (tgt := 73) hx hb dX1_fillFromMemory_13 (by decide) (fun c13 => ?_) (fun c13 => ?_)
      · have hf := if_t c13 hf
        obtain rfl := Option.some.inj hf
        exact hret _ _ _ _ dX1_fillFromMemory_73 hP hD hS
      · have hf := if_f c13 hf
        refine lv_iload_n hx hb dX1_fillFromMemory_16 rfl (lv_at hl 3 rfl) ?_
        refine lv_if_ne (tgt := 73) hx hb dX1_fillFromMemory_17 (by decide) (fun c17 => ?_) (fun c17 => ?_)
        · have hf := if_f c17 hf
          obtain rfl := Option.some.inj hf
          exact hret _ _ _ _ dX1_fillFromMemory_73 hP hD hS
        · have hf := if_t c17 hf
          refine lv_aload_n hx hb dX1_fillFromMemory_20 rfl (lv_at hl 0 rfl) ?_
          refine va_get (D := D) (ci := 1) (v := .ref (aF 1)) (C := RX1) (T := TX1) (N := 6) hx hb hts inX1 hown hK hP 7 rfl rfl 0 (by decide) kX1_9 (fun _ h9 => h9) rfl dX1_fillFromMemory_21 ?_
          refine lv_iload hx hb dX1_fillFromMemory_24 (lv_at hl 4 rfl) ?_
          refine lv_iload_n hx hb dX1_fillFromMemory_26 rfl (lv_at hl 2 rfl) ?_
          obtain ⟨g27, hf⟩ := gd_t hf
          refine va_iast hx hb hK hP hD hS 8 0 rfl rfl (inb_t g27) dX1_fillFromMemory_27 (fun H locs hP hD hS => ?_)
          obtain ⟨F_addresses_27, eF_addresses_27⟩ : ∃ z : Nat → Int32, z = upd F_addresses (Int32.toNatClampNeg x4) x2 := ⟨_, rfl⟩
          have hf := bd_t eF_addresses_27 hf
          have hP : va_P D vwCl (wX4 cI cZ cII aP P_kinds P_targets P_outcomes P_lengths P_outcomeCounts P_counters P_next ++ (wX1 cI cZ cII aF F_addresses_27 F_predictions F_size F_place F_executed F_mispredictions ++ [])) H := by rw [eF_addresses_27]; exact hP
          have hD : va_D A (wX4 cI cZ cII aP P_kinds P_targets P_outcomes P_lengths P_outcomeCounts P_counters P_next ++ (wX1 cI cZ cII aF F_addresses_27 F_predictions F_size F_place F_executed F_mispredictions ++ [])) := by rw [eF_addresses_27]; exact hD
          refine lv_aload_n hx hb dX1_fillFromMemory_28 rfl (lv_at hl 0 rfl) ?_
          refine lv_iload hx hb dX1_fillFromMemory_29 (lv_at hl 4 rfl) ?_
          refine lv_iconst (v := 1) hx hb dX1_fillFromMemory_31 (by decide) ?_
          refine lv_iadd hx hb dX1_fillFromMemory_32 ?_
          refine lv_topi (fun v33 ev33 => ?_)
          have hf := bd_t ev33 hf
          refine va_put (D := D) (ci := 1) (v := .int v33) (ty := .int) (C := RX1) (T := TX1) (N := 6) hx hb hts inX1 tyX1 tyX1_ok nmX1 hown hK hP hD hS 7 rfl rfl 2 (by decide) kX1_34 (fun _ h9 => h9) rfl (by decide +kernel) rfl rfl (Nat.le_of_ble_eq_true rfl) dX1_fillFromMemory_33 (fun H locs hP hD hS => ?_)
          have hP : va_P D vwCl (wX4 cI cZ cII aP P_kinds P_targets P_outcomes P_lengths P_outcomeCounts P_counters P_next ++ (wX1 cI cZ cII aF F_addresses_27 F_predictions v33 F_place F_executed F_mispredictions ++ [])) H := hP
          have hD : va_D A (wX4 cI cZ cII aP P_kinds P_targets P_outcomes P_lengths P_outcomeCounts P_counters P_next ++ (wX1 cI cZ cII aF F_addresses_27 F_predictions v33 F_place F_executed F_mispredictions ++ [])) := hD
          refine lv_aload_n hx hb dX1_fillFromMemory_36 rfl (lv_at hl 1 rfl) ?_
          refine va_getN (D := D) (ci := 4) (v := .ref (aP 1)) (C := RX4) (T := TX4) (N := 7) hx hb hts inX4 hown hK hP 0 rfl rfl 0 (by decide) (hN.use 1 rfl) (fun _ h9 => h9) rfl dX1_fillFromMemory_37 ?_
          refine lv_iload_n hx hb dX1_fillFromMemory_40 rfl (lv_at hl 2 rfl) ?_
          obtain ⟨g41, hf⟩ := gd_t hf
          refine va_iald hx hb hK hP 1 0 rfl rfl (inb_t g41) dX1_fillFromMemory_41 ?_
          refine lv_iconst (v := 1) hx hb dX1_fillFromMemory_42 (by decide) ?_
          refine lv_icmp_eq (tgt := 54) hx hb dX1_fillFromMemory_43 (by decide) (fun c43 => ?_) (fun c43 => ?_)
          · have hf := if_t c43 hf
            exact J54 F_addresses_27 v33 x2 x4 _ _ _ hf hP hD hS (lv_sub hl [0, 1, 2, 4] rfl)
          · have hf := if_f c43 hf
            refine lv_aload_n hx hb dX1_fillFromMemory_46 rfl (lv_at hl 1 rfl) ?_
            refine lv_iload_n hx hb dX1_fillFromMemory_47 rfl (lv_at hl 2 rfl) ?_
            obtain ⟨y48, h48, hf⟩ := bn_t hf
            refine z_ai (x := []) (b := wX4 cI cZ cII aP P_kinds P_targets P_outcomes P_lengths P_outcomeCounts P_counters P_next ++ []) (y := wX1 cI cZ cII aF F_addresses_27 F_predictions v33 F_place F_executed F_mispredictions ++ []) (b1 := wX4 cI cZ cII aP P_kinds P_targets P_outcomes P_lengths P_outcomeCounts P_counters P_next ++ []) (wsn := wX4 cI cZ cII aP P_kinds P_targets P_outcomes P_lengths P_outcomeCounts P_counters P_next ++ (wX1 cI cZ cII aF F_addresses_27 F_predictions v33 F_place F_executed F_mispredictions ++ [])) (va_runVN (As := [.int x2]) (rest := []) ⟨hx, hb, hml, hown, hts⟩ (c_X4_predictsTaken l D cI cZ cII cJ cM aP P_kinds P_targets P_outcomes P_lengths P_outcomeCounts P_counters P_next x2 H.size y48 h48) ⟨va_cnB 1 hts gX1_fillFromMemory_X4_predictsTaken_n58 rfl rfl rfl (hN.nw 69 rfl) (hts (.initialized RX4) (by decide +kernel)) (by decide +kernel) ⟨Nat.le_of_ble_eq_true rfl, Nat.le_of_ble_eq_true rfl⟩, hts (.instanceMethod yX4_predictsTaken) (by decide +kernel), hts (.selects RX4 yX4_predictsTaken yX4_predictsTaken) (by decide +kernel)⟩ (pz_V (x := []) (b := wX4 cI cZ cII aP P_kinds P_targets P_outcomes P_lengths P_outcomeCounts P_counters P_next ++ []) (y := wX1 cI cZ cII aF F_addresses_27 F_predictions v33 F_place F_executed F_mispredictions ++ []) (C := RX4) (T := TX4) (N := 7) (ci := 4) (As := [.int x2]) (bi := 0) hK hN hP hD (by simp only [List.append_assoc, List.nil_append, List.append_nil]) rfl rfl) rfl rfl hl.1 rfl (lv_room (Nat.le_of_ble_eq_true rfl)) dX1_fillFromMemory_48 ⟨Nat.le_of_ble_eq_true rfl, Nat.le_of_ble_eq_true rfl⟩) hP hD hS hA (by simp only [List.append_assoc, List.nil_append, List.append_nil]) (by simp only [List.append_assoc, List.nil_append, List.append_nil]) (fun H locs hP hD hS => ?_)
            refine lv_if_eq (tgt := 58) hx hb dX1_fillFromMemory_51 (by decide) (fun c51 => ?_) (fun c51 => ?_)
            · have hf := if_t c51 hf
              refine lv_iconst (v := 0) hx hb dX1_fillFromMemory_58 (by decide) ?_
              exact J59 F_addresses_27 v33 x2 x4 (0 : Int32) _ _ _ hf hP hD hS (lv_sub hl [0, 1, 2, 4] rfl)
            · have hf := if_f c51 hf
              exact J54 F_addresses_27 v33 x2 x4 _ _ _ hf hP hD hS (lv_sub hl [0, 1, 2, 4] rfl)
  unfold m_X1_fillFromMemory at hf
  refine lv_aload_n hx hb dX1_fillFromMemory_0 rfl (lv_at hl 1 rfl) ?_
  refine va_getN (D := D) (ci := 4) (v := .int P_next) (C := RX4) (T := TX4) (N := 7) hx hb hts inX4 hown hK hP 0 rfl rfl 6 (by decide) (hN.use 9 rfl) (fun _ h9 => h9) rfl dX1_fillFromMemory_1 ?_
  refine lv_istore_n (lv' := [(2, .int P_next), (0, .ref (aF 0)), (1, .ref (aP 0))]) hx hb dX1_fillFromMemory_4 rfl hl (by decide) rfl (fun ls hl => ?_)
  refine lv_iconst (v := 0) hx hb dX1_fillFromMemory_5 (by decide) ?_
  refine lv_istore_n (lv' := [(3, .int (0 : Int32)), (2, .int P_next), (0, .ref (aF 0)), (1, .ref (aP 0))]) hx hb dX1_fillFromMemory_6 rfl hl (by decide) rfl (fun ls hl => ?_)
  refine lv_iconst (v := 0) hx hb dX1_fillFromMemory_7 (by decide) ?_
  refine lv_istore (lv' := [(4, .int (0 : Int32)), (3, .int (0 : Int32)), (2, .int P_next), (0, .ref (aF 0)), (1, .ref (aP 0))]) hx hb dX1_fillFromMemory_8 hl (by decide) rfl (fun ls hl => ?_)
  exact J10 4000 F_addresses F_size P_next (0 : Int32) (0 : Int32) _ _ _ hf hP hD hS (lv_sub hl [3, 4, 2, 1, 0] rfl)
set_option maxHeartbeats 8000000 in
set_option maxRecDepth 100000 in
theorem c_X1_choose (l : Launch) (D : va_G) (cI cZ cII cJ cM : ClassId) (aC : Nat → Nat) (rC : Nat → Nat) (aP : Nat → Nat) (aF : Nat → Nat) (C_addresses : Nat → Nat → Int32) (C_sizes : Nat → Int32) (C_useNumbers : Nat → Int32) (C_lastUse : Int32) (C_put : Int32) (C_replaced : Int32) (C_dropped : Int32) (P_kinds : Nat → Int32) (P_targets : Nat → Int32) (P_outcomes : Nat → Int32) (P_lengths : Nat → Int32) (P_outcomeCounts : Nat → Int32) (P_counters : Nat → Int32) (P_next : Int32) (F_addresses : Nat → Int32) (F_predictions : Nat → Int32) (F_size : Int32) (F_place : Int32) (F_executed : Int32) (F_mispredictions : Int32) (sz : Nat) (y : (Nat → Int32) × (Nat → Int32) × (Int32) × (Int32)) (hf : m_X1_choose C_addresses C_sizes P_kinds P_targets P_counters P_next F_addresses F_predictions F_size F_place = some y) : Met l yX1_choose wsX1_choose ({ frames := 3, cells := 0, slots := 0, locals := 70 } : Room) (va_Pc [.ref (aF 0), .ref (aP 0), .ref (aC 0)] (pzPre D (zT cI cZ cII cJ cM) (wX0 cI cZ cII aC rC C_addresses C_sizes C_useNumbers C_lastUse C_put C_replaced C_dropped ++ (wX4 cI cZ cII aP P_kinds P_targets P_outcomes P_lengths P_outcomeCounts P_counters P_next ++ (wX1 cI cZ cII aF F_addresses F_predictions F_size F_place F_executed F_mispredictions ++ []))) sz)) (va_Qv (fun (_ : Unit) => True) (fun _ t => pzB D (zT cI cZ cII cJ cM) (va_A (wX0 cI cZ cII aC rC C_addresses C_sizes C_useNumbers C_lastUse C_put C_replaced C_dropped ++ (wX4 cI cZ cII aP P_kinds P_targets P_outcomes P_lengths P_outcomeCounts P_counters P_next ++ (wX1 cI cZ cII aF F_addresses F_predictions F_size F_place F_executed F_mispredictions ++ []))) sz) (wX0 cI cZ cII aC rC C_addresses C_sizes C_useNumbers C_lastUse C_put C_replaced C_dropped ++ (wX4 cI cZ cII aP P_kinds P_targets P_outcomes P_lengths P_outcomeCounts P_counters P_next ++ (wX1 cI cZ cII aF y.1 y.2.1 y.2.2.1 y.2.2.2 F_executed F_mispredictions ++ []))) t) (va_A (wX0 cI cZ cII aC rC C_addresses C_sizes C_useNumbers C_lastUse C_put C_replaced C_dropped ++ (wX4 cI cZ cII aP P_kinds P_targets P_outcomes P_lengths P_outcomeCounts P_counters P_next ++ (wX1 cI cZ cII aF F_addresses F_predictions F_size F_place F_executed F_mispredictions ++ []))) sz)) 0 0 (va_A (wX0 cI cZ cII aC rC C_addresses C_sizes C_useNumbers C_lastUse C_put C_replaced C_dropped ++ (wX4 cI cZ cII aP P_kinds P_targets P_outcomes P_lengths P_outcomeCounts P_counters P_next ++ (wX1 cI cZ cII aF F_addresses F_predictions F_size F_place F_executed F_mispredictions ++ []))) sz) := by
  refine z_metv (cc := cX1_choose) (maxL := 7) (by decide) rfl (Nat.le_of_ble_eq_true rfl) ?_
  intro p e s m args below meth c A ls Q H locs F hP hD hS hl hret
  obtain ⟨hx, hb, hml, hown, hts, hN, hK, hA⟩ := F
  have hown : s.vm.findClass RX1 = some m.cls := hown
  have hl : lv_has ls 7 [(0, .ref (aF 0)), (1, .ref (aP 0)), (2, .ref (aC 0))] := hl
  have inX0 : ∀ w ∈ u_ws RX0 TX0 7, w ∈ wsX1_choose := by decide +kernel
  have inX1 : ∀ w ∈ u_ws RX1 TX1 6, w ∈ wsX1_choose := by decide +kernel
  have inX4 : ∀ w ∈ u_ws RX4 TX4 7, w ∈ wsX1_choose := by decide +kernel
  have kX1_9 := hts (.fieldLink RX1 9 "TraceCache$Fetch" "addresses" "[I") (by decide +kernel)
  have kX1_15 := hts (.fieldLink RX1 15 "TraceCache$Fetch" "predictions" "[Z") (by decide +kernel)
  have kX1_31 := hts (.fieldLink RX1 31 "TraceCache$Fetch" "place" "I") (by decide +kernel)
  have kX1_34 := hts (.fieldLink RX1 34 "TraceCache$Fetch" "size" "I") (by decide +kernel)
  have J122 : ∀ (n122 : Nat), ∀ (F_addresses : Nat → Int32) (F_predictions : Nat → Int32) (F_size : Int32) (F_place : Int32) (x5 : Int32) (H : Heap) (locs : List Loc) (ls : Array Slot), m_X1_choose_122 C_addresses C_sizes P_kinds P_targets P_counters P_next n122 F_addresses F_predictions F_size F_place x5 = some y → va_P D vwCl (wX0 cI cZ cII aC rC C_addresses C_sizes C_useNumbers C_lastUse C_put C_replaced C_dropped ++ (wX4 cI cZ cII aP P_kinds P_targets P_outcomes P_lengths P_outcomeCounts P_counters P_next ++ (wX1 cI cZ cII aF F_addresses F_predictions F_size F_place F_executed F_mispredictions ++ []))) H → va_D A (wX0 cI cZ cII aC rC C_addresses C_sizes C_useNumbers C_lastUse C_put C_replaced C_dropped ++ (wX4 cI cZ cII aP P_kinds P_targets P_outcomes P_lengths P_outcomeCounts P_counters P_next ++ (wX1 cI cZ cII aF F_addresses F_predictions F_size F_place F_executed F_mispredictions ++ []))) → va_S A s.heap H locs → lv_has ls 7 [(0, .ref (aF 0)), (1, .ref (aP 0)), (5, .int x5)] → W p l e ({ frames := 3, cells := 0, slots := 0, locals := 70 } : Room) s m args below meth c H locs 0 0 Q (F0 m 122 ls []) := by
    intro n122
    induction n122 with
    | zero =>
      intro F_addresses F_predictions F_size F_place x5 H locs ls hf hP hD hS hl
      rw [m_X1_choose_122] at hf
      cases hf
    | succ n122 ih122 =>
      intro F_addresses F_predictions F_size F_place x5 H locs ls hf hP hD hS hl
      rw [m_X1_choose_122] at hf
      refine lv_iload hx hb dX1_choose_122 (lv_at hl 2 rfl) ?_
      refine lv_aload_n hx hb dX1_choose_124 rfl (lv_at hl 0 rfl) ?_
      refine va_get (D := D) (ci := 1) (v := .int F_size) (C := RX1) (T := TX1) (N := 6) hx hb hts inX1 hown hK hP 19 rfl rfl 2 (by decide) kX1_34 (fun _ h9 => h9) rfl dX1_choose_125 ?_
      refine lv_icmp_ge (tgt := 155) hx hb dX1_choose_128 (by decide) (fun c128 => ?_) (fun c128 => ?_)
      · have hf := if_t c128 hf
        obtain rfl := Option.some.inj hf
        exact hret _ _ _ _ dX1_choose_155 hP hD hS
      · have hf := if_f c128 hf
        refine lv_aload_n hx hb dX1_choose_131 rfl (lv_at hl 0 rfl) ?_
        refine va_get (D := D) (ci := 1) (v := .ref (aF 2)) (C := RX1) (T := TX1) (N := 6) hx hb hts inX1 hown hK hP 19 rfl rfl 1 (by decide) kX1_15 (fun _ h9 => h9) rfl dX1_choose_132 ?_
        refine lv_iload hx hb dX1_choose_135 (lv_at hl 2 rfl) ?_
        refine lv_aload_n hx hb dX1_choose_137 rfl (lv_at hl 1 rfl) ?_
        refine lv_aload_n hx hb dX1_choose_138 rfl (lv_at hl 0 rfl) ?_
        refine va_get (D := D) (ci := 1) (v := .ref (aF 1)) (C := RX1) (T := TX1) (N := 6) hx hb hts inX1 hown hK hP 19 rfl rfl 0 (by decide) kX1_9 (fun _ h9 => h9) rfl dX1_choose_139 ?_
        refine lv_iload hx hb dX1_choose_142 (lv_at hl 2 rfl) ?_
        obtain ⟨g144, hf⟩ := gd_t hf
        refine va_iald hx hb hK hP 20 0 rfl rfl (inb_t g144) dX1_choose_144 ?_
        obtain ⟨y145, h145, hf⟩ := bn_t hf
        refine z_ai (x := (wX0 cI cZ cII aC rC C_addresses C_sizes C_useNumbers C_lastUse C_put C_replaced C_dropped)) (b := wX4 cI cZ cII aP P_kinds P_targets P_outcomes P_lengths P_outcomeCounts P_counters P_next ++ []) (y := wX1 cI cZ cII aF F_addresses F_predictions F_size F_place F_executed F_mispredictions ++ []) (b1 := wX4 cI cZ cII aP P_kinds P_targets P_outcomes P_lengths P_outcomeCounts P_counters P_next ++ []) (wsn := wX0 cI cZ cII aC rC C_addresses C_sizes C_useNumbers C_lastUse C_put C_replaced C_dropped ++ (wX4 cI cZ cII aP P_kinds P_targets P_outcomes P_lengths P_outcomeCounts P_counters P_next ++ (wX1 cI cZ cII aF F_addresses F_predictions F_size F_place F_executed F_mispredictions ++ []))) (va_runVN (As := [.int (F_addresses (Int32.toNatClampNeg x5))]) (rest := [.int x5, .ref (aF 2)]) ⟨hx, hb, hml, hown, hts⟩ (c_X4_predictsTaken l D cI cZ cII cJ cM aP P_kinds P_targets P_outcomes P_lengths P_outcomeCounts P_counters P_next (F_addresses (Int32.toNatClampNeg x5)) H.size y145 h145) ⟨va_cnB 1 hts gX1_choose_X4_predictsTaken_n58 rfl rfl rfl (hN.nw 69 rfl) (hts (.initialized RX4) (by decide +kernel)) (by decide +kernel) ⟨Nat.le_of_ble_eq_true rfl, Nat.le_of_ble_eq_true rfl⟩, hts (.instanceMethod yX4_predictsTaken) (by decide +kernel), hts (.selects RX4 yX4_predictsTaken yX4_predictsTaken) (by decide +kernel)⟩ (pz_V (x := (wX0 cI cZ cII aC rC C_addresses C_sizes C_useNumbers C_lastUse C_put C_replaced C_dropped)) (b := wX4 cI cZ cII aP P_kinds P_targets P_outcomes P_lengths P_outcomeCounts P_counters P_next ++ []) (y := wX1 cI cZ cII aF F_addresses F_predictions F_size F_place F_executed F_mispredictions ++ []) (C := RX4) (T := TX4) (N := 7) (ci := 4) (As := [.int (F_addresses (Int32.toNatClampNeg x5))]) (bi := 0) hK hN hP hD (by simp only [List.append_assoc, List.nil_append, List.append_nil]) rfl rfl) rfl rfl hl.1 rfl (lv_room (Nat.le_of_ble_eq_true rfl)) dX1_choose_145 ⟨Nat.le_of_ble_eq_true rfl, Nat.le_of_ble_eq_true rfl⟩) hP hD hS hA (by simp only [List.append_assoc, List.nil_append, List.append_nil]) (by simp only [List.append_assoc, List.nil_append, List.append_nil]) (fun H locs hP hD hS => ?_)
        obtain ⟨g148, hf⟩ := gd_t hf
        refine va_zast hx hb hK hP hD hS 21 1 rfl rfl (inb_t g148) dX1_choose_148 (fun H locs hP hD hS => ?_)
        obtain ⟨F_predictions_148, eF_predictions_148⟩ : ∃ z : Nat → Int32, z = upd F_predictions (Int32.toNatClampNeg x5) (vp_nar .boolean y145) := ⟨_, rfl⟩
        have hf := bd_t eF_predictions_148 hf
        have hP : va_P D vwCl (wX0 cI cZ cII aC rC C_addresses C_sizes C_useNumbers C_lastUse C_put C_replaced C_dropped ++ (wX4 cI cZ cII aP P_kinds P_targets P_outcomes P_lengths P_outcomeCounts P_counters P_next ++ (wX1 cI cZ cII aF F_addresses F_predictions_148 F_size F_place F_executed F_mispredictions ++ []))) H := by rw [eF_predictions_148]; exact hP
        have hD : va_D A (wX0 cI cZ cII aC rC C_addresses C_sizes C_useNumbers C_lastUse C_put C_replaced C_dropped ++ (wX4 cI cZ cII aP P_kinds P_targets P_outcomes P_lengths P_outcomeCounts P_counters P_next ++ (wX1 cI cZ cII aF F_addresses F_predictions_148 F_size F_place F_executed F_mispredictions ++ []))) := by rw [eF_predictions_148]; exact hD
        obtain ⟨v149, ev149⟩ : ∃ z : Int32, z = x5 + (1 : Int32) := ⟨_, rfl⟩
        have hf := bd_t ev149 hf
        refine lv_iinc (v := v149) (lv' := [(5, .int v149), (0, .ref (aF 0)), (1, .ref (aP 0))]) hx hb dX1_choose_149 hl (k := 2) rfl (by rw [ev149]; rfl) (by decide) rfl (fun ls hl => ?_)
        refine lv_goto (tgt := 122) hx hb dX1_choose_152 (by decide) ?_
        exact ih122 F_addresses F_predictions_148 F_size F_place v149 _ _ _ hf hP hD hS (lv_sub hl [1, 2, 0] rfl)
  have J119 : ∀ (F_addresses : Nat → Int32) (F_predictions : Nat → Int32) (F_size : Int32) (F_place : Int32) (H : Heap) (locs : List Loc) (ls : Array Slot), m_X1_choose_119 C_addresses C_sizes P_kinds P_targets P_counters P_next F_addresses F_predictions F_size F_place = some y → va_P D vwCl (wX0 cI cZ cII aC rC C_addresses C_sizes C_useNumbers C_lastUse C_put C_replaced C_dropped ++ (wX4 cI cZ cII aP P_kinds P_targets P_outcomes P_lengths P_outcomeCounts P_counters P_next ++ (wX1 cI cZ cII aF F_addresses F_predictions F_size F_place F_executed F_mispredictions ++ []))) H → va_D A (wX0 cI cZ cII aC rC C_addresses C_sizes C_useNumbers C_lastUse C_put C_replaced C_dropped ++ (wX4 cI cZ cII aP P_kinds P_targets P_outcomes P_lengths P_outcomeCounts P_counters P_next ++ (wX1 cI cZ cII aF F_addresses F_predictions F_size F_place F_executed F_mispredictions ++ []))) → va_S A s.heap H locs → lv_has ls 7 [(0, .ref (aF 0)), (1, .ref (aP 0))] → W p l e ({ frames := 3, cells := 0, slots := 0, locals := 70 } : Room) s m args below meth c H locs 0 0 Q (F0 m 119 ls []) := by
    intro F_addresses F_predictions F_size F_place H locs ls hf hP hD hS hl
    unfold m_X1_choose_119 at hf
    refine lv_iconst (v := 0) hx hb dX1_choose_119 (by decide) ?_
    refine lv_istore (lv' := [(5, .int (0 : Int32)), (0, .ref (aF 0)), (1, .ref (aP 0))]) hx hb dX1_choose_120 hl (by decide) rfl (fun ls hl => ?_)
    exact J122 4000 F_addresses F_predictions F_size F_place (0 : Int32) _ _ _ hf hP hD hS (lv_sub hl [1, 2, 0] rfl)
  have J25 : ∀ (n25 : Nat), ∀ (F_addresses : Nat → Int32) (F_predictions : Nat → Int32) (F_size : Int32) (F_place : Int32) (x3 : Int32) (x4 : Int32) (x5 : Int32) (H : Heap) (locs : List Loc) (ls : Array Slot), m_X1_choose_25 C_addresses C_sizes P_kinds P_targets P_counters P_next n25 F_addresses F_predictions F_size F_place x3 x4 x5 = some y → va_P D vwCl (wX0 cI cZ cII aC rC C_addresses C_sizes C_useNumbers C_lastUse C_put C_replaced C_dropped ++ (wX4 cI cZ cII aP P_kinds P_targets P_outcomes P_lengths P_outcomeCounts P_counters P_next ++ (wX1 cI cZ cII aF F_addresses F_predictions F_size F_place F_executed F_mispredictions ++ []))) H → va_D A (wX0 cI cZ cII aC rC C_addresses C_sizes C_useNumbers C_lastUse C_put C_replaced C_dropped ++ (wX4 cI cZ cII aP P_kinds P_targets P_outcomes P_lengths P_outcomeCounts P_counters P_next ++ (wX1 cI cZ cII aF F_addresses F_predictions F_size F_place F_executed F_mispredictions ++ []))) → va_S A s.heap H locs → lv_has ls 7 [(0, .ref (aF 0)), (1, .ref (aP 0)), (2, .ref (aC 0)), (3, .int x3), (4, .int x4), (5, .int x5)] → W p l e ({ frames := 3, cells := 0, slots := 0, locals := 70 } : Room) s m args below meth c H locs 0 0 Q (F0 m 25 ls []) := by
    intro n25
    induction n25 with
    | zero =>
      intro F_addresses F_predictions F_size F_place x3 x4 x5 H locs ls hf hP hD hS hl
      rw [m_X1_choose_25] at hf
      cases hf
    | succ n25 ih25 =>
      have J75 : ∀ (F_addresses : Nat → Int32) (F_predictions : Nat → Int32) (F_size : Int32) (F_place : Int32) (x3 : Int32) (x4 : Int32) (x5 : Int32) (H : Heap) (locs : List Loc) (ls : Array Slot), m_X1_choose_75 C_addresses C_sizes P_kinds P_targets P_counters P_next (m_X1_choose_25 C_addresses C_sizes P_kinds P_targets P_counters P_next n25) F_addresses F_predictions F_size F_place x3 x4 x5 = some y → va_P D vwCl (wX0 cI cZ cII aC rC C_addresses C_sizes C_useNumbers C_lastUse C_put C_replaced C_dropped ++ (wX4 cI cZ cII aP P_kinds P_targets P_outcomes P_lengths P_outcomeCounts P_counters P_next ++ (wX1 cI cZ cII aF F_addresses F_predictions F_size F_place F_executed F_mispredictions ++ []))) H → va_D A (wX0 cI cZ cII aC rC C_addresses C_sizes C_useNumbers C_lastUse C_put C_replaced C_dropped ++ (wX4 cI cZ cII aP P_kinds P_targets P_outcomes P_lengths P_outcomeCounts P_counters P_next ++ (wX1 cI cZ cII aF F_addresses F_predictions F_size F_place F_executed F_mispredictions ++ []))) → va_S A s.heap H locs → lv_has ls 7 [(0, .ref (aF 0)), (1, .ref (aP 0)), (2, .ref (aC 0)), (3, .int x3), (4, .int x4), (5, .int x5)] → W p l e ({ frames := 3, cells := 0, slots := 0, locals := 70 } : Room) s m args below meth c H locs 0 0 Q (F0 m 75 ls []) := by
        intro F_addresses F_predictions F_size F_place x3 x4 x5 H locs ls hf hP hD hS hl
        unfold m_X1_choose_75 at hf
        obtain ⟨v75, ev75⟩ : ∃ z : Int32, z = x5 + (1 : Int32) := ⟨_, rfl⟩
        have hf := bd_t ev75 hf
        refine lv_iinc (v := v75) (lv' := [(5, .int v75), (0, .ref (aF 0)), (1, .ref (aP 0)), (2, .ref (aC 0)), (3, .int x3), (4, .int x4)]) hx hb dX1_choose_75 hl (k := 5) rfl (by rw [ev75]; rfl) (by decide) rfl (fun ls hl => ?_)
        refine lv_goto (tgt := 25) hx hb dX1_choose_78 (by decide) ?_
        exact ih25 F_addresses F_predictions F_size F_place x3 x4 v75 _ _ _ hf hP hD hS (lv_sub hl [1, 2, 3, 4, 5, 0] rfl)
      intro F_addresses F_predictions F_size F_place x3 x4 x5 H locs ls hf hP hD hS hl
      rw [m_X1_choose_25] at hf
      refine lv_iload hx hb dX1_choose_25 (lv_at hl 5 rfl) ?_
      refine lv_iload hx hb dX1_choose_27 (lv_at hl 4 rfl) ?_
      refine lv_iconst (v := 2) hx hb dX1_choose_29 (by decide) ?_
      refine lv_iadd hx hb dX1_choose_30 ?_
      refine lv_icmp_ge (tgt := 81) hx hb dX1_choose_31 (by decide) (fun c31 => ?_) (fun c31 => ?_)
      · have hf := if_t c31 hf
        refine lv_aload_n hx hb dX1_choose_81 rfl (lv_at hl 0 rfl) ?_
        refine va_get (D := D) (ci := 1) (v := .int F_place) (C := RX1) (T := TX1) (N := 6) hx hb hts inX1 hown hK hP 19 rfl rfl 3 (by decide) kX1_31 (fun _ h9 => h9) rfl dX1_choose_82 ?_
        refine lv_iconst (v := -1) hx hb dX1_choose_85 (by decide) ?_
        refine lv_icmp_ne (tgt := 97) hx hb dX1_choose_86 (by decide) (fun c86 => ?_) (fun c86 => ?_)
        · have hf := if_f c86 hf
          refine lv_aload_n hx hb dX1_choose_97 rfl (lv_at hl 2 rfl) ?_
          refine va_getN (D := D) (ci := 0) (v := .ref (aC 1)) (C := RX0) (T := TX0) (N := 7) hx hb hts inX0 hown hK hP 0 rfl rfl 0 (by decide) (hN.use 12 rfl) (fun _ h9 => h9) rfl dX1_choose_98 ?_
          refine lv_aload_n hx hb dX1_choose_101 rfl (lv_at hl 0 rfl) ?_
          refine va_get (D := D) (ci := 1) (v := .int F_place) (C := RX1) (T := TX1) (N := 6) hx hb hts inX1 hown hK hP 19 rfl rfl 3 (by decide) kX1_31 (fun _ h9 => h9) rfl dX1_choose_102 ?_
          obtain ⟨g105, hf⟩ := gd_t hf
          refine z_aald8 (rr := rC) hx hb hK hP 1 2 rfl rfl (inb_t g105) (inb_c g105) dX1_choose_105 ?_
          refine lv_iconst (v := 0) hx hb dX1_choose_106 (by decide) ?_
          refine lv_aload_n hx hb dX1_choose_107 rfl (lv_at hl 0 rfl) ?_
          refine va_get (D := D) (ci := 1) (v := .ref (aF 1)) (C := RX1) (T := TX1) (N := 6) hx hb hts inX1 hown hK hP 19 rfl rfl 0 (by decide) kX1_9 (fun _ h9 => h9) rfl dX1_choose_108 ?_
          refine lv_iconst (v := 0) hx hb dX1_choose_111 (by decide) ?_
          refine lv_aload_n hx hb dX1_choose_112 rfl (lv_at hl 0 rfl) ?_
          refine va_get (D := D) (ci := 1) (v := .int F_size) (C := RX1) (T := TX1) (N := 6) hx hb hts inX1 hown hK hP 19 rfl rfl 2 (by decide) kX1_34 (fun _ h9 => h9) rfl dX1_choose_113 ?_
          obtain ⟨g116, hf⟩ := gd_t hf
          obtain ⟨g1161, g1162, g1163, g1164, g1165⟩ := cpb_t g116
          refine va_copyi hx hb (hml.trans hl.1.symm) hown (hts (.methodLink RX1 52 arraycopyName) (by decide +kernel)) (hts (.native arraycopyName) (by decide +kernel)) (hts (.static arraycopyName) (by decide +kernel)) (hts (.initialized "java/lang/System") (by decide +kernel)) hK hP hD hS _ 20 0 0 (wX0_row (cZ := cZ) (x := []) (inb_c g105)) rfl rfl rfl rfl g1161 g1162 g1163 g1164 g1165 (fun _ _ => rfl) (Nat.le_of_ble_eq_true rfl) (Nat.le_of_ble_eq_true rfl) dX1_choose_116 (fun H locs hP hD hS => ?_)
          obtain ⟨F_addresses_116, eF_addresses_116⟩ : ∃ z : Nat → Int32, z = va_cpy (C_addresses (Int32.toNatClampNeg F_place)) F_addresses (Int32.toNatClampNeg (0 : Int32)) (Int32.toNatClampNeg (0 : Int32)) (Int32.toNatClampNeg F_size) := ⟨_, rfl⟩
          have hf := bd_t eF_addresses_116 hf
          have hP : va_P D vwCl (wX0 cI cZ cII aC rC C_addresses C_sizes C_useNumbers C_lastUse C_put C_replaced C_dropped ++ (wX4 cI cZ cII aP P_kinds P_targets P_outcomes P_lengths P_outcomeCounts P_counters P_next ++ (wX1 cI cZ cII aF F_addresses_116 F_predictions F_size F_place F_executed F_mispredictions ++ []))) H := by rw [eF_addresses_116]; exact hP
          have hD : va_D A (wX0 cI cZ cII aC rC C_addresses C_sizes C_useNumbers C_lastUse C_put C_replaced C_dropped ++ (wX4 cI cZ cII aP P_kinds P_targets P_outcomes P_lengths P_outcomeCounts P_counters P_next ++ (wX1 cI cZ cII aF F_addresses_116 F_predictions F_size F_place F_executed F_mispredictions ++ []))) := by rw [eF_addresses_116]; exact hD
          exact J119 F_addresses_116 F_predictions F_size F_place _ _ _ hf hP hD hS (lv_sub hl [0, 1] rfl)
        · have hf := if_t c86 hf
          refine lv_aload_n hx hb dX1_choose_89 rfl (lv_at hl 0 rfl) ?_
          refine lv_aload_n hx hb dX1_choose_90 rfl (lv_at hl 1 rfl) ?_
          obtain ⟨y91, h91, hf⟩ := bn_t hf
          refine z_av (x := (wX0 cI cZ cII aC rC C_addresses C_sizes C_useNumbers C_lastUse C_put C_replaced C_dropped)) (b := wX4 cI cZ cII aP P_kinds P_targets P_outcomes P_lengths P_outcomeCounts P_counters P_next ++ (wX1 cI cZ cII aF F_addresses F_predictions F_size F_place F_executed F_mispredictions ++ [])) (y := ([] : va_W)) (b1 := wX4 cI cZ cII aP P_kinds P_targets P_outcomes P_lengths P_outcomeCounts P_counters P_next ++ (wX1 cI cZ cII aF y91.1 F_predictions y91.2 F_place F_executed F_mispredictions ++ [])) (wsn := wX0 cI cZ cII aC rC C_addresses C_sizes C_useNumbers C_lastUse C_put C_replaced C_dropped ++ (wX4 cI cZ cII aP P_kinds P_targets P_outcomes P_lengths P_outcomeCounts P_counters P_next ++ (wX1 cI cZ cII aF y91.1 F_predictions y91.2 F_place F_executed F_mispredictions ++ []))) (va_runV (As := [.ref (aP 0)]) (rest := []) ⟨hx, hb, hml, hown, hts⟩ (c_X1_fillFromMemory l D cI cZ cII cJ cM aP aF P_kinds P_targets P_outcomes P_lengths P_outcomeCounts P_counters P_next F_addresses F_predictions F_size F_place F_executed F_mispredictions H.size y91 h91) (cwV 1 hts gX1_choose_X1_fillFromMemory rfl rfl rfl (by decide +kernel) ⟨Nat.le_of_ble_eq_true rfl, Nat.le_of_ble_eq_true rfl⟩) (pz_V (x := (wX0 cI cZ cII aC rC C_addresses C_sizes C_useNumbers C_lastUse C_put C_replaced C_dropped)) (b := wX4 cI cZ cII aP P_kinds P_targets P_outcomes P_lengths P_outcomeCounts P_counters P_next ++ (wX1 cI cZ cII aF F_addresses F_predictions F_size F_place F_executed F_mispredictions ++ [])) (y := ([] : va_W)) (C := RX1) (T := TX1) (N := 6) (ci := 1) (As := [.ref (aP 0)]) (bi := 7) hK hN hP hD (by simp only [List.append_assoc, List.nil_append, List.append_nil]) rfl rfl) rfl rfl hl.1 rfl (lv_room (Nat.le_of_ble_eq_true rfl)) dX1_choose_91 ⟨Nat.le_of_ble_eq_true rfl, Nat.le_of_ble_eq_true rfl⟩) hP hD hS hA (by simp only [List.append_assoc, List.nil_append, List.append_nil]) (by simp only [List.append_assoc, List.nil_append, List.append_nil]) (fun H locs hP hD hS => ?_)
          refine lv_goto (tgt := 119) hx hb dX1_choose_94 (by decide) ?_
          exact J119 y91.1 F_predictions y91.2 F_place _ _ _ hf hP hD hS (lv_sub hl [0, 1] rfl)
      · have hf := if_f c31 hf
        refine lv_aload_n hx hb dX1_choose_34 rfl (lv_at hl 2 rfl) ?_
        refine lv_iload hx hb dX1_choose_35 (lv_at hl 5 rfl) ?_
        refine lv_iconst (v := 0) hx hb dX1_choose_37 (by decide) ?_
        obtain ⟨y38, h38, hf⟩ := bn_t hf
        refine z_ai (x := []) (b := wX0 cI cZ cII aC rC C_addresses C_sizes C_useNumbers C_lastUse C_put C_replaced C_dropped ++ []) (y := wX4 cI cZ cII aP P_kinds P_targets P_outcomes P_lengths P_outcomeCounts P_counters P_next ++ (wX1 cI cZ cII aF F_addresses F_predictions F_size F_place F_executed F_mispredictions ++ [])) (b1 := wX0 cI cZ cII aC rC C_addresses C_sizes C_useNumbers C_lastUse C_put C_replaced C_dropped ++ []) (wsn := wX0 cI cZ cII aC rC C_addresses C_sizes C_useNumbers C_lastUse C_put C_replaced C_dropped ++ (wX4 cI cZ cII aP P_kinds P_targets P_outcomes P_lengths P_outcomeCounts P_counters P_next ++ (wX1 cI cZ cII aF F_addresses F_predictions F_size F_place F_executed F_mispredictions ++ []))) (va_runVN (As := [.int x5, .int (0 : Int32)]) (rest := []) ⟨hx, hb, hml, hown, hts⟩ (c_X0_addressAt l D cI cZ cII cJ cM aC rC C_addresses C_sizes C_useNumbers C_lastUse C_put C_replaced C_dropped x5 (0 : Int32) H.size y38 h38) ⟨va_cnB 2 hts gX1_choose_X0_addressAt_n37 rfl rfl rfl (hN.nw 66 rfl) (hts (.initialized RX0) (by decide +kernel)) (by decide +kernel) ⟨Nat.le_of_ble_eq_true rfl, Nat.le_of_ble_eq_true rfl⟩, hts (.instanceMethod yX0_addressAt) (by decide +kernel), hts (.selects RX0 yX0_addressAt yX0_addressAt) (by decide +kernel)⟩ (pz_V (x := []) (b := wX0 cI cZ cII aC rC C_addresses C_sizes C_useNumbers C_lastUse C_put C_replaced C_dropped ++ []) (y := wX4 cI cZ cII aP P_kinds P_targets P_outcomes P_lengths P_outcomeCounts P_counters P_next ++ (wX1 cI cZ cII aF F_addresses F_predictions F_size F_place F_executed F_mispredictions ++ [])) (C := RX0) (T := TX0) (N := 7) (ci := 0) (As := [.int x5, .int (0 : Int32)]) (bi := 0) hK hN hP hD (by simp only [List.append_assoc, List.nil_append, List.append_nil]) rfl rfl) rfl rfl hl.1 rfl (lv_room (Nat.le_of_ble_eq_true rfl)) dX1_choose_38 ⟨Nat.le_of_ble_eq_true rfl, Nat.le_of_ble_eq_true rfl⟩) hP hD hS hA (by simp only [List.append_assoc, List.nil_append, List.append_nil]) (by simp only [List.append_assoc, List.nil_append, List.append_nil]) (fun H locs hP hD hS => ?_)
        refine lv_iload_n hx hb dX1_choose_41 rfl (lv_at hl 3 rfl) ?_
        refine lv_icmp_ne (tgt := 75) hx hb dX1_choose_42 (by decide) (fun c42 => ?_) (fun c42 => ?_)
        · have hf := if_f c42 hf
          exact J75 F_addresses F_predictions F_size F_place x3 x4 x5 _ _ _ hf hP hD hS (lv_sub hl [0, 1, 2, 3, 4, 5] rfl)
        · have hf := if_t c42 hf
          refine lv_aload_n hx hb dX1_choose_45 rfl (lv_at hl 2 rfl) ?_
          refine lv_iload hx hb dX1_choose_46 (lv_at hl 5 rfl) ?_
          refine lv_aload_n hx hb dX1_choose_48 rfl (lv_at hl 1 rfl) ?_
          obtain ⟨y49, h49, hf⟩ := bn_t hf
          refine z_ai (x := []) (b := wX0 cI cZ cII aC rC C_addresses C_sizes C_useNumbers C_lastUse C_put C_replaced C_dropped ++ (wX4 cI cZ cII aP P_kinds P_targets P_outcomes P_lengths P_outcomeCounts P_counters P_next ++ [])) (y := wX1 cI cZ cII aF F_addresses F_predictions F_size F_place F_executed F_mispredictions ++ []) (b1 := wX0 cI cZ cII aC rC C_addresses C_sizes C_useNumbers C_lastUse C_put C_replaced C_dropped ++ (wX4 cI cZ cII aP P_kinds P_targets P_outcomes P_lengths P_outcomeCounts P_counters P_next ++ [])) (wsn := wX0 cI cZ cII aC rC C_addresses C_sizes C_useNumbers C_lastUse C_put C_replaced C_dropped ++ (wX4 cI cZ cII aP P_kinds P_targets P_outcomes P_lengths P_outcomeCounts P_counters P_next ++ (wX1 cI cZ cII aF F_addresses F_predictions F_size F_place F_executed F_mispredictions ++ []))) (va_runVN (As := [.int x5, .ref (aP 0)]) (rest := []) ⟨hx, hb, hml, hown, hts⟩ (c_X0_usableSize l D cI cZ cII cJ cM aC rC aP C_addresses C_sizes C_useNumbers C_lastUse C_put C_replaced C_dropped P_kinds P_targets P_outcomes P_lengths P_outcomeCounts P_counters P_next x5 H.size y49 h49) ⟨va_cnB 2 hts gX1_choose_X0_usableSize_n41 rfl rfl rfl (hN.nw 67 rfl) (hts (.initialized RX0) (by decide +kernel)) (by decide +kernel) ⟨Nat.le_of_ble_eq_true rfl, Nat.le_of_ble_eq_true rfl⟩, hts (.instanceMethod yX0_usableSize) (by decide +kernel), hts (.selects RX0 yX0_usableSize yX0_usableSize) (by decide +kernel)⟩ (pz_V (x := []) (b := wX0 cI cZ cII aC rC C_addresses C_sizes C_useNumbers C_lastUse C_put C_replaced C_dropped ++ (wX4 cI cZ cII aP P_kinds P_targets P_outcomes P_lengths P_outcomeCounts P_counters P_next ++ [])) (y := wX1 cI cZ cII aF F_addresses F_predictions F_size F_place F_executed F_mispredictions ++ []) (C := RX0) (T := TX0) (N := 7) (ci := 0) (As := [.int x5, .ref (aP 0)]) (bi := 0) hK hN hP hD (by simp only [List.append_assoc, List.nil_append, List.append_nil]) rfl rfl) rfl rfl hl.1 rfl (lv_room (Nat.le_of_ble_eq_true rfl)) dX1_choose_49 ⟨Nat.le_of_ble_eq_true rfl, Nat.le_of_ble_eq_true rfl⟩) hP hD hS hA (by simp only [List.append_assoc, List.nil_append, List.append_nil]) (by simp only [List.append_assoc, List.nil_append, List.append_nil]) (fun H locs hP hD hS => ?_)
          refine lv_istore (lv' := [(6, .int y49), (0, .ref (aF 0)), (1, .ref (aP 0)), (2, .ref (aC 0)), (3, .int x3), (4, .int x4), (5, .int x5)]) hx hb dX1_choose_52 hl (by decide) rfl (fun ls hl => ?_)
          refine lv_iload hx hb dX1_choose_54 (lv_at hl 0 rfl) ?_
          refine lv_aload_n hx hb dX1_choose_56 rfl (lv_at hl 1 rfl) ?_
          refine va_get (D := D) (ci := 1) (v := .int F_size) (C := RX1) (T := TX1) (N := 6) hx hb hts inX1 hown hK hP 19 rfl rfl 2 (by decide) kX1_34 (fun _ h9 => h9) rfl dX1_choose_57 ?_
          refine lv_icmp_le (tgt := 75) hx hb dX1_choose_60 (by decide) (fun c60 => ?_) (fun c60 => ?_)
          · have hf := if_t c60 hf
            exact J75 F_addresses F_predictions F_size F_place x3 x4 x5 _ _ _ hf hP hD hS (lv_sub hl [1, 2, 3, 4, 5, 6] rfl)
          · have hf := if_f c60 hf
            refine lv_aload_n hx hb dX1_choose_63 rfl (lv_at hl 1 rfl) ?_
            refine lv_iload hx hb dX1_choose_64 (lv_at hl 6 rfl) ?_
            refine va_put (D := D) (ci := 1) (v := .int x5) (ty := .int) (C := RX1) (T := TX1) (N := 6) hx hb hts inX1 tyX1 tyX1_ok nmX1 hown hK hP hD hS 19 rfl rfl 3 (by decide) kX1_31 (fun _ h9 => h9) rfl (by decide +kernel) rfl rfl (Nat.le_of_ble_eq_true rfl) dX1_choose_66 (fun H locs hP hD hS => ?_)
            have hP : va_P D vwCl (wX0 cI cZ cII aC rC C_addresses C_sizes C_useNumbers C_lastUse C_put C_replaced C_dropped ++ (wX4 cI cZ cII aP P_kinds P_targets P_outcomes P_lengths P_outcomeCounts P_counters P_next ++ (wX1 cI cZ cII aF F_addresses F_predictions F_size x5 F_executed F_mispredictions ++ []))) H := hP
            have hD : va_D A (wX0 cI cZ cII aC rC C_addresses C_sizes C_useNumbers C_lastUse C_put C_replaced C_dropped ++ (wX4 cI cZ cII aP P_kinds P_targets P_outcomes P_lengths P_outcomeCounts P_counters P_next ++ (wX1 cI cZ cII aF F_addresses F_predictions F_size x5 F_executed F_mispredictions ++ []))) := hD
            refine lv_aload_n hx hb dX1_choose_69 rfl (lv_at hl 1 rfl) ?_
            refine lv_iload hx hb dX1_choose_70 (lv_at hl 0 rfl) ?_
            refine va_put (D := D) (ci := 1) (v := .int y49) (ty := .int) (C := RX1) (T := TX1) (N := 6) hx hb hts inX1 tyX1 tyX1_ok nmX1 hown hK hP hD hS 19 rfl rfl 2 (by decide) kX1_34 (fun _ h9 => h9) rfl (by decide +kernel) rfl rfl (Nat.le_of_ble_eq_true rfl) dX1_choose_72 (fun H locs hP hD hS => ?_)
            have hP : va_P D vwCl (wX0 cI cZ cII aC rC C_addresses C_sizes C_useNumbers C_lastUse C_put C_replaced C_dropped ++ (wX4 cI cZ cII aP P_kinds P_targets P_outcomes P_lengths P_outcomeCounts P_counters P_next ++ (wX1 cI cZ cII aF F_addresses F_predictions y49 x5 F_executed F_mispredictions ++ []))) H := hP
            have hD : va_D A (wX0 cI cZ cII aC rC C_addresses C_sizes C_useNumbers C_lastUse C_put C_replaced C_dropped ++ (wX4 cI cZ cII aP P_kinds P_targets P_outcomes P_lengths P_outcomeCounts P_counters P_next ++ (wX1 cI cZ cII aF F_addresses F_predictions y49 x5 F_executed F_mispredictions ++ []))) := hD
            exact J75 F_addresses F_predictions y49 x5 x3 x4 x5 _ _ _ hf hP hD hS (lv_sub hl [1, 2, 3, 4, 5, 6] rfl)
  unfold m_X1_choose at hf
  refine lv_aload_n hx hb dX1_choose_0 rfl (lv_at hl 1 rfl) ?_
  refine va_getN (D := D) (ci := 4) (v := .int P_next) (C := RX4) (T := TX4) (N := 7) hx hb hts inX4 hown hK hP 12 rfl rfl 6 (by decide) (hN.use 9 rfl) (fun _ h9 => h9) rfl dX1_choose_1 ?_
  refine lv_istore_n (lv' := [(3, .int P_next), (0, .ref (aF 0)), (1, .ref (aP 0)), (2, .ref (aC 0))]) hx hb dX1_choose_4 rfl hl (by decide) rfl (fun ls hl => ?_)
  refine lv_iload_n hx hb dX1_choose_5 rfl (lv_at hl 0 rfl) ?_
  obtain ⟨y6, h6, hf⟩ := bn_t hf
  refine z_ai (x := []) (b := ([] : va_W)) (y := wX0 cI cZ cII aC rC C_addresses C_sizes C_useNumbers C_lastUse C_put C_replaced C_dropped ++ (wX4 cI cZ cII aP P_kinds P_targets P_outcomes P_lengths P_outcomeCounts P_counters P_next ++ (wX1 cI cZ cII aF F_addresses F_predictions F_size F_place F_executed F_mispredictions ++ []))) (b1 := ([] : va_W)) (wsn := wX0 cI cZ cII aC rC C_addresses C_sizes C_useNumbers C_lastUse C_put C_replaced C_dropped ++ (wX4 cI cZ cII aP P_kinds P_targets P_outcomes P_lengths P_outcomeCounts P_counters P_next ++ (wX1 cI cZ cII aF F_addresses F_predictions F_size F_place F_executed F_mispredictions ++ []))) (va_runSN (As := [.int P_next]) (rest := []) ⟨hx, hb, hml, hown, hts⟩ (c_X0_firstPlaceFor l D cI cZ cII cJ cM P_next H.size y6 h6) ⟨va_cnB 1 hts gX1_choose_X0_firstPlaceFor_n25 rfl rfl rfl (hN.nw 65 rfl) (hts (.initialized RX0) (by decide +kernel)) (by decide +kernel) ⟨Nat.le_of_ble_eq_true rfl, Nat.le_of_ble_eq_true rfl⟩, hts (.static yX0_firstPlaceFor) (by decide +kernel), trivial⟩ (pz_S (x := []) (b := ([] : va_W)) (y := wX0 cI cZ cII aC rC C_addresses C_sizes C_useNumbers C_lastUse C_put C_replaced C_dropped ++ (wX4 cI cZ cII aP P_kinds P_targets P_outcomes P_lengths P_outcomeCounts P_counters P_next ++ (wX1 cI cZ cII aF F_addresses F_predictions F_size F_place F_executed F_mispredictions ++ []))) hK hN hP hD (by simp only [List.append_assoc, List.nil_append, List.append_nil])) rfl rfl hl.1 rfl (lv_room (Nat.le_of_ble_eq_true rfl)) dX1_choose_6 ⟨Nat.le_of_ble_eq_true rfl, Nat.le_of_ble_eq_true rfl⟩) hP hD hS hA (by simp only [List.append_assoc, List.nil_append, List.append_nil]) (by simp only [List.append_assoc, List.nil_append, List.append_nil]) (fun H locs hP hD hS => ?_)
  refine lv_istore (lv' := [(4, .int y6), (3, .int P_next), (0, .ref (aF 0)), (1, .ref (aP 0)), (2, .ref (aC 0))]) hx hb dX1_choose_9 hl (by decide) rfl (fun ls hl => ?_)
  refine lv_aload_n hx hb dX1_choose_11 rfl (lv_at hl 2 rfl) ?_
  refine lv_iconst (v := -1) hx hb dX1_choose_12 (by decide) ?_
  refine va_put (D := D) (ci := 1) (v := .int (-1 : Int32)) (ty := .int) (C := RX1) (T := TX1) (N := 6) hx hb hts inX1 tyX1 tyX1_ok nmX1 hown hK hP hD hS 19 rfl rfl 3 (by decide) kX1_31 (fun _ h9 => h9) rfl (by decide +kernel) rfl rfl (Nat.le_of_ble_eq_true rfl) dX1_choose_13 (fun H locs hP hD hS => ?_)
  have hP : va_P D vwCl (wX0 cI cZ cII aC rC C_addresses C_sizes C_useNumbers C_lastUse C_put C_replaced C_dropped ++ (wX4 cI cZ cII aP P_kinds P_targets P_outcomes P_lengths P_outcomeCounts P_counters P_next ++ (wX1 cI cZ cII aF F_addresses F_predictions F_size (-1 : Int32) F_executed F_mispredictions ++ []))) H := hP
  have hD : va_D A (wX0 cI cZ cII aC rC C_addresses C_sizes C_useNumbers C_lastUse C_put C_replaced C_dropped ++ (wX4 cI cZ cII aP P_kinds P_targets P_outcomes P_lengths P_outcomeCounts P_counters P_next ++ (wX1 cI cZ cII aF F_addresses F_predictions F_size (-1 : Int32) F_executed F_mispredictions ++ []))) := hD
  refine lv_aload_n hx hb dX1_choose_16 rfl (lv_at hl 2 rfl) ?_
  refine lv_iconst (v := 0) hx hb dX1_choose_17 (by decide) ?_
  refine va_put (D := D) (ci := 1) (v := .int (0 : Int32)) (ty := .int) (C := RX1) (T := TX1) (N := 6) hx hb hts inX1 tyX1 tyX1_ok nmX1 hown hK hP hD hS 19 rfl rfl 2 (by decide) kX1_34 (fun _ h9 => h9) rfl (by decide +kernel) rfl rfl (Nat.le_of_ble_eq_true rfl) dX1_choose_18 (fun H locs hP hD hS => ?_)
  have hP : va_P D vwCl (wX0 cI cZ cII aC rC C_addresses C_sizes C_useNumbers C_lastUse C_put C_replaced C_dropped ++ (wX4 cI cZ cII aP P_kinds P_targets P_outcomes P_lengths P_outcomeCounts P_counters P_next ++ (wX1 cI cZ cII aF F_addresses F_predictions (0 : Int32) (-1 : Int32) F_executed F_mispredictions ++ []))) H := hP
  have hD : va_D A (wX0 cI cZ cII aC rC C_addresses C_sizes C_useNumbers C_lastUse C_put C_replaced C_dropped ++ (wX4 cI cZ cII aP P_kinds P_targets P_outcomes P_lengths P_outcomeCounts P_counters P_next ++ (wX1 cI cZ cII aF F_addresses F_predictions (0 : Int32) (-1 : Int32) F_executed F_mispredictions ++ []))) := hD
  refine lv_iload hx hb dX1_choose_21 (lv_at hl 0 rfl) ?_
  refine lv_istore (lv' := [(5, .int y6), (4, .int y6), (3, .int P_next), (0, .ref (aF 0)), (1, .ref (aP 0)), (2, .ref (aC 0))]) hx hb dX1_choose_23 hl (by decide) rfl (fun ls hl => ?_)
  exact J25 4000 F_addresses F_predictions (0 : Int32) (-1 : Int32) P_next y6 y6 _ _ _ hf hP hD hS (lv_sub hl [3, 4, 5, 2, 1, 0] rfl)
set_option maxHeartbeats 8000000 in
set_option maxRecDepth 100000 in
theorem c_X1_execute (l : Launch) (D : va_G) (cI cZ cII cJ cM : ClassId) (aP : Nat → Nat) (aF : Nat → Nat) (P_kinds : Nat → Int32) (P_targets : Nat → Int32) (P_outcomes : Nat → Int32) (P_lengths : Nat → Int32) (P_outcomeCounts : Nat → Int32) (P_counters : Nat → Int32) (P_next : Int32) (F_addresses : Nat → Int32) (F_predictions : Nat → Int32) (F_size : Int32) (F_place : Int32) (F_executed : Int32) (F_mispredictions : Int32) (sz : Nat) (y : (Nat → Int32) × (Nat → Int32) × (Int32) × (Int32) × (Int32)) (hf : m_X1_execute P_kinds P_targets P_outcomes P_lengths F_addresses F_predictions F_size P_outcomeCounts P_counters P_next F_executed F_mispredictions = some y) : Met l yX1_execute wsX1_execute ({ frames := 2, cells := 0, slots := 0, locals := 46 } : Room) (va_Pc [.ref (aF 0), .ref (aP 0)] (pzPre D (zT cI cZ cII cJ cM) (wX4 cI cZ cII aP P_kinds P_targets P_outcomes P_lengths P_outcomeCounts P_counters P_next ++ (wX1 cI cZ cII aF F_addresses F_predictions F_size F_place F_executed F_mispredictions ++ [])) sz)) (va_Qv (fun (_ : Unit) => True) (fun _ t => pzB D (zT cI cZ cII cJ cM) (va_A (wX4 cI cZ cII aP P_kinds P_targets P_outcomes P_lengths P_outcomeCounts P_counters P_next ++ (wX1 cI cZ cII aF F_addresses F_predictions F_size F_place F_executed F_mispredictions ++ [])) sz) (wX4 cI cZ cII aP P_kinds P_targets P_outcomes P_lengths y.1 y.2.1 y.2.2.1 ++ (wX1 cI cZ cII aF F_addresses F_predictions F_size F_place y.2.2.2.1 y.2.2.2.2 ++ [])) t) (va_A (wX4 cI cZ cII aP P_kinds P_targets P_outcomes P_lengths P_outcomeCounts P_counters P_next ++ (wX1 cI cZ cII aF F_addresses F_predictions F_size F_place F_executed F_mispredictions ++ [])) sz)) 0 0 (va_A (wX4 cI cZ cII aP P_kinds P_targets P_outcomes P_lengths P_outcomeCounts P_counters P_next ++ (wX1 cI cZ cII aF F_addresses F_predictions F_size F_place F_executed F_mispredictions ++ [])) sz) := by
  refine z_metv (cc := cX1_execute) (maxL := 3) (by decide) rfl (Nat.le_of_ble_eq_true rfl) ?_
  intro p e s m args below meth c A ls Q H locs F hP hD hS hl hret
  obtain ⟨hx, hb, hml, hown, hts, hN, hK, hA⟩ := F
  have hown : s.vm.findClass RX1 = some m.cls := hown
  have hl : lv_has ls 3 [(0, .ref (aF 0)), (1, .ref (aP 0))] := hl
  have inX1 : ∀ w ∈ u_ws RX1 TX1 6, w ∈ wsX1_execute := by decide +kernel
  have inX4 : ∀ w ∈ u_ws RX4 TX4 7, w ∈ wsX1_execute := by decide +kernel
  have kX1_9 := hts (.fieldLink RX1 9 "TraceCache$Fetch" "addresses" "[I") (by decide +kernel)
  have kX1_15 := hts (.fieldLink RX1 15 "TraceCache$Fetch" "predictions" "[Z") (by decide +kernel)
  have kX1_34 := hts (.fieldLink RX1 34 "TraceCache$Fetch" "size" "I") (by decide +kernel)
  have kX1_65 := hts (.fieldLink RX1 65 "TraceCache$Fetch" "executed" "I") (by decide +kernel)
  have kX1_68 := hts (.fieldLink RX1 68 "TraceCache$Fetch" "mispredictions" "I") (by decide +kernel)
  have J12 : ∀ (n12 : Nat), ∀ (P_outcomeCounts : Nat → Int32) (P_counters : Nat → Int32) (P_next : Int32) (F_executed : Int32) (F_mispredictions : Int32) (x2 : Int32) (H : Heap) (locs : List Loc) (ls : Array Slot), m_X1_execute_12 P_kinds P_targets P_outcomes P_lengths F_addresses F_predictions F_size n12 P_outcomeCounts P_counters P_next F_executed F_mispredictions x2 = some y → va_P D vwCl (wX4 cI cZ cII aP P_kinds P_targets P_outcomes P_lengths P_outcomeCounts P_counters P_next ++ (wX1 cI cZ cII aF F_addresses F_predictions F_size F_place F_executed F_mispredictions ++ [])) H → va_D A (wX4 cI cZ cII aP P_kinds P_targets P_outcomes P_lengths P_outcomeCounts P_counters P_next ++ (wX1 cI cZ cII aF F_addresses F_predictions F_size F_place F_executed F_mispredictions ++ [])) → va_S A s.heap H locs → lv_has ls 3 [(0, .ref (aF 0)), (1, .ref (aP 0)), (2, .int x2)] → W p l e ({ frames := 2, cells := 0, slots := 0, locals := 46 } : Room) s m args below meth c H locs 0 0 Q (F0 m 12 ls []) := by
    intro n12
    induction n12 with
    | zero =>
      intro P_outcomeCounts P_counters P_next F_executed F_mispredictions x2 H locs ls hf hP hD hS hl
      rw [m_X1_execute_12] at hf
      cases hf
    | succ n12 ih12 =>
      have J56 : ∀ (P_outcomeCounts : Nat → Int32) (P_counters : Nat → Int32) (P_next : Int32) (F_executed : Int32) (F_mispredictions : Int32) (x2 : Int32) (H : Heap) (locs : List Loc) (ls : Array Slot), m_X1_execute_56 P_kinds P_targets P_outcomes P_lengths F_addresses F_predictions F_size (m_X1_execute_12 P_kinds P_targets P_outcomes P_lengths F_addresses F_predictions F_size n12) P_outcomeCounts P_counters P_next F_executed F_mispredictions x2 = some y → va_P D vwCl (wX4 cI cZ cII aP P_kinds P_targets P_outcomes P_lengths P_outcomeCounts P_counters P_next ++ (wX1 cI cZ cII aF F_addresses F_predictions F_size F_place F_executed F_mispredictions ++ [])) H → va_D A (wX4 cI cZ cII aP P_kinds P_targets P_outcomes P_lengths P_outcomeCounts P_counters P_next ++ (wX1 cI cZ cII aF F_addresses F_predictions F_size F_place F_executed F_mispredictions ++ [])) → va_S A s.heap H locs → lv_has ls 3 [(0, .ref (aF 0)), (1, .ref (aP 0)), (2, .int x2)] → W p l e ({ frames := 2, cells := 0, slots := 0, locals := 46 } : Room) s m args below meth c H locs 0 0 Q (F0 m 56 ls []) := by
        intro P_outcomeCounts P_counters P_next F_executed F_mispredictions x2 H locs ls hf hP hD hS hl
        unfold m_X1_execute_56 at hf
        refine lv_aload_n hx hb dX1_execute_56 rfl (lv_at hl 0 rfl) ?_
        refine lv_dup hx hb dX1_execute_57 rfl ?_
        refine va_get (D := D) (ci := 1) (v := .int F_executed) (C := RX1) (T := TX1) (N := 6) hx hb hts inX1 hown hK hP 7 rfl rfl 4 (by decide) kX1_65 (fun _ h9 => h9) rfl dX1_execute_58 ?_
        refine lv_iconst (v := 1) hx hb dX1_execute_61 (by decide) ?_
        refine lv_iadd hx hb dX1_execute_62 ?_
        refine lv_topi (fun v63 ev63 => ?_)
        have hf := bd_t ev63 hf
        refine va_put (D := D) (ci := 1) (v := .int v63) (ty := .int) (C := RX1) (T := TX1) (N := 6) hx hb hts inX1 tyX1 tyX1_ok nmX1 hown hK hP hD hS 7 rfl rfl 4 (by decide) kX1_65 (fun _ h9 => h9) rfl (by decide +kernel) rfl rfl (Nat.le_of_ble_eq_true rfl) dX1_execute_63 (fun H locs hP hD hS => ?_)
        have hP : va_P D vwCl (wX4 cI cZ cII aP P_kinds P_targets P_outcomes P_lengths P_outcomeCounts P_counters P_next ++ (wX1 cI cZ cII aF F_addresses F_predictions F_size F_place v63 F_mispredictions ++ [])) H := hP
        have hD : va_D A (wX4 cI cZ cII aP P_kinds P_targets P_outcomes P_lengths P_outcomeCounts P_counters P_next ++ (wX1 cI cZ cII aF F_addresses F_predictions F_size F_place v63 F_mispredictions ++ [])) := hD
        obtain ⟨v66, ev66⟩ : ∃ z : Int32, z = x2 + (1 : Int32) := ⟨_, rfl⟩
        have hf := bd_t ev66 hf
        refine lv_iinc (v := v66) (lv' := [(2, .int v66), (0, .ref (aF 0)), (1, .ref (aP 0))]) hx hb dX1_execute_66 hl (k := 2) rfl (by rw [ev66]; rfl) (by decide) rfl (fun ls hl => ?_)
        refine lv_goto (tgt := 12) hx hb dX1_execute_69 (by decide) ?_
        exact ih12 P_outcomeCounts P_counters P_next v63 F_mispredictions v66 _ _ _ hf hP hD hS (lv_sub hl [1, 2, 0] rfl)
      intro P_outcomeCounts P_counters P_next F_executed F_mispredictions x2 H locs ls hf hP hD hS hl
      rw [m_X1_execute_12] at hf
      refine lv_iload_n hx hb dX1_execute_12 rfl (lv_at hl 2 rfl) ?_
      refine lv_aload_n hx hb dX1_execute_13 rfl (lv_at hl 0 rfl) ?_
      refine va_get (D := D) (ci := 1) (v := .int F_size) (C := RX1) (T := TX1) (N := 6) hx hb hts inX1 hown hK hP 7 rfl rfl 2 (by decide) kX1_34 (fun _ h9 => h9) rfl dX1_execute_14 ?_
      refine lv_icmp_ge (tgt := 72) hx hb dX1_execute_17 (by decide) (fun c17 => ?_) (fun c17 => ?_)
      · have hf := if_t c17 hf
        obtain rfl := Option.some.inj hf
        exact hret _ _ _ _ dX1_execute_72 hP hD hS
      · have hf := if_f c17 hf
        refine lv_aload_n hx hb dX1_execute_20 rfl (lv_at hl 0 rfl) ?_
        refine va_get (D := D) (ci := 1) (v := .ref (aF 1)) (C := RX1) (T := TX1) (N := 6) hx hb hts inX1 hown hK hP 7 rfl rfl 0 (by decide) kX1_9 (fun _ h9 => h9) rfl dX1_execute_21 ?_
        refine lv_iload_n hx hb dX1_execute_24 rfl (lv_at hl 2 rfl) ?_
        obtain ⟨g25, hf⟩ := gd_t hf
        refine va_iald hx hb hK hP 8 0 rfl rfl (inb_t g25) dX1_execute_25 ?_
        refine lv_aload_n hx hb dX1_execute_26 rfl (lv_at hl 1 rfl) ?_
        refine va_getN (D := D) (ci := 4) (v := .int P_next) (C := RX4) (T := TX4) (N := 7) hx hb hts inX4 hown hK hP 0 rfl rfl 6 (by decide) (hN.use 9 rfl) (fun _ h9 => h9) rfl dX1_execute_27 ?_
        refine lv_icmp_ne (tgt := 72) hx hb dX1_execute_30 (by decide) (fun c30 => ?_) (fun c30 => ?_)
        · have hf := if_f c30 hf
          obtain rfl := Option.some.inj hf
          exact hret _ _ _ _ dX1_execute_72 hP hD hS
        · have hf := if_t c30 hf
          refine lv_aload_n hx hb dX1_execute_33 rfl (lv_at hl 1 rfl) ?_
          obtain ⟨y34, h34, hf⟩ := bn_t hf
          refine z_ai (x := []) (b := wX4 cI cZ cII aP P_kinds P_targets P_outcomes P_lengths P_outcomeCounts P_counters P_next ++ []) (y := wX1 cI cZ cII aF F_addresses F_predictions F_size F_place F_executed F_mispredictions ++ []) (b1 := wX4 cI cZ cII aP P_kinds P_targets P_outcomes P_lengths y34.2.1 y34.2.2.1 y34.2.2.2 ++ []) (wsn := wX4 cI cZ cII aP P_kinds P_targets P_outcomes P_lengths y34.2.1 y34.2.2.1 y34.2.2.2 ++ (wX1 cI cZ cII aF F_addresses F_predictions F_size F_place F_executed F_mispredictions ++ [])) (va_runVN (As := []) (rest := []) ⟨hx, hb, hml, hown, hts⟩ (c_X4_step l D cI cZ cII cJ cM aP P_kinds P_targets P_outcomes P_lengths P_outcomeCounts P_counters P_next H.size y34 h34) ⟨va_cnB 0 hts gX1_execute_X4_step_n71 rfl rfl rfl (hN.nw 72 rfl) (hts (.initialized RX4) (by decide +kernel)) (by decide +kernel) ⟨Nat.le_of_ble_eq_true rfl, Nat.le_of_ble_eq_true rfl⟩, hts (.instanceMethod yX4_step) (by decide +kernel), hts (.selects RX4 yX4_step yX4_step) (by decide +kernel)⟩ (pz_V (x := []) (b := wX4 cI cZ cII aP P_kinds P_targets P_outcomes P_lengths P_outcomeCounts P_counters P_next ++ []) (y := wX1 cI cZ cII aF F_addresses F_predictions F_size F_place F_executed F_mispredictions ++ []) (C := RX4) (T := TX4) (N := 7) (ci := 4) (As := []) (bi := 0) hK hN hP hD (by simp only [List.append_assoc, List.nil_append, List.append_nil]) rfl rfl) rfl rfl hl.1 rfl (lv_room (Nat.le_of_ble_eq_true rfl)) dX1_execute_34 ⟨Nat.le_of_ble_eq_true rfl, Nat.le_of_ble_eq_true rfl⟩) hP hD hS hA (by simp only [List.append_assoc, List.nil_append, List.append_nil]) (by simp only [List.append_assoc, List.nil_append, List.append_nil]) (fun H locs hP hD hS => ?_)
          refine lv_aload_n hx hb dX1_execute_37 rfl (lv_at hl 0 rfl) ?_
          refine va_get (D := D) (ci := 1) (v := .ref (aF 2)) (C := RX1) (T := TX1) (N := 6) hx hb hts inX1 hown hK hP 7 rfl rfl 1 (by decide) kX1_15 (fun _ h9 => h9) rfl dX1_execute_38 ?_
          refine lv_iload_n hx hb dX1_execute_41 rfl (lv_at hl 2 rfl) ?_
          obtain ⟨g42, hf⟩ := gd_t hf
          refine va_zald hx hb hK hP 9 1 rfl rfl (inb_t g42) dX1_execute_42 ?_
          refine lv_icmp_eq (tgt := 56) hx hb dX1_execute_43 (by decide) (fun c43 => ?_) (fun c43 => ?_)
          · have hf := if_t c43 hf
            exact J56 y34.2.1 y34.2.2.1 y34.2.2.2 F_executed F_mispredictions x2 _ _ _ hf hP hD hS (lv_sub hl [0, 1, 2] rfl)
          · have hf := if_f c43 hf
            refine lv_aload_n hx hb dX1_execute_46 rfl (lv_at hl 0 rfl) ?_
            refine lv_dup hx hb dX1_execute_47 rfl ?_
            refine va_get (D := D) (ci := 1) (v := .int F_mispredictions) (C := RX1) (T := TX1) (N := 6) hx hb hts inX1 hown hK hP 7 rfl rfl 5 (by decide) kX1_68 (fun _ h9 => h9) rfl dX1_execute_48 ?_
            refine lv_iconst (v := 1) hx hb dX1_execute_51 (by decide) ?_
            refine lv_iadd hx hb dX1_execute_52 ?_
            refine lv_topi (fun v53 ev53 => ?_)
            have hf := bd_t ev53 hf
            refine va_put (D := D) (ci := 1) (v := .int v53) (ty := .int) (C := RX1) (T := TX1) (N := 6) hx hb hts inX1 tyX1 tyX1_ok nmX1 hown hK hP hD hS 7 rfl rfl 5 (by decide) kX1_68 (fun _ h9 => h9) rfl (by decide +kernel) rfl rfl (Nat.le_of_ble_eq_true rfl) dX1_execute_53 (fun H locs hP hD hS => ?_)
            have hP : va_P D vwCl (wX4 cI cZ cII aP P_kinds P_targets P_outcomes P_lengths y34.2.1 y34.2.2.1 y34.2.2.2 ++ (wX1 cI cZ cII aF F_addresses F_predictions F_size F_place F_executed v53 ++ [])) H := hP
            have hD : va_D A (wX4 cI cZ cII aP P_kinds P_targets P_outcomes P_lengths y34.2.1 y34.2.2.1 y34.2.2.2 ++ (wX1 cI cZ cII aF F_addresses F_predictions F_size F_place F_executed v53 ++ [])) := hD
            exact J56 y34.2.1 y34.2.2.1 y34.2.2.2 F_executed v53 x2 _ _ _ hf hP hD hS (lv_sub hl [0, 1, 2] rfl)
  unfold m_X1_execute at hf
  refine lv_aload_n hx hb dX1_execute_0 rfl (lv_at hl 0 rfl) ?_
  refine lv_iconst (v := 0) hx hb dX1_execute_1 (by decide) ?_
  refine va_put (D := D) (ci := 1) (v := .int (0 : Int32)) (ty := .int) (C := RX1) (T := TX1) (N := 6) hx hb hts inX1 tyX1 tyX1_ok nmX1 hown hK hP hD hS 7 rfl rfl 4 (by decide) kX1_65 (fun _ h9 => h9) rfl (by decide +kernel) rfl rfl (Nat.le_of_ble_eq_true rfl) dX1_execute_2 (fun H locs hP hD hS => ?_)
  have hP : va_P D vwCl (wX4 cI cZ cII aP P_kinds P_targets P_outcomes P_lengths P_outcomeCounts P_counters P_next ++ (wX1 cI cZ cII aF F_addresses F_predictions F_size F_place (0 : Int32) F_mispredictions ++ [])) H := hP
  have hD : va_D A (wX4 cI cZ cII aP P_kinds P_targets P_outcomes P_lengths P_outcomeCounts P_counters P_next ++ (wX1 cI cZ cII aF F_addresses F_predictions F_size F_place (0 : Int32) F_mispredictions ++ [])) := hD
  refine lv_aload_n hx hb dX1_execute_5 rfl (lv_at hl 0 rfl) ?_
  refine lv_iconst (v := 0) hx hb dX1_execute_6 (by decide) ?_
  refine va_put (D := D) (ci := 1) (v := .int (0 : Int32)) (ty := .int) (C := RX1) (T := TX1) (N := 6) hx hb hts inX1 tyX1 tyX1_ok nmX1 hown hK hP hD hS 7 rfl rfl 5 (by decide) kX1_68 (fun _ h9 => h9) rfl (by decide +kernel) rfl rfl (Nat.le_of_ble_eq_true rfl) dX1_execute_7 (fun H locs hP hD hS => ?_)
  have hP : va_P D vwCl (wX4 cI cZ cII aP P_kinds P_targets P_outcomes P_lengths P_outcomeCounts P_counters P_next ++ (wX1 cI cZ cII aF F_addresses F_predictions F_size F_place (0 : Int32) (0 : Int32) ++ [])) H := hP
  have hD : va_D A (wX4 cI cZ cII aP P_kinds P_targets P_outcomes P_lengths P_outcomeCounts P_counters P_next ++ (wX1 cI cZ cII aF F_addresses F_predictions F_size F_place (0 : Int32) (0 : Int32) ++ [])) := hD
  refine lv_iconst (v := 0) hx hb dX1_execute_10 (by decide) ?_
  refine lv_istore_n (lv' := [(2, .int (0 : Int32)), (0, .ref (aF 0)), (1, .ref (aP 0))]) hx hb dX1_execute_11 rfl hl (by decide) rfl (fun ls hl => ?_)
  exact J12 4000 P_outcomeCounts P_counters P_next (0 : Int32) (0 : Int32) (0 : Int32) _ _ _ hf hP hD hS (lv_sub hl [1, 2, 0] rfl)
