set_option maxHeartbeats 8000000 in
set_option maxRecDepth 100000 in
theorem c_X7_number (l : Launch) (D : va_G) (cI cZ cII cJ cM : ClassId) (aS : Nat → Nat) (S_thrown : Int32) (S_s : Nat → Int32) (S_aside : Nat → Int32) (S_saved : Nat → Int32) (S_savedMany : Int32) (S_text : Nat → Int32) (S_length : Int32) (S_fetched : Nat → Int32) (S_predicted : Nat → Int32) (S_fetchedMany : Int32) (S_fetchedWay : Int32) (S_spot : Int32) (S_isWrong : Int32) (S_executedByText : Int32) (x1 : Int32) (x2 : Int32) (sz : Nat) (y : (Int32) × (Int32) × (Int32)) (hf : m_X7_number S_text S_length S_spot S_isWrong x1 x2 = some y) : Met l yX7_number wsX7_number ({ frames := 3, cells := 0, slots := 0, locals := 68 } : Room) (va_Pc [.ref (aS 0), .int x1, .int x2] (pzPre D (zT cI cZ cII cJ cM) (wX7 cI cZ cII aS S_thrown S_s S_aside S_saved S_savedMany S_text S_length S_fetched S_predicted S_fetchedMany S_fetchedWay S_spot S_isWrong S_executedByText ++ []) sz)) (va_Qi (fun v (_ : Unit) => v = y.1) (fun _ t => pzB D (zT cI cZ cII cJ cM) (va_A (wX7 cI cZ cII aS S_thrown S_s S_aside S_saved S_savedMany S_text S_length S_fetched S_predicted S_fetchedMany S_fetchedWay S_spot S_isWrong S_executedByText ++ []) sz) (wX7 cI cZ cII aS S_thrown S_s S_aside S_saved S_savedMany S_text S_length S_fetched S_predicted S_fetchedMany S_fetchedWay y.2.1 y.2.2 S_executedByText ++ []) t) (va_A (wX7 cI cZ cII aS S_thrown S_s S_aside S_saved S_savedMany S_text S_length S_fetched S_predicted S_fetchedMany S_fetchedWay S_spot S_isWrong S_executedByText ++ []) sz)) 0 0 (va_A (wX7 cI cZ cII aS S_thrown S_s S_aside S_saved S_savedMany S_text S_length S_fetched S_predicted S_fetchedMany S_fetchedWay S_spot S_isWrong S_executedByText ++ []) sz) := by
  refine z_meti (cc := cX7_number) (maxL := 4) (by decide) rfl (Nat.le_of_ble_eq_true rfl) ?_
  intro p e s m args below meth c A ls Q H locs F hP hD hS hl hret
  obtain ⟨hx, hb, hml, hown, hts, hN, hK, hA⟩ := F
  have hown : s.vm.findClass RX7 = some m.cls := hown
  have hl : lv_has ls 4 [(0, .ref (aS 0)), (1, .int x1), (2, .int x2)] := hl
  have inX7 : ∀ w ∈ u_ws RX7 TX7 14, w ∈ wsX7_number := by decide +kernel
  have kX7_19 := hts (.fieldLink RX7 19 "TraceCacheModel" "text" "[I") (by decide +kernel)
  have kX7_142 := hts (.fieldLink RX7 142 "TraceCacheModel" "spot" "I") (by decide +kernel)
  have J80 : ∀ (S_spot : Int32) (S_isWrong : Int32) (x3 : Int32) (H : Heap) (locs : List Loc) (ls : Array Slot), m_X7_number_80 S_text S_length x1 x2 S_spot S_isWrong x3 = some y → va_P D vwCl (wX7 cI cZ cII aS S_thrown S_s S_aside S_saved S_savedMany S_text S_length S_fetched S_predicted S_fetchedMany S_fetchedWay S_spot S_isWrong S_executedByText ++ []) H → va_D A (wX7 cI cZ cII aS S_thrown S_s S_aside S_saved S_savedMany S_text S_length S_fetched S_predicted S_fetchedMany S_fetchedWay S_spot S_isWrong S_executedByText ++ []) → va_S A s.heap H locs → lv_has ls 4 [(3, .int x3)] → W p l e ({ frames := 3, cells := 0, slots := 0, locals := 68 } : Room) s m args below meth c H locs 0 0 Q (F0 m 80 ls []) := by
    intro S_spot S_isWrong x3 H locs ls hf hP hD hS hl
    unfold m_X7_number_80 at hf
    refine lv_iload_n hx hb dX7_number_80 rfl (lv_at hl 0 rfl) ?_
    obtain rfl := Option.some.inj hf
    exact hret _ _ _ _ _ dX7_number_81 rfl hP hD hS
  have J13 : ∀ (n13 : Nat), ∀ (S_spot : Int32) (S_isWrong : Int32) (x3 : Int32) (H : Heap) (locs : List Loc) (ls : Array Slot), m_X7_number_13 S_text S_length x1 x2 n13 S_spot S_isWrong x3 = some y → va_P D vwCl (wX7 cI cZ cII aS S_thrown S_s S_aside S_saved S_savedMany S_text S_length S_fetched S_predicted S_fetchedMany S_fetchedWay S_spot S_isWrong S_executedByText ++ []) H → va_D A (wX7 cI cZ cII aS S_thrown S_s S_aside S_saved S_savedMany S_text S_length S_fetched S_predicted S_fetchedMany S_fetchedWay S_spot S_isWrong S_executedByText ++ []) → va_S A s.heap H locs → lv_has ls 4 [(0, .ref (aS 0)), (2, .int x2), (3, .int x3)] → W p l e ({ frames := 3, cells := 0, slots := 0, locals := 68 } : Room) s m args below meth c H locs 0 0 Q (F0 m 13 ls []) := by
    intro n13
    induction n13 with
    | zero =>
      intro S_spot S_isWrong x3 H locs ls hf hP hD hS hl
      rw [m_X7_number_13] at hf
      cases hf
    | succ n13 ih13 =>
      intro S_spot S_isWrong x3 H locs ls hf hP hD hS hl
      rw [m_X7_number_13] at hf
      refine lv_iload_n hx hb dX7_number_13 rfl (lv_at hl 2 rfl) ?_
      refine lv_if_le (tgt := 80) hx hb dX7_number_14 (by decide) (fun c14 => ?_) (fun c14 => ?_)
      · have hf := if_t c14 hf
        exact J80 S_spot S_isWrong x3 _ _ _ hf hP hD hS (lv_sub hl [2] rfl)
      · have hf := if_f c14 hf
        refine lv_aload_n hx hb dX7_number_17 rfl (lv_at hl 0 rfl) ?_
        refine lv_bipush (v := 48) hx hb dX7_number_18 (by decide) ?_
        refine lv_bipush (v := 57) hx hb dX7_number_20 (by decide) ?_
        obtain ⟨y22, h22, hf⟩ := bn_t hf
        refine z_ai (x := []) (b := wX7 cI cZ cII aS S_thrown S_s S_aside S_saved S_savedMany S_text S_length S_fetched S_predicted S_fetchedMany S_fetchedWay S_spot S_isWrong S_executedByText ++ []) (y := ([] : va_W)) (b1 := wX7 cI cZ cII aS S_thrown S_s S_aside S_saved S_savedMany S_text S_length S_fetched S_predicted S_fetchedMany S_fetchedWay S_spot S_isWrong S_executedByText ++ []) (wsn := wX7 cI cZ cII aS S_thrown S_s S_aside S_saved S_savedMany S_text S_length S_fetched S_predicted S_fetchedMany S_fetchedWay S_spot S_isWrong S_executedByText ++ []) (va_runV (As := [.int (48 : Int32), .int (57 : Int32)]) (rest := []) ⟨hx, hb, hml, hown, hts⟩ (c_X7_isNext l D cI cZ cII cJ cM aS S_thrown S_s S_aside S_saved S_savedMany S_text S_length S_fetched S_predicted S_fetchedMany S_fetchedWay S_spot S_isWrong S_executedByText (48 : Int32) (57 : Int32) H.size y22 h22) (cwV 2 hts gX7_number_X7_isNext rfl rfl rfl (by decide +kernel) ⟨Nat.le_of_ble_eq_true rfl, Nat.le_of_ble_eq_true rfl⟩) (pz_V (x := []) (b := wX7 cI cZ cII aS S_thrown S_s S_aside S_saved S_savedMany S_text S_length S_fetched S_predicted S_fetchedMany S_fetchedWay S_spot S_isWrong S_executedByText ++ []) (y := ([] : va_W)) (C := RX7) (T := TX7) (N := 14) (ci := 7) (As := [.int (48 : Int32), .int (57 : Int32)]) (bi := 0) hK hN hP hD (by simp only [List.append_assoc, List.nil_append, List.append_nil]) rfl rfl) rfl rfl hl.1 rfl (lv_room (Nat.le_of_ble_eq_true rfl)) dX7_number_22 ⟨Nat.le_of_ble_eq_true rfl, Nat.le_of_ble_eq_true rfl⟩) hP hD hS hA (by simp only [List.append_assoc, List.nil_append, List.append_nil]) (by simp only [List.append_assoc, List.nil_append, List.append_nil]) (fun H locs hP hD hS => ?_)
        refine lv_if_eq (tgt := 80) hx hb dX7_number_25 (by decide) (fun c25 => ?_) (fun c25 => ?_)
        · have hf := if_t c25 hf
          exact J80 S_spot S_isWrong x3 _ _ _ hf hP hD hS (lv_sub hl [2] rfl)
        · have hf := if_f c25 hf
          refine lv_bipush (v := 10) hx hb dX7_number_28 (by decide) ?_
          refine lv_iload_n hx hb dX7_number_30 rfl (lv_at hl 2 rfl) ?_
          refine lv_imul hx hb dX7_number_31 ?_
          refine lv_aload_n hx hb dX7_number_32 rfl (lv_at hl 0 rfl) ?_
          refine va_get (D := D) (ci := 7) (v := .ref (aS 4)) (C := RX7) (T := TX7) (N := 14) hx hb hts inX7 hown hK hP 0 rfl rfl 5 (by decide) kX7_19 (fun _ h9 => h9) rfl dX7_number_33 ?_
          refine lv_aload_n hx hb dX7_number_36 rfl (lv_at hl 0 rfl) ?_
          refine va_get (D := D) (ci := 7) (v := .int S_spot) (C := RX7) (T := TX7) (N := 14) hx hb hts inX7 hown hK hP 0 rfl rfl 11 (by decide) kX7_142 (fun _ h9 => h9) rfl dX7_number_37 ?_
          obtain ⟨g40, hf⟩ := gd_t hf
          refine va_iald hx hb hK hP 4 0 rfl rfl (inb_t g40) dX7_number_40 ?_
          refine lv_iadd hx hb dX7_number_41 ?_
          refine lv_bipush (v := 48) hx hb dX7_number_42 (by decide) ?_
          refine lv_isub hx hb dX7_number_44 ?_
          refine lv_iload_n hx hb dX7_number_45 rfl (lv_at hl 1 rfl) ?_
          refine lv_icmp_gt (tgt := 80) hx hb dX7_number_46 (by decide) (fun c46 => ?_) (fun c46 => ?_)
          · have hf := if_t c46 hf
            exact J80 S_spot S_isWrong x3 _ _ _ hf hP hD hS (lv_sub hl [2] rfl)
          · have hf := if_f c46 hf
            refine lv_bipush (v := 10) hx hb dX7_number_49 (by decide) ?_
            refine lv_iload_n hx hb dX7_number_51 rfl (lv_at hl 2 rfl) ?_
            refine lv_imul hx hb dX7_number_52 ?_
            refine lv_aload_n hx hb dX7_number_53 rfl (lv_at hl 0 rfl) ?_
            refine va_get (D := D) (ci := 7) (v := .ref (aS 4)) (C := RX7) (T := TX7) (N := 14) hx hb hts inX7 hown hK hP 0 rfl rfl 5 (by decide) kX7_19 (fun _ h9 => h9) rfl dX7_number_54 ?_
            refine lv_aload_n hx hb dX7_number_57 rfl (lv_at hl 0 rfl) ?_
            refine va_get (D := D) (ci := 7) (v := .int S_spot) (C := RX7) (T := TX7) (N := 14) hx hb hts inX7 hown hK hP 0 rfl rfl 11 (by decide) kX7_142 (fun _ h9 => h9) rfl dX7_number_58 ?_
            obtain ⟨g61, hf⟩ := gd_t hf
            refine va_iald hx hb hK hP 4 0 rfl rfl (inb_t g61) dX7_number_61 ?_
            refine lv_iadd hx hb dX7_number_62 ?_
            refine lv_bipush (v := 48) hx hb dX7_number_63 (by decide) ?_
            refine lv_isub hx hb dX7_number_65 ?_
            refine lv_topi (fun v66 ev66 => ?_)
            have hf := bd_t ev66 hf
            refine lv_istore_n (lv' := [(3, .int v66), (0, .ref (aS 0)), (2, .int x2)]) hx hb dX7_number_66 rfl hl (by decide) rfl (fun ls hl => ?_)
            refine lv_aload_n hx hb dX7_number_67 rfl (lv_at hl 1 rfl) ?_
            refine lv_dup hx hb dX7_number_68 rfl ?_
            refine va_get (D := D) (ci := 7) (v := .int S_spot) (C := RX7) (T := TX7) (N := 14) hx hb hts inX7 hown hK hP 0 rfl rfl 11 (by decide) kX7_142 (fun _ h9 => h9) rfl dX7_number_69 ?_
            refine lv_iconst (v := 1) hx hb dX7_number_72 (by decide) ?_
            refine lv_iadd hx hb dX7_number_73 ?_
            refine lv_topi (fun v74 ev74 => ?_)
            have hf := bd_t ev74 hf
            refine va_put (D := D) (ci := 7) (v := .int v74) (ty := .int) (C := RX7) (T := TX7) (N := 14) hx hb hts inX7 tyX7 tyX7_ok nmX7 hown hK hP hD hS 0 rfl rfl 11 (by decide) kX7_142 (fun _ h9 => h9) rfl (by decide +kernel) rfl rfl (Nat.le_of_ble_eq_true rfl) dX7_number_74 (fun H locs hP hD hS => ?_)
            have hP : va_P D vwCl (wX7 cI cZ cII aS S_thrown S_s S_aside S_saved S_savedMany S_text S_length S_fetched S_predicted S_fetchedMany S_fetchedWay v74 S_isWrong S_executedByText ++ []) H := hP
            have hD : va_D A (wX7 cI cZ cII aS S_thrown S_s S_aside S_saved S_savedMany S_text S_length S_fetched S_predicted S_fetchedMany S_fetchedWay v74 S_isWrong S_executedByText ++ []) := hD
            refine lv_goto (tgt := 13) hx hb dX7_number_77 (by decide) ?_
            exact ih13 v74 S_isWrong v66 _ _ _ hf hP hD hS (lv_sub hl [1, 2, 0] rfl)
  unfold m_X7_number at hf
  refine lv_iload_n hx hb dX7_number_0 rfl (lv_at hl 1 rfl) ?_
  refine lv_aload_n hx hb dX7_number_1 rfl (lv_at hl 0 rfl) ?_
  refine lv_bipush (v := 48) hx hb dX7_number_2 (by decide) ?_
  refine lv_iload_n hx hb dX7_number_4 rfl (lv_at hl 1 rfl) ?_
  refine lv_iadd hx hb dX7_number_5 ?_
  refine lv_bipush (v := 57) hx hb dX7_number_6 (by decide) ?_
  obtain ⟨y8, h8, hf⟩ := bn_t hf
  refine z_ai (x := []) (b := wX7 cI cZ cII aS S_thrown S_s S_aside S_saved S_savedMany S_text S_length S_fetched S_predicted S_fetchedMany S_fetchedWay S_spot S_isWrong S_executedByText ++ []) (y := ([] : va_W)) (b1 := wX7 cI cZ cII aS S_thrown S_s S_aside S_saved S_savedMany S_text S_length S_fetched S_predicted S_fetchedMany S_fetchedWay y8.2.1 y8.2.2 S_executedByText ++ []) (wsn := wX7 cI cZ cII aS S_thrown S_s S_aside S_saved S_savedMany S_text S_length S_fetched S_predicted S_fetchedMany S_fetchedWay y8.2.1 y8.2.2 S_executedByText ++ []) (va_runV (As := [.int ((48 : Int32) + x1), .int (57 : Int32)]) (rest := [.int x1]) ⟨hx, hb, hml, hown, hts⟩ (c_X7_takes l D cI cZ cII cJ cM aS S_thrown S_s S_aside S_saved S_savedMany S_text S_length S_fetched S_predicted S_fetchedMany S_fetchedWay S_spot S_isWrong S_executedByText ((48 : Int32) + x1) (57 : Int32) H.size y8 h8) (cwV 2 hts gX7_number_X7_takes rfl rfl rfl (by decide +kernel) ⟨Nat.le_of_ble_eq_true rfl, Nat.le_of_ble_eq_true rfl⟩) (pz_V (x := []) (b := wX7 cI cZ cII aS S_thrown S_s S_aside S_saved S_savedMany S_text S_length S_fetched S_predicted S_fetchedMany S_fetchedWay S_spot S_isWrong S_executedByText ++ []) (y := ([] : va_W)) (C := RX7) (T := TX7) (N := 14) (ci := 7) (As := [.int ((48 : Int32) + x1), .int (57 : Int32)]) (bi := 0) hK hN hP hD (by simp only [List.append_assoc, List.nil_append, List.append_nil]) rfl rfl) rfl rfl hl.1 rfl (lv_room (Nat.le_of_ble_eq_true rfl)) dX7_number_8 ⟨Nat.le_of_ble_eq_true rfl, Nat.le_of_ble_eq_true rfl⟩) hP hD hS hA (by simp only [List.append_assoc, List.nil_append, List.append_nil]) (by simp only [List.append_assoc, List.nil_append, List.append_nil]) (fun H locs hP hD hS => ?_)
  refine lv_iadd hx hb dX7_number_11 ?_
  refine lv_topi (fun v12 ev12 => ?_)
  have hf := bd_t ev12 hf
  refine lv_istore_n (lv' := [(3, .int v12), (0, .ref (aS 0)), (1, .int x1), (2, .int x2)]) hx hb dX7_number_12 rfl hl (by decide) rfl (fun ls hl => ?_)
  exact J13 4000 y8.2.1 y8.2.2 v12 _ _ _ hf hP hD hS (lv_sub hl [1, 3, 0] rfl)
set_option maxHeartbeats 8000000 in
set_option maxRecDepth 100000 in
theorem c_X7_readPattern (l : Launch) (D : va_G) (cI cZ cII cJ cM : ClassId) (aS : Nat → Nat) (S_thrown : Int32) (S_s : Nat → Int32) (S_aside : Nat → Int32) (S_saved : Nat → Int32) (S_savedMany : Int32) (S_text : Nat → Int32) (S_length : Int32) (S_fetched : Nat → Int32) (S_predicted : Nat → Int32) (S_fetchedMany : Int32) (S_fetchedWay : Int32) (S_spot : Int32) (S_isWrong : Int32) (S_executedByText : Int32) (x1 : Int32) (x2 : Int32) (sz : Nat) (y : (Nat → Int32) × (Int32) × (Int32)) (hf : m_X7_readPattern S_text S_length S_s S_spot S_isWrong x1 x2 = some y) : Met l yX7_readPattern wsX7_readPattern ({ frames := 3, cells := 0, slots := 0, locals := 68 } : Room) (va_Pc [.ref (aS 0), .int x1, .int x2] (pzPre D (zT cI cZ cII cJ cM) (wX7 cI cZ cII aS S_thrown S_s S_aside S_saved S_savedMany S_text S_length S_fetched S_predicted S_fetchedMany S_fetchedWay S_spot S_isWrong S_executedByText ++ []) sz)) (va_Qv (fun (_ : Unit) => True) (fun _ t => pzB D (zT cI cZ cII cJ cM) (va_A (wX7 cI cZ cII aS S_thrown S_s S_aside S_saved S_savedMany S_text S_length S_fetched S_predicted S_fetchedMany S_fetchedWay S_spot S_isWrong S_executedByText ++ []) sz) (wX7 cI cZ cII aS S_thrown y.1 S_aside S_saved S_savedMany S_text S_length S_fetched S_predicted S_fetchedMany S_fetchedWay y.2.1 y.2.2 S_executedByText ++ []) t) (va_A (wX7 cI cZ cII aS S_thrown S_s S_aside S_saved S_savedMany S_text S_length S_fetched S_predicted S_fetchedMany S_fetchedWay S_spot S_isWrong S_executedByText ++ []) sz)) 0 0 (va_A (wX7 cI cZ cII aS S_thrown S_s S_aside S_saved S_savedMany S_text S_length S_fetched S_predicted S_fetchedMany S_fetchedWay S_spot S_isWrong S_executedByText ++ []) sz) := by
  refine z_metv (cc := cX7_readPattern) (maxL := 6) (by decide) rfl (Nat.le_of_ble_eq_true rfl) ?_
  intro p e s m args below meth c A ls Q H locs F hP hD hS hl hret
  obtain ⟨hx, hb, hml, hown, hts, hN, hK, hA⟩ := F
  have hown : s.vm.findClass RX7 = some m.cls := hown
  have hl : lv_has ls 6 [(0, .ref (aS 0)), (1, .int x1), (2, .int x2)] := hl
  have inX7 : ∀ w ∈ u_ws RX7 TX7 14, w ∈ wsX7_readPattern := by decide +kernel
  have kX7_138 := hts (.fieldLink RX7 138 "TraceCacheModel" "isWrong" "Z") (by decide +kernel)
  have J71 : ∀ (S_s : Nat → Int32) (S_spot : Int32) (S_isWrong : Int32) (k0 : Int32) (H : Heap) (locs : List Loc) (ls : Array Slot), m_X7_readPattern_71 S_text S_length x1 x2 S_s S_spot S_isWrong k0 = some y → va_P D vwCl (wX7 cI cZ cII aS S_thrown S_s S_aside S_saved S_savedMany S_text S_length S_fetched S_predicted S_fetchedMany S_fetchedWay S_spot S_isWrong S_executedByText ++ []) H → va_D A (wX7 cI cZ cII aS S_thrown S_s S_aside S_saved S_savedMany S_text S_length S_fetched S_predicted S_fetchedMany S_fetchedWay S_spot S_isWrong S_executedByText ++ []) → va_S A s.heap H locs → lv_has ls 6 [] → W p l e ({ frames := 3, cells := 0, slots := 0, locals := 68 } : Room) s m args below meth c H locs 0 0 Q (F0 m 71 ls [.int k0]) := by
    intro S_s S_spot S_isWrong k0 H locs ls hf hP hD hS hl
    unfold m_X7_readPattern_71 at hf
    refine lv_istore (lv' := [(5, .int k0)]) hx hb dX7_readPattern_71 hl (by decide) rfl (fun ls hl => ?_)
    obtain rfl := Option.some.inj hf
    exact hret _ _ _ _ dX7_readPattern_73 hP hD hS
  have J55 : ∀ (S_s : Nat → Int32) (S_spot : Int32) (S_isWrong : Int32) (x3 : Int32) (x4 : Int32) (H : Heap) (locs : List Loc) (ls : Array Slot), m_X7_readPattern_55 S_text S_length x1 x2 S_s S_spot S_isWrong x3 x4 = some y → va_P D vwCl (wX7 cI cZ cII aS S_thrown S_s S_aside S_saved S_savedMany S_text S_length S_fetched S_predicted S_fetchedMany S_fetchedWay S_spot S_isWrong S_executedByText ++ []) H → va_D A (wX7 cI cZ cII aS S_thrown S_s S_aside S_saved S_savedMany S_text S_length S_fetched S_predicted S_fetchedMany S_fetchedWay S_spot S_isWrong S_executedByText ++ []) → va_S A s.heap H locs → lv_has ls 6 [(0, .ref (aS 0)), (1, .int x1), (2, .int x2), (3, .int x3), (4, .int x4)] → W p l e ({ frames := 3, cells := 0, slots := 0, locals := 68 } : Room) s m args below meth c H locs 0 0 Q (F0 m 55 ls []) := by
    intro S_s S_spot S_isWrong x3 x4 H locs ls hf hP hD hS hl
    unfold m_X7_readPattern_55 at hf
    refine lv_iload_n hx hb dX7_readPattern_55 rfl (lv_at hl 2 rfl) ?_
    refine lv_if_eq (tgt := 70) hx hb dX7_readPattern_56 (by decide) (fun c56 => ?_) (fun c56 => ?_)
    · have hf := if_t c56 hf
      refine lv_iconst (v := 0) hx hb dX7_readPattern_70 (by decide) ?_
      exact J71 S_s S_spot S_isWrong (0 : Int32) _ _ _ hf hP hD hS (lv_sub hl [] rfl)
    · have hf := if_f c56 hf
      refine lv_aload_n hx hb dX7_readPattern_59 rfl (lv_at hl 0 rfl) ?_
      refine lv_iload_n hx hb dX7_readPattern_60 rfl (lv_at hl 1 rfl) ?_
      refine lv_iload_n hx hb dX7_readPattern_61 rfl (lv_at hl 3 rfl) ?_
      refine lv_iload hx hb dX7_readPattern_62 (lv_at hl 4 rfl) ?_
      obtain ⟨y64, h64, hf⟩ := bn_t hf
      refine z_ai (x := []) (b := wX7 cI cZ cII aS S_thrown S_s S_aside S_saved S_savedMany S_text S_length S_fetched S_predicted S_fetchedMany S_fetchedWay S_spot S_isWrong S_executedByText ++ []) (y := ([] : va_W)) (b1 := wX7 cI cZ cII aS S_thrown y64.2 S_aside S_saved S_savedMany S_text S_length S_fetched S_predicted S_fetchedMany S_fetchedWay S_spot S_isWrong S_executedByText ++ []) (wsn := wX7 cI cZ cII aS S_thrown y64.2 S_aside S_saved S_savedMany S_text S_length S_fetched S_predicted S_fetchedMany S_fetchedWay S_spot S_isWrong S_executedByText ++ []) (va_runV (As := [.int x1, .int x3, .int x4]) (rest := []) ⟨hx, hb, hml, hown, hts⟩ (c_X7_patterns l D cI cZ cII cJ cM aS S_thrown S_s S_aside S_saved S_savedMany S_text S_length S_fetched S_predicted S_fetchedMany S_fetchedWay S_spot S_isWrong S_executedByText x1 x3 x4 H.size y64 h64) (cwV 3 hts gX7_readPattern_X7_patterns rfl rfl rfl (by decide +kernel) ⟨Nat.le_of_ble_eq_true rfl, Nat.le_of_ble_eq_true rfl⟩) (pz_V (x := []) (b := wX7 cI cZ cII aS S_thrown S_s S_aside S_saved S_savedMany S_text S_length S_fetched S_predicted S_fetchedMany S_fetchedWay S_spot S_isWrong S_executedByText ++ []) (y := ([] : va_W)) (C := RX7) (T := TX7) (N := 14) (ci := 7) (As := [.int x1, .int x3, .int x4]) (bi := 0) hK hN hP hD (by simp only [List.append_assoc, List.nil_append, List.append_nil]) rfl rfl) rfl rfl hl.1 rfl (lv_room (Nat.le_of_ble_eq_true rfl)) dX7_readPattern_64 ⟨Nat.le_of_ble_eq_true rfl, Nat.le_of_ble_eq_true rfl⟩) hP hD hS hA (by simp only [List.append_assoc, List.nil_append, List.append_nil]) (by simp only [List.append_assoc, List.nil_append, List.append_nil]) (fun H locs hP hD hS => ?_)
      refine lv_goto (tgt := 71) hx hb dX7_readPattern_67 (by decide) ?_
      exact J71 y64.2 S_spot S_isWrong y64.1 _ _ _ hf hP hD hS (lv_sub hl [] rfl)
  have J5 : ∀ (n5 : Nat), ∀ (S_s : Nat → Int32) (S_spot : Int32) (S_isWrong : Int32) (x3 : Int32) (x4 : Int32) (H : Heap) (locs : List Loc) (ls : Array Slot), m_X7_readPattern_5 S_text S_length x1 x2 n5 S_s S_spot S_isWrong x3 x4 = some y → va_P D vwCl (wX7 cI cZ cII aS S_thrown S_s S_aside S_saved S_savedMany S_text S_length S_fetched S_predicted S_fetchedMany S_fetchedWay S_spot S_isWrong S_executedByText ++ []) H → va_D A (wX7 cI cZ cII aS S_thrown S_s S_aside S_saved S_savedMany S_text S_length S_fetched S_predicted S_fetchedMany S_fetchedWay S_spot S_isWrong S_executedByText ++ []) → va_S A s.heap H locs → lv_has ls 6 [(0, .ref (aS 0)), (1, .int x1), (2, .int x2), (3, .int x3), (4, .int x4)] → W p l e ({ frames := 3, cells := 0, slots := 0, locals := 68 } : Room) s m args below meth c H locs 0 0 Q (F0 m 5 ls []) := by
    intro n5
    induction n5 with
    | zero =>
      intro S_s S_spot S_isWrong x3 x4 H locs ls hf hP hD hS hl
      rw [m_X7_readPattern_5] at hf
      cases hf
    | succ n5 ih5 =>
      have J35 : ∀ (S_s : Nat → Int32) (S_spot : Int32) (S_isWrong : Int32) (x3 : Int32) (x4 : Int32) (H : Heap) (locs : List Loc) (ls : Array Slot), m_X7_readPattern_35 S_text S_length x1 x2 (m_X7_readPattern_5 S_text S_length x1 x2 n5) S_s S_spot S_isWrong x3 x4 = some y → va_P D vwCl (wX7 cI cZ cII aS S_thrown S_s S_aside S_saved S_savedMany S_text S_length S_fetched S_predicted S_fetchedMany S_fetchedWay S_spot S_isWrong S_executedByText ++ []) H → va_D A (wX7 cI cZ cII aS S_thrown S_s S_aside S_saved S_savedMany S_text S_length S_fetched S_predicted S_fetchedMany S_fetchedWay S_spot S_isWrong S_executedByText ++ []) → va_S A s.heap H locs → lv_has ls 6 [(0, .ref (aS 0)), (1, .int x1), (2, .int x2), (3, .int x3), (4, .int x4)] → W p l e ({ frames := 3, cells := 0, slots := 0, locals := 68 } : Room) s m args below meth c H locs 0 0 Q (F0 m 35 ls []) := by
        intro S_s S_spot S_isWrong x3 x4 H locs ls hf hP hD hS hl
        unfold m_X7_readPattern_35 at hf
        refine lv_iload_n hx hb dX7_readPattern_35 rfl (lv_at hl 3 rfl) ?_
        refine lv_aload_n hx hb dX7_readPattern_36 rfl (lv_at hl 0 rfl) ?_
        refine lv_bipush (v := 48) hx hb dX7_readPattern_37 (by decide) ?_
        refine lv_bipush (v := 49) hx hb dX7_readPattern_39 (by decide) ?_
        obtain ⟨y41, h41, hf⟩ := bn_t hf
        refine z_ai (x := []) (b := wX7 cI cZ cII aS S_thrown S_s S_aside S_saved S_savedMany S_text S_length S_fetched S_predicted S_fetchedMany S_fetchedWay S_spot S_isWrong S_executedByText ++ []) (y := ([] : va_W)) (b1 := wX7 cI cZ cII aS S_thrown S_s S_aside S_saved S_savedMany S_text S_length S_fetched S_predicted S_fetchedMany S_fetchedWay y41.2.1 y41.2.2 S_executedByText ++ []) (wsn := wX7 cI cZ cII aS S_thrown S_s S_aside S_saved S_savedMany S_text S_length S_fetched S_predicted S_fetchedMany S_fetchedWay y41.2.1 y41.2.2 S_executedByText ++ []) (va_runV (As := [.int (48 : Int32), .int (49 : Int32)]) (rest := [.int x3]) ⟨hx, hb, hml, hown, hts⟩ (c_X7_takes l D cI cZ cII cJ cM aS S_thrown S_s S_aside S_saved S_savedMany S_text S_length S_fetched S_predicted S_fetchedMany S_fetchedWay S_spot S_isWrong S_executedByText (48 : Int32) (49 : Int32) H.size y41 h41) (cwV 2 hts gX7_readPattern_X7_takes rfl rfl rfl (by decide +kernel) ⟨Nat.le_of_ble_eq_true rfl, Nat.le_of_ble_eq_true rfl⟩) (pz_V (x := []) (b := wX7 cI cZ cII aS S_thrown S_s S_aside S_saved S_savedMany S_text S_length S_fetched S_predicted S_fetchedMany S_fetchedWay S_spot S_isWrong S_executedByText ++ []) (y := ([] : va_W)) (C := RX7) (T := TX7) (N := 14) (ci := 7) (As := [.int (48 : Int32), .int (49 : Int32)]) (bi := 0) hK hN hP hD (by simp only [List.append_assoc, List.nil_append, List.append_nil]) rfl rfl) rfl rfl hl.1 rfl (lv_room (Nat.le_of_ble_eq_true rfl)) dX7_readPattern_41 ⟨Nat.le_of_ble_eq_true rfl, Nat.le_of_ble_eq_true rfl⟩) hP hD hS hA (by simp only [List.append_assoc, List.nil_append, List.append_nil]) (by simp only [List.append_assoc, List.nil_append, List.append_nil]) (fun H locs hP hD hS => ?_)
        refine lv_iload hx hb dX7_readPattern_44 (lv_at hl 4 rfl) ?_
        refine lv_ishl hx hb dX7_readPattern_46 ?_
        refine lv_ior hx hb dX7_readPattern_47 ?_
        refine lv_topi (fun v48 ev48 => ?_)
        have hf := bd_t ev48 hf
        refine lv_istore_n (lv' := [(3, .int v48), (0, .ref (aS 0)), (1, .int x1), (2, .int x2), (4, .int x4)]) hx hb dX7_readPattern_48 rfl hl (by decide) rfl (fun ls hl => ?_)
        obtain ⟨v49, ev49⟩ : ∃ z : Int32, z = x4 + (1 : Int32) := ⟨_, rfl⟩
        have hf := bd_t ev49 hf
        refine lv_iinc (v := v49) (lv' := [(4, .int v49), (3, .int v48), (0, .ref (aS 0)), (1, .int x1), (2, .int x2)]) hx hb dX7_readPattern_49 hl (k := 4) rfl (by rw [ev49]; rfl) (by decide) rfl (fun ls hl => ?_)
        refine lv_goto (tgt := 5) hx hb dX7_readPattern_52 (by decide) ?_
        exact ih5 S_s y41.2.1 y41.2.2 v48 v49 _ _ _ hf hP hD hS (lv_sub hl [2, 3, 4, 1, 0] rfl)
      have J17 : ∀ (S_s : Nat → Int32) (S_spot : Int32) (S_isWrong : Int32) (x3 : Int32) (x4 : Int32) (H : Heap) (locs : List Loc) (ls : Array Slot), m_X7_readPattern_17 S_text S_length x1 x2 (m_X7_readPattern_5 S_text S_length x1 x2 n5) S_s S_spot S_isWrong x3 x4 = some y → va_P D vwCl (wX7 cI cZ cII aS S_thrown S_s S_aside S_saved S_savedMany S_text S_length S_fetched S_predicted S_fetchedMany S_fetchedWay S_spot S_isWrong S_executedByText ++ []) H → va_D A (wX7 cI cZ cII aS S_thrown S_s S_aside S_saved S_savedMany S_text S_length S_fetched S_predicted S_fetchedMany S_fetchedWay S_spot S_isWrong S_executedByText ++ []) → va_S A s.heap H locs → lv_has ls 6 [(0, .ref (aS 0)), (1, .int x1), (2, .int x2), (3, .int x3), (4, .int x4)] → W p l e ({ frames := 3, cells := 0, slots := 0, locals := 68 } : Room) s m args below meth c H locs 0 0 Q (F0 m 17 ls []) := by
        intro S_s S_spot S_isWrong x3 x4 H locs ls hf hP hD hS hl
        unfold m_X7_readPattern_17 at hf
        refine lv_iload hx hb dX7_readPattern_17 (lv_at hl 4 rfl) ?_
        refine lv_bipush (v := 8) hx hb dX7_readPattern_19 (by decide) ?_
        refine lv_icmp_ge (tgt := 55) hx hb dX7_readPattern_21 (by decide) (fun c21 => ?_) (fun c21 => ?_)
        · have hf := if_t c21 hf
          exact J55 S_s S_spot S_isWrong x3 x4 _ _ _ hf hP hD hS (lv_sub hl [0, 1, 2, 3, 4] rfl)
        · have hf := if_f c21 hf
          refine lv_aload_n hx hb dX7_readPattern_24 rfl (lv_at hl 0 rfl) ?_
          refine lv_bipush (v := 48) hx hb dX7_readPattern_25 (by decide) ?_
          refine lv_bipush (v := 49) hx hb dX7_readPattern_27 (by decide) ?_
          obtain ⟨y29, h29, hf⟩ := bn_t hf
          refine z_ai (x := []) (b := wX7 cI cZ cII aS S_thrown S_s S_aside S_saved S_savedMany S_text S_length S_fetched S_predicted S_fetchedMany S_fetchedWay S_spot S_isWrong S_executedByText ++ []) (y := ([] : va_W)) (b1 := wX7 cI cZ cII aS S_thrown S_s S_aside S_saved S_savedMany S_text S_length S_fetched S_predicted S_fetchedMany S_fetchedWay S_spot S_isWrong S_executedByText ++ []) (wsn := wX7 cI cZ cII aS S_thrown S_s S_aside S_saved S_savedMany S_text S_length S_fetched S_predicted S_fetchedMany S_fetchedWay S_spot S_isWrong S_executedByText ++ []) (va_runV (As := [.int (48 : Int32), .int (49 : Int32)]) (rest := []) ⟨hx, hb, hml, hown, hts⟩ (c_X7_isNext l D cI cZ cII cJ cM aS S_thrown S_s S_aside S_saved S_savedMany S_text S_length S_fetched S_predicted S_fetchedMany S_fetchedWay S_spot S_isWrong S_executedByText (48 : Int32) (49 : Int32) H.size y29 h29) (cwV 2 hts gX7_readPattern_X7_isNext rfl rfl rfl (by decide +kernel) ⟨Nat.le_of_ble_eq_true rfl, Nat.le_of_ble_eq_true rfl⟩) (pz_V (x := []) (b := wX7 cI cZ cII aS S_thrown S_s S_aside S_saved S_savedMany S_text S_length S_fetched S_predicted S_fetchedMany S_fetchedWay S_spot S_isWrong S_executedByText ++ []) (y := ([] : va_W)) (C := RX7) (T := TX7) (N := 14) (ci := 7) (As := [.int (48 : Int32), .int (49 : Int32)]) (bi := 0) hK hN hP hD (by simp only [List.append_assoc, List.nil_append, List.append_nil]) rfl rfl) rfl rfl hl.1 rfl (lv_room (Nat.le_of_ble_eq_true rfl)) dX7_readPattern_29 ⟨Nat.le_of_ble_eq_true rfl, Nat.le_of_ble_eq_true rfl⟩) hP hD hS hA (by simp only [List.append_assoc, List.nil_append, List.append_nil]) (by simp only [List.append_assoc, List.nil_append, List.append_nil]) (fun H locs hP hD hS => ?_)
          refine lv_if_eq (tgt := 55) hx hb dX7_readPattern_32 (by decide) (fun c32 => ?_) (fun c32 => ?_)
          · have hf := if_t c32 hf
            exact J55 S_s S_spot S_isWrong x3 x4 _ _ _ hf hP hD hS (lv_sub hl [0, 1, 2, 3, 4] rfl)
          · have hf := if_f c32 hf
            exact J35 S_s S_spot S_isWrong x3 x4 _ _ _ hf hP hD hS (lv_sub hl [0, 1, 2, 3, 4] rfl)
      intro S_s S_spot S_isWrong x3 x4 H locs ls hf hP hD hS hl
      rw [m_X7_readPattern_5] at hf
      refine lv_iload hx hb dX7_readPattern_5 (lv_at hl 4 rfl) ?_
      refine lv_if_ne (tgt := 17) hx hb dX7_readPattern_7 (by decide) (fun c7 => ?_) (fun c7 => ?_)
      · have hf := if_f c7 hf
        exact J17 S_s S_spot S_isWrong x3 x4 _ _ _ hf hP hD hS (lv_sub hl [0, 1, 2, 3, 4] rfl)
      · have hf := if_t c7 hf
        refine lv_aload_n hx hb dX7_readPattern_10 rfl (lv_at hl 0 rfl) ?_
        refine va_get (D := D) (ci := 7) (v := .int S_isWrong) (C := RX7) (T := TX7) (N := 14) hx hb hts inX7 hown hK hP 0 rfl rfl 12 (by decide) kX7_138 (fun _ h9 => h9) rfl dX7_readPattern_11 ?_
        refine lv_if_eq (tgt := 35) hx hb dX7_readPattern_14 (by decide) (fun c14 => ?_) (fun c14 => ?_)
        · have hf := if_t c14 hf
          exact J35 S_s S_spot S_isWrong x3 x4 _ _ _ hf hP hD hS (lv_sub hl [0, 1, 2, 3, 4] rfl)
        · have hf := if_f c14 hf
          exact J17 S_s S_spot S_isWrong x3 x4 _ _ _ hf hP hD hS (lv_sub hl [0, 1, 2, 3, 4] rfl)
  unfold m_X7_readPattern at hf
  refine lv_iconst (v := 0) hx hb dX7_readPattern_0 (by decide) ?_
  refine lv_istore_n (lv' := [(3, .int (0 : Int32)), (0, .ref (aS 0)), (1, .int x1), (2, .int x2)]) hx hb dX7_readPattern_1 rfl hl (by decide) rfl (fun ls hl => ?_)
  refine lv_iconst (v := 0) hx hb dX7_readPattern_2 (by decide) ?_
  refine lv_istore (lv' := [(4, .int (0 : Int32)), (3, .int (0 : Int32)), (0, .ref (aS 0)), (1, .int x1), (2, .int x2)]) hx hb dX7_readPattern_3 hl (by decide) rfl (fun ls hl => ?_)
  exact J5 4000 S_s S_spot S_isWrong (0 : Int32) (0 : Int32) _ _ _ hf hP hD hS (lv_sub hl [2, 3, 4, 1, 0] rfl)
set_option maxHeartbeats 8000000 in
set_option maxRecDepth 100000 in
theorem c_X7_readInstruction (l : Launch) (D : va_G) (cI cZ cII cJ cM : ClassId) (aS : Nat → Nat) (S_thrown : Int32) (S_s : Nat → Int32) (S_aside : Nat → Int32) (S_saved : Nat → Int32) (S_savedMany : Int32) (S_text : Nat → Int32) (S_length : Int32) (S_fetched : Nat → Int32) (S_predicted : Nat → Int32) (S_fetchedMany : Int32) (S_fetchedWay : Int32) (S_spot : Int32) (S_isWrong : Int32) (S_executedByText : Int32) (x1 : Int32) (sz : Nat) (y : (Nat → Int32) × (Int32) × (Int32)) (hf : m_X7_readInstruction S_text S_length S_s S_spot S_isWrong x1 = some y) : Met l yX7_readInstruction wsX7_readInstruction ({ frames := 4, cells := 0, slots := 0, locals := 93 } : Room) (va_Pc [.ref (aS 0), .int x1] (pzPre D (zT cI cZ cII cJ cM) (wX7 cI cZ cII aS S_thrown S_s S_aside S_saved S_savedMany S_text S_length S_fetched S_predicted S_fetchedMany S_fetchedWay S_spot S_isWrong S_executedByText ++ []) sz)) (va_Qv (fun (_ : Unit) => True) (fun _ t => pzB D (zT cI cZ cII cJ cM) (va_A (wX7 cI cZ cII aS S_thrown S_s S_aside S_saved S_savedMany S_text S_length S_fetched S_predicted S_fetchedMany S_fetchedWay S_spot S_isWrong S_executedByText ++ []) sz) (wX7 cI cZ cII aS S_thrown y.1 S_aside S_saved S_savedMany S_text S_length S_fetched S_predicted S_fetchedMany S_fetchedWay y.2.1 y.2.2 S_executedByText ++ []) t) (va_A (wX7 cI cZ cII aS S_thrown S_s S_aside S_saved S_savedMany S_text S_length S_fetched S_predicted S_fetchedMany S_fetchedWay S_spot S_isWrong S_executedByText ++ []) sz)) 0 0 (va_A (wX7 cI cZ cII aS S_thrown S_s S_aside S_saved S_savedMany S_text S_length S_fetched S_predicted S_fetchedMany S_fetchedWay S_spot S_isWrong S_executedByText ++ []) sz) := by
  refine z_metv (cc := cX7_readInstruction) (maxL := 6) (by decide) rfl (Nat.le_of_ble_eq_true rfl) ?_
  intro p e s m args below meth c A ls Q H locs F hP hD hS hl hret
  obtain ⟨hx, hb, hml, hown, hts, hN, hK, hA⟩ := F
  have hown : s.vm.findClass RX7 = some m.cls := hown
  have hl : lv_has ls 6 [(0, .ref (aS 0)), (1, .int x1)] := hl
  have inX7 : ∀ w ∈ u_ws RX7 TX7 14, w ∈ wsX7_readInstruction := by decide +kernel
  have kX7_19 := hts (.fieldLink RX7 19 "TraceCacheModel" "text" "[I") (by decide +kernel)
  have kX7_138 := hts (.fieldLink RX7 138 "TraceCacheModel" "isWrong" "Z") (by decide +kernel)
  have kX7_142 := hts (.fieldLink RX7 142 "TraceCacheModel" "spot" "I") (by decide +kernel)
  have J175 : ∀ (S_s : Nat → Int32) (S_spot : Int32) (S_isWrong : Int32) (k0 : Int32) (H : Heap) (locs : List Loc) (ls : Array Slot), m_X7_readInstruction_175 S_text S_length x1 S_s S_spot S_isWrong k0 = some y → va_P D vwCl (wX7 cI cZ cII aS S_thrown S_s S_aside S_saved S_savedMany S_text S_length S_fetched S_predicted S_fetchedMany S_fetchedWay S_spot S_isWrong S_executedByText ++ []) H → va_D A (wX7 cI cZ cII aS S_thrown S_s S_aside S_saved S_savedMany S_text S_length S_fetched S_predicted S_fetchedMany S_fetchedWay S_spot S_isWrong S_executedByText ++ []) → va_S A s.heap H locs → lv_has ls 6 [] → W p l e ({ frames := 4, cells := 0, slots := 0, locals := 93 } : Room) s m args below meth c H locs 0 0 Q (F0 m 175 ls [.int k0]) := by
    intro S_s S_spot S_isWrong k0 H locs ls hf hP hD hS hl
    unfold m_X7_readInstruction_175 at hf
    refine lv_istore (lv' := [(5, .int k0)]) hx hb dX7_readInstruction_175 hl (by decide) rfl (fun ls hl => ?_)
    obtain rfl := Option.some.inj hf
    exact hret _ _ _ _ dX7_readInstruction_177 hP hD hS
  have J166 : ∀ (S_s : Nat → Int32) (S_spot : Int32) (S_isWrong : Int32) (x4 : Int32) (k1 : Int32) (k2 : Int32) (H : Heap) (locs : List Loc) (ls : Array Slot), m_X7_readInstruction_166 S_text S_length x1 S_s S_spot S_isWrong x4 k1 k2 = some y → va_P D vwCl (wX7 cI cZ cII aS S_thrown S_s S_aside S_saved S_savedMany S_text S_length S_fetched S_predicted S_fetchedMany S_fetchedWay S_spot S_isWrong S_executedByText ++ []) H → va_D A (wX7 cI cZ cII aS S_thrown S_s S_aside S_saved S_savedMany S_text S_length S_fetched S_predicted S_fetchedMany S_fetchedWay S_spot S_isWrong S_executedByText ++ []) → va_S A s.heap H locs → lv_has ls 6 [(4, .int x4)] → W p l e ({ frames := 4, cells := 0, slots := 0, locals := 93 } : Room) s m args below meth c H locs 0 0 Q (F0 m 166 ls [.int k2, .int k1, .ref (aS 0)]) := by
    intro S_s S_spot S_isWrong x4 k1 k2 H locs ls hf hP hD hS hl
    unfold m_X7_readInstruction_166 at hf
    refine lv_iload hx hb dX7_readInstruction_166 (lv_at hl 0 rfl) ?_
    obtain ⟨y168, h168, hf⟩ := bn_t hf
    refine z_ai (x := []) (b := wX7 cI cZ cII aS S_thrown S_s S_aside S_saved S_savedMany S_text S_length S_fetched S_predicted S_fetchedMany S_fetchedWay S_spot S_isWrong S_executedByText ++ []) (y := ([] : va_W)) (b1 := wX7 cI cZ cII aS S_thrown y168.2 S_aside S_saved S_savedMany S_text S_length S_fetched S_predicted S_fetchedMany S_fetchedWay S_spot S_isWrong S_executedByText ++ []) (wsn := wX7 cI cZ cII aS S_thrown y168.2 S_aside S_saved S_savedMany S_text S_length S_fetched S_predicted S_fetchedMany S_fetchedWay S_spot S_isWrong S_executedByText ++ []) (va_runV (As := [.int k1, .int k2, .int x4]) (rest := []) ⟨hx, hb, hml, hown, hts⟩ (c_X7_writes l D cI cZ cII cJ cM aS S_thrown S_s S_aside S_saved S_savedMany S_text S_length S_fetched S_predicted S_fetchedMany S_fetchedWay S_spot S_isWrong S_executedByText k1 k2 x4 H.size y168 h168) (cwV 3 hts gX7_readInstruction_X7_writes rfl rfl rfl (by decide +kernel) ⟨Nat.le_of_ble_eq_true rfl, Nat.le_of_ble_eq_true rfl⟩) (pz_V (x := []) (b := wX7 cI cZ cII aS S_thrown S_s S_aside S_saved S_savedMany S_text S_length S_fetched S_predicted S_fetchedMany S_fetchedWay S_spot S_isWrong S_executedByText ++ []) (y := ([] : va_W)) (C := RX7) (T := TX7) (N := 14) (ci := 7) (As := [.int k1, .int k2, .int x4]) (bi := 0) hK hN hP hD (by simp only [List.append_assoc, List.nil_append, List.append_nil]) rfl rfl) rfl rfl hl.1 rfl (lv_room (Nat.le_of_ble_eq_true rfl)) dX7_readInstruction_168 ⟨Nat.le_of_ble_eq_true rfl, Nat.le_of_ble_eq_true rfl⟩) hP hD hS hA (by simp only [List.append_assoc, List.nil_append, List.append_nil]) (by simp only [List.append_assoc, List.nil_append, List.append_nil]) (fun H locs hP hD hS => ?_)
    refine lv_goto (tgt := 175) hx hb dX7_readInstruction_171 (by decide) ?_
    exact J175 y168.2 S_spot S_isWrong y168.1 _ _ _ hf hP hD hS (lv_sub hl [] rfl)
  have J137 : ∀ (S_s : Nat → Int32) (S_spot : Int32) (S_isWrong : Int32) (x2 : Int32) (x3 : Int32) (k0 : Int32) (H : Heap) (locs : List Loc) (ls : Array Slot), m_X7_readInstruction_137 S_text S_length x1 S_s S_spot S_isWrong x2 x3 k0 = some y → va_P D vwCl (wX7 cI cZ cII aS S_thrown S_s S_aside S_saved S_savedMany S_text S_length S_fetched S_predicted S_fetchedMany S_fetchedWay S_spot S_isWrong S_executedByText ++ []) H → va_D A (wX7 cI cZ cII aS S_thrown S_s S_aside S_saved S_savedMany S_text S_length S_fetched S_predicted S_fetchedMany S_fetchedWay S_spot S_isWrong S_executedByText ++ []) → va_S A s.heap H locs → lv_has ls 6 [(0, .ref (aS 0)), (1, .int x1), (2, .int x2), (3, .int x3)] → W p l e ({ frames := 4, cells := 0, slots := 0, locals := 93 } : Room) s m args below meth c H locs 0 0 Q (F0 m 137 ls [.int k0]) := by
    intro S_s S_spot S_isWrong x2 x3 k0 H locs ls hf hP hD hS hl
    unfold m_X7_readInstruction_137 at hf
    refine lv_istore (lv' := [(4, .int k0), (0, .ref (aS 0)), (1, .int x1), (2, .int x2), (3, .int x3)]) hx hb dX7_readInstruction_137 hl (by decide) rfl (fun ls hl => ?_)
    refine lv_iload_n hx hb dX7_readInstruction_139 rfl (lv_at hl 2 rfl) ?_
    refine lv_if_eq (tgt := 174) hx hb dX7_readInstruction_140 (by decide) (fun c140 => ?_) (fun c140 => ?_)
    · have hf := if_t c140 hf
      refine lv_iconst (v := 0) hx hb dX7_readInstruction_174 (by decide) ?_
      exact J175 S_s S_spot S_isWrong (0 : Int32) _ _ _ hf hP hD hS (lv_sub hl [] rfl)
    · have hf := if_f c140 hf
      refine lv_aload_n hx hb dX7_readInstruction_143 rfl (lv_at hl 1 rfl) ?_
      refine lv_iload_n hx hb dX7_readInstruction_144 rfl (lv_at hl 3 rfl) ?_
      refine lv_iload_n hx hb dX7_readInstruction_145 rfl (lv_at hl 4 rfl) ?_
      refine lv_bipush (v := 46) hx hb dX7_readInstruction_146 (by decide) ?_
      refine lv_icmp_ne (tgt := 155) hx hb dX7_readInstruction_148 (by decide) (fun c148 => ?_) (fun c148 => ?_)
      · have hf := if_f c148 hf
        refine lv_iload_n hx hb dX7_readInstruction_155 rfl (lv_at hl 4 rfl) ?_
        refine lv_bipush (v := 106) hx hb dX7_readInstruction_156 (by decide) ?_
        refine lv_icmp_ne (tgt := 165) hx hb dX7_readInstruction_158 (by decide) (fun c158 => ?_) (fun c158 => ?_)
        · have hf := if_f c158 hf
          refine lv_iconst (v := 2) hx hb dX7_readInstruction_165 (by decide) ?_
          exact J166 S_s S_spot S_isWrong k0 x2 (2 : Int32) _ _ _ hf hP hD hS (lv_sub hl [0] rfl)
        · have hf := if_t c158 hf
          refine lv_iconst (v := 1) hx hb dX7_readInstruction_161 (by decide) ?_
          refine lv_goto (tgt := 166) hx hb dX7_readInstruction_162 (by decide) ?_
          exact J166 S_s S_spot S_isWrong k0 x2 (1 : Int32) _ _ _ hf hP hD hS (lv_sub hl [0] rfl)
      · have hf := if_t c148 hf
        refine lv_iconst (v := 0) hx hb dX7_readInstruction_151 (by decide) ?_
        refine lv_goto (tgt := 166) hx hb dX7_readInstruction_152 (by decide) ?_
        exact J166 S_s S_spot S_isWrong k0 x2 (0 : Int32) _ _ _ hf hP hD hS (lv_sub hl [0] rfl)
  have J103 : ∀ (S_s : Nat → Int32) (S_spot : Int32) (S_isWrong : Int32) (x2 : Int32) (x3 : Int32) (k1 : Int32) (k2 : Int32) (H : Heap) (locs : List Loc) (ls : Array Slot), m_X7_readInstruction_103 S_text S_length x1 S_s S_spot S_isWrong x2 x3 k1 k2 = some y → va_P D vwCl (wX7 cI cZ cII aS S_thrown S_s S_aside S_saved S_savedMany S_text S_length S_fetched S_predicted S_fetchedMany S_fetchedWay S_spot S_isWrong S_executedByText ++ []) H → va_D A (wX7 cI cZ cII aS S_thrown S_s S_aside S_saved S_savedMany S_text S_length S_fetched S_predicted S_fetchedMany S_fetchedWay S_spot S_isWrong S_executedByText ++ []) → va_S A s.heap H locs → lv_has ls 6 [(0, .ref (aS 0)), (1, .int x1), (2, .int x2), (3, .int x3)] → W p l e ({ frames := 4, cells := 0, slots := 0, locals := 93 } : Room) s m args below meth c H locs 0 0 Q (F0 m 103 ls [.int k2, .int k1, .ref (aS 0)]) := by
    intro S_s S_spot S_isWrong x2 x3 k1 k2 H locs ls hf hP hD hS hl
    unfold m_X7_readInstruction_103 at hf
    refine lv_iadd hx hb dX7_readInstruction_103 ?_
    refine lv_topi (fun v104 ev104 => ?_)
    have hf := bd_t ev104 hf
    refine va_put (D := D) (ci := 7) (v := .int v104) (ty := .int) (C := RX7) (T := TX7) (N := 14) hx hb hts inX7 tyX7 tyX7_ok nmX7 hown hK hP hD hS 0 rfl rfl 11 (by decide) kX7_142 (fun _ h9 => h9) rfl (by decide +kernel) rfl rfl (Nat.le_of_ble_eq_true rfl) dX7_readInstruction_104 (fun H locs hP hD hS => ?_)
    have hP : va_P D vwCl (wX7 cI cZ cII aS S_thrown S_s S_aside S_saved S_savedMany S_text S_length S_fetched S_predicted S_fetchedMany S_fetchedWay v104 S_isWrong S_executedByText ++ []) H := hP
    have hD : va_D A (wX7 cI cZ cII aS S_thrown S_s S_aside S_saved S_savedMany S_text S_length S_fetched S_predicted S_fetchedMany S_fetchedWay v104 S_isWrong S_executedByText ++ []) := hD
    refine lv_iload_n hx hb dX7_readInstruction_107 rfl (lv_at hl 3 rfl) ?_
    refine lv_bipush (v := 112) hx hb dX7_readInstruction_108 (by decide) ?_
    refine lv_icmp_ne (tgt := 120) hx hb dX7_readInstruction_110 (by decide) (fun c110 => ?_) (fun c110 => ?_)
    · have hf := if_f c110 hf
      refine lv_iload_n hx hb dX7_readInstruction_120 rfl (lv_at hl 3 rfl) ?_
      refine lv_bipush (v := 46) hx hb dX7_readInstruction_121 (by decide) ?_
      refine lv_icmp_ne (tgt := 130) hx hb dX7_readInstruction_123 (by decide) (fun c123 => ?_) (fun c123 => ?_)
      · have hf := if_f c123 hf
        refine lv_aload_n hx hb dX7_readInstruction_130 rfl (lv_at hl 0 rfl) ?_
        refine lv_iconst (v := 0) hx hb dX7_readInstruction_131 (by decide) ?_
        refine lv_bipush (v := 47) hx hb dX7_readInstruction_132 (by decide) ?_
        obtain ⟨y134, h134, hf⟩ := bn_t hf
        refine z_ai (x := []) (b := wX7 cI cZ cII aS S_thrown S_s S_aside S_saved S_savedMany S_text S_length S_fetched S_predicted S_fetchedMany S_fetchedWay v104 S_isWrong S_executedByText ++ []) (y := ([] : va_W)) (b1 := wX7 cI cZ cII aS S_thrown S_s S_aside S_saved S_savedMany S_text S_length S_fetched S_predicted S_fetchedMany S_fetchedWay y134.2.1 y134.2.2 S_executedByText ++ []) (wsn := wX7 cI cZ cII aS S_thrown S_s S_aside S_saved S_savedMany S_text S_length S_fetched S_predicted S_fetchedMany S_fetchedWay y134.2.1 y134.2.2 S_executedByText ++ []) (va_runV (As := [.int (0 : Int32), .int (47 : Int32)]) (rest := []) ⟨hx, hb, hml, hown, hts⟩ (c_X7_number l D cI cZ cII cJ cM aS S_thrown S_s S_aside S_saved S_savedMany S_text S_length S_fetched S_predicted S_fetchedMany S_fetchedWay v104 S_isWrong S_executedByText (0 : Int32) (47 : Int32) H.size y134 h134) (cwV 2 hts gX7_readInstruction_X7_number rfl rfl rfl (by decide +kernel) ⟨Nat.le_of_ble_eq_true rfl, Nat.le_of_ble_eq_true rfl⟩) (pz_V (x := []) (b := wX7 cI cZ cII aS S_thrown S_s S_aside S_saved S_savedMany S_text S_length S_fetched S_predicted S_fetchedMany S_fetchedWay v104 S_isWrong S_executedByText ++ []) (y := ([] : va_W)) (C := RX7) (T := TX7) (N := 14) (ci := 7) (As := [.int (0 : Int32), .int (47 : Int32)]) (bi := 0) hK hN hP hD (by simp only [List.append_assoc, List.nil_append, List.append_nil]) rfl rfl) rfl rfl hl.1 rfl (lv_room (Nat.le_of_ble_eq_true rfl)) dX7_readInstruction_134 ⟨Nat.le_of_ble_eq_true rfl, Nat.le_of_ble_eq_true rfl⟩) hP hD hS hA (by simp only [List.append_assoc, List.nil_append, List.append_nil]) (by simp only [List.append_assoc, List.nil_append, List.append_nil]) (fun H locs hP hD hS => ?_)
        exact J137 S_s y134.2.1 y134.2.2 x2 x3 y134.1 _ _ _ hf hP hD hS (lv_sub hl [0, 1, 2, 3] rfl)
      · have hf := if_t c123 hf
        refine lv_iconst (v := 0) hx hb dX7_readInstruction_126 (by decide) ?_
        refine lv_goto (tgt := 137) hx hb dX7_readInstruction_127 (by decide) ?_
        exact J137 S_s v104 S_isWrong x2 x3 (0 : Int32) _ _ _ hf hP hD hS (lv_sub hl [0, 1, 2, 3] rfl)
    · have hf := if_t c110 hf
      refine lv_aload_n hx hb dX7_readInstruction_113 rfl (lv_at hl 0 rfl) ?_
      refine lv_iload_n hx hb dX7_readInstruction_114 rfl (lv_at hl 2 rfl) ?_
      refine lv_iload_n hx hb dX7_readInstruction_115 rfl (lv_at hl 1 rfl) ?_
      obtain ⟨y116, h116, hf⟩ := bn_t hf
      refine z_av (x := []) (b := wX7 cI cZ cII aS S_thrown S_s S_aside S_saved S_savedMany S_text S_length S_fetched S_predicted S_fetchedMany S_fetchedWay v104 S_isWrong S_executedByText ++ []) (y := ([] : va_W)) (b1 := wX7 cI cZ cII aS S_thrown y116.1 S_aside S_saved S_savedMany S_text S_length S_fetched S_predicted S_fetchedMany S_fetchedWay y116.2.1 y116.2.2 S_executedByText ++ []) (wsn := wX7 cI cZ cII aS S_thrown y116.1 S_aside S_saved S_savedMany S_text S_length S_fetched S_predicted S_fetchedMany S_fetchedWay y116.2.1 y116.2.2 S_executedByText ++ []) (va_runV (As := [.int x2, .int x1]) (rest := []) ⟨hx, hb, hml, hown, hts⟩ (c_X7_readPattern l D cI cZ cII cJ cM aS S_thrown S_s S_aside S_saved S_savedMany S_text S_length S_fetched S_predicted S_fetchedMany S_fetchedWay v104 S_isWrong S_executedByText x2 x1 H.size y116 h116) (cwV 2 hts gX7_readInstruction_X7_readPattern rfl rfl rfl (by decide +kernel) ⟨Nat.le_of_ble_eq_true rfl, Nat.le_of_ble_eq_true rfl⟩) (pz_V (x := []) (b := wX7 cI cZ cII aS S_thrown S_s S_aside S_saved S_savedMany S_text S_length S_fetched S_predicted S_fetchedMany S_fetchedWay v104 S_isWrong S_executedByText ++ []) (y := ([] : va_W)) (C := RX7) (T := TX7) (N := 14) (ci := 7) (As := [.int x2, .int x1]) (bi := 0) hK hN hP hD (by simp only [List.append_assoc, List.nil_append, List.append_nil]) rfl rfl) rfl rfl hl.1 rfl (lv_room (Nat.le_of_ble_eq_true rfl)) dX7_readInstruction_116 ⟨Nat.le_of_ble_eq_true rfl, Nat.le_of_ble_eq_true rfl⟩) hP hD hS hA (by simp only [List.append_assoc, List.nil_append, List.append_nil]) (by simp only [List.append_assoc, List.nil_append, List.append_nil]) (fun H locs hP hD hS => ?_)
      obtain rfl := Option.some.inj hf
      exact hret _ _ _ _ dX7_readInstruction_119 hP hD hS
  have J83 : ∀ (S_s : Nat → Int32) (S_spot : Int32) (S_isWrong : Int32) (x2 : Int32) (x3 : Int32) (k1 : Int32) (H : Heap) (locs : List Loc) (ls : Array Slot), m_X7_readInstruction_83 S_text S_length x1 S_s S_spot S_isWrong x2 x3 k1 = some y → va_P D vwCl (wX7 cI cZ cII aS S_thrown S_s S_aside S_saved S_savedMany S_text S_length S_fetched S_predicted S_fetchedMany S_fetchedWay S_spot S_isWrong S_executedByText ++ []) H → va_D A (wX7 cI cZ cII aS S_thrown S_s S_aside S_saved S_savedMany S_text S_length S_fetched S_predicted S_fetchedMany S_fetchedWay S_spot S_isWrong S_executedByText ++ []) → va_S A s.heap H locs → lv_has ls 6 [(0, .ref (aS 0)), (1, .int x1), (2, .int x2), (3, .int x3)] → W p l e ({ frames := 4, cells := 0, slots := 0, locals := 93 } : Room) s m args below meth c H locs 0 0 Q (F0 m 83 ls [.int k1, .ref (aS 0)]) := by
    intro S_s S_spot S_isWrong x2 x3 k1 H locs ls hf hP hD hS hl
    unfold m_X7_readInstruction_83 at hf
    obtain ⟨g83, hf⟩ := gd_t hf
    refine va_put (D := D) (ci := 7) (v := .int k1) (ty := .boolean) (C := RX7) (T := TX7) (N := 14) hx hb hts inX7 tyX7 tyX7_ok nmX7 hown hK hP hD hS 0 rfl rfl 12 (by decide) kX7_138 (fun _ h9 => h9) rfl (by decide +kernel) (isb_t g83) (isb_f g83) (Nat.le_of_ble_eq_true rfl) dX7_readInstruction_83 (fun H locs hP hD hS => ?_)
    have hP : va_P D vwCl (wX7 cI cZ cII aS S_thrown S_s S_aside S_saved S_savedMany S_text S_length S_fetched S_predicted S_fetchedMany S_fetchedWay S_spot k1 S_executedByText ++ []) H := hP
    have hD : va_D A (wX7 cI cZ cII aS S_thrown S_s S_aside S_saved S_savedMany S_text S_length S_fetched S_predicted S_fetchedMany S_fetchedWay S_spot k1 S_executedByText ++ []) := hD
    refine lv_aload_n hx hb dX7_readInstruction_86 rfl (lv_at hl 0 rfl) ?_
    refine lv_dup hx hb dX7_readInstruction_87 rfl ?_
    refine va_get (D := D) (ci := 7) (v := .int S_spot) (C := RX7) (T := TX7) (N := 14) hx hb hts inX7 hown hK hP 0 rfl rfl 11 (by decide) kX7_142 (fun _ h9 => h9) rfl dX7_readInstruction_88 ?_
    refine lv_aload_n hx hb dX7_readInstruction_91 rfl (lv_at hl 0 rfl) ?_
    refine va_get (D := D) (ci := 7) (v := .int k1) (C := RX7) (T := TX7) (N := 14) hx hb hts inX7 hown hK hP 0 rfl rfl 12 (by decide) kX7_138 (fun _ h9 => h9) rfl dX7_readInstruction_92 ?_
    refine lv_if_eq (tgt := 102) hx hb dX7_readInstruction_95 (by decide) (fun c95 => ?_) (fun c95 => ?_)
    · have hf := if_t c95 hf
      refine lv_iconst (v := 1) hx hb dX7_readInstruction_102 (by decide) ?_
      exact J103 S_s S_spot k1 x2 x3 S_spot (1 : Int32) _ _ _ hf hP hD hS (lv_sub hl [0, 1, 2, 3] rfl)
    · have hf := if_f c95 hf
      refine lv_iconst (v := 0) hx hb dX7_readInstruction_98 (by decide) ?_
      refine lv_goto (tgt := 103) hx hb dX7_readInstruction_99 (by decide) ?_
      exact J103 S_s S_spot k1 x2 x3 S_spot (0 : Int32) _ _ _ hf hP hD hS (lv_sub hl [0, 1, 2, 3] rfl)
  have J78 : ∀ (S_s : Nat → Int32) (S_spot : Int32) (S_isWrong : Int32) (x2 : Int32) (x3 : Int32) (H : Heap) (locs : List Loc) (ls : Array Slot), m_X7_readInstruction_78 S_text S_length x1 S_s S_spot S_isWrong x2 x3 = some y → va_P D vwCl (wX7 cI cZ cII aS S_thrown S_s S_aside S_saved S_savedMany S_text S_length S_fetched S_predicted S_fetchedMany S_fetchedWay S_spot S_isWrong S_executedByText ++ []) H → va_D A (wX7 cI cZ cII aS S_thrown S_s S_aside S_saved S_savedMany S_text S_length S_fetched S_predicted S_fetchedMany S_fetchedWay S_spot S_isWrong S_executedByText ++ []) → va_S A s.heap H locs → lv_has ls 6 [(0, .ref (aS 0)), (1, .int x1), (2, .int x2), (3, .int x3)] → W p l e ({ frames := 4, cells := 0, slots := 0, locals := 93 } : Room) s m args below meth c H locs 0 0 Q (F0 m 78 ls [.ref (aS 0)]) := by
    intro S_s S_spot S_isWrong x2 x3 H locs ls hf hP hD hS hl
    unfold m_X7_readInstruction_78 at hf
    refine lv_iconst (v := 1) hx hb dX7_readInstruction_78 (by decide) ?_
    refine lv_goto (tgt := 83) hx hb dX7_readInstruction_79 (by decide) ?_
    exact J83 S_s S_spot S_isWrong x2 x3 (1 : Int32) _ _ _ hf hP hD hS (lv_sub hl [0, 1, 2, 3] rfl)
  have J65 : ∀ (S_s : Nat → Int32) (S_spot : Int32) (S_isWrong : Int32) (x2 : Int32) (k0 : Int32) (H : Heap) (locs : List Loc) (ls : Array Slot), m_X7_readInstruction_65 S_text S_length x1 S_s S_spot S_isWrong x2 k0 = some y → va_P D vwCl (wX7 cI cZ cII aS S_thrown S_s S_aside S_saved S_savedMany S_text S_length S_fetched S_predicted S_fetchedMany S_fetchedWay S_spot S_isWrong S_executedByText ++ []) H → va_D A (wX7 cI cZ cII aS S_thrown S_s S_aside S_saved S_savedMany S_text S_length S_fetched S_predicted S_fetchedMany S_fetchedWay S_spot S_isWrong S_executedByText ++ []) → va_S A s.heap H locs → lv_has ls 6 [(0, .ref (aS 0)), (1, .int x1), (2, .int x2)] → W p l e ({ frames := 4, cells := 0, slots := 0, locals := 93 } : Room) s m args below meth c H locs 0 0 Q (F0 m 65 ls [.int k0]) := by
    intro S_s S_spot S_isWrong x2 k0 H locs ls hf hP hD hS hl
    unfold m_X7_readInstruction_65 at hf
    refine lv_istore_n (lv' := [(3, .int k0), (0, .ref (aS 0)), (1, .int x1), (2, .int x2)]) hx hb dX7_readInstruction_65 rfl hl (by decide) rfl (fun ls hl => ?_)
    refine lv_aload_n hx hb dX7_readInstruction_66 rfl (lv_at hl 1 rfl) ?_
    refine lv_aload_n hx hb dX7_readInstruction_67 rfl (lv_at hl 1 rfl) ?_
    refine va_get (D := D) (ci := 7) (v := .int S_isWrong) (C := RX7) (T := TX7) (N := 14) hx hb hts inX7 hown hK hP 0 rfl rfl 12 (by decide) kX7_138 (fun _ h9 => h9) rfl dX7_readInstruction_68 ?_
    refine lv_if_ne (tgt := 78) hx hb dX7_readInstruction_71 (by decide) (fun c71 => ?_) (fun c71 => ?_)
    · have hf := if_f c71 hf
      exact J78 S_s S_spot S_isWrong x2 k0 _ _ _ hf hP hD hS (lv_sub hl [1, 2, 3, 0] rfl)
    · have hf := if_t c71 hf
      refine lv_iload_n hx hb dX7_readInstruction_74 rfl (lv_at hl 0 rfl) ?_
      refine lv_if_ne (tgt := 82) hx hb dX7_readInstruction_75 (by decide) (fun c75 => ?_) (fun c75 => ?_)
      · have hf := if_f c75 hf
        refine lv_iconst (v := 0) hx hb dX7_readInstruction_82 (by decide) ?_
        exact J83 S_s S_spot S_isWrong x2 k0 (0 : Int32) _ _ _ hf hP hD hS (lv_sub hl [1, 2, 3, 0] rfl)
      · have hf := if_t c75 hf
        exact J78 S_s S_spot S_isWrong x2 k0 _ _ _ hf hP hD hS (lv_sub hl [1, 2, 3, 0] rfl)
  have J52 : ∀ (S_s : Nat → Int32) (S_spot : Int32) (S_isWrong : Int32) (x2 : Int32) (H : Heap) (locs : List Loc) (ls : Array Slot), m_X7_readInstruction_52 S_text S_length x1 S_s S_spot S_isWrong x2 = some y → va_P D vwCl (wX7 cI cZ cII aS S_thrown S_s S_aside S_saved S_savedMany S_text S_length S_fetched S_predicted S_fetchedMany S_fetchedWay S_spot S_isWrong S_executedByText ++ []) H → va_D A (wX7 cI cZ cII aS S_thrown S_s S_aside S_saved S_savedMany S_text S_length S_fetched S_predicted S_fetchedMany S_fetchedWay S_spot S_isWrong S_executedByText ++ []) → va_S A s.heap H locs → lv_has ls 6 [(0, .ref (aS 0)), (1, .int x1), (2, .int x2)] → W p l e ({ frames := 4, cells := 0, slots := 0, locals := 93 } : Room) s m args below meth c H locs 0 0 Q (F0 m 52 ls []) := by
    intro S_s S_spot S_isWrong x2 H locs ls hf hP hD hS hl
    unfold m_X7_readInstruction_52 at hf
    refine lv_aload_n hx hb dX7_readInstruction_52 rfl (lv_at hl 0 rfl) ?_
    refine va_get (D := D) (ci := 7) (v := .ref (aS 4)) (C := RX7) (T := TX7) (N := 14) hx hb hts inX7 hown hK hP 0 rfl rfl 5 (by decide) kX7_19 (fun _ h9 => h9) rfl dX7_readInstruction_53 ?_
    refine lv_aload_n hx hb dX7_readInstruction_56 rfl (lv_at hl 0 rfl) ?_
    refine va_get (D := D) (ci := 7) (v := .int S_spot) (C := RX7) (T := TX7) (N := 14) hx hb hts inX7 hown hK hP 0 rfl rfl 11 (by decide) kX7_142 (fun _ h9 => h9) rfl dX7_readInstruction_57 ?_
    obtain ⟨g60, hf⟩ := gd_t hf
    refine va_iald hx hb hK hP 4 0 rfl rfl (inb_t g60) dX7_readInstruction_60 ?_
    refine lv_goto (tgt := 65) hx hb dX7_readInstruction_61 (by decide) ?_
    exact J65 S_s S_spot S_isWrong x2 (S_text (Int32.toNatClampNeg S_spot)) _ _ _ hf hP hD hS (lv_sub hl [0, 1, 2] rfl)
  unfold m_X7_readInstruction at hf
  refine lv_aload_n hx hb dX7_readInstruction_0 rfl (lv_at hl 0 rfl) ?_
  refine lv_iconst (v := 0) hx hb dX7_readInstruction_1 (by decide) ?_
  refine lv_bipush (v := 47) hx hb dX7_readInstruction_2 (by decide) ?_
  obtain ⟨y4, h4, hf⟩ := bn_t hf
  refine z_ai (x := []) (b := wX7 cI cZ cII aS S_thrown S_s S_aside S_saved S_savedMany S_text S_length S_fetched S_predicted S_fetchedMany S_fetchedWay S_spot S_isWrong S_executedByText ++ []) (y := ([] : va_W)) (b1 := wX7 cI cZ cII aS S_thrown S_s S_aside S_saved S_savedMany S_text S_length S_fetched S_predicted S_fetchedMany S_fetchedWay y4.2.1 y4.2.2 S_executedByText ++ []) (wsn := wX7 cI cZ cII aS S_thrown S_s S_aside S_saved S_savedMany S_text S_length S_fetched S_predicted S_fetchedMany S_fetchedWay y4.2.1 y4.2.2 S_executedByText ++ []) (va_runV (As := [.int (0 : Int32), .int (47 : Int32)]) (rest := []) ⟨hx, hb, hml, hown, hts⟩ (c_X7_number l D cI cZ cII cJ cM aS S_thrown S_s S_aside S_saved S_savedMany S_text S_length S_fetched S_predicted S_fetchedMany S_fetchedWay S_spot S_isWrong S_executedByText (0 : Int32) (47 : Int32) H.size y4 h4) (cwV 2 hts gX7_readInstruction_X7_number rfl rfl rfl (by decide +kernel) ⟨Nat.le_of_ble_eq_true rfl, Nat.le_of_ble_eq_true rfl⟩) (pz_V (x := []) (b := wX7 cI cZ cII aS S_thrown S_s S_aside S_saved S_savedMany S_text S_length S_fetched S_predicted S_fetchedMany S_fetchedWay S_spot S_isWrong S_executedByText ++ []) (y := ([] : va_W)) (C := RX7) (T := TX7) (N := 14) (ci := 7) (As := [.int (0 : Int32), .int (47 : Int32)]) (bi := 0) hK hN hP hD (by simp only [List.append_assoc, List.nil_append, List.append_nil]) rfl rfl) rfl rfl hl.1 rfl (lv_room (Nat.le_of_ble_eq_true rfl)) dX7_readInstruction_4 ⟨Nat.le_of_ble_eq_true rfl, Nat.le_of_ble_eq_true rfl⟩) hP hD hS hA (by simp only [List.append_assoc, List.nil_append, List.append_nil]) (by simp only [List.append_assoc, List.nil_append, List.append_nil]) (fun H locs hP hD hS => ?_)
  refine lv_istore_n (lv' := [(2, .int y4.1), (0, .ref (aS 0)), (1, .int x1)]) hx hb dX7_readInstruction_7 rfl hl (by decide) rfl (fun ls hl => ?_)
  refine lv_aload_n hx hb dX7_readInstruction_8 rfl (lv_at hl 1 rfl) ?_
  refine lv_bipush (v := 46) hx hb dX7_readInstruction_9 (by decide) ?_
  refine lv_bipush (v := 46) hx hb dX7_readInstruction_11 (by decide) ?_
  obtain ⟨y13, h13, hf⟩ := bn_t hf
  refine z_ai (x := []) (b := wX7 cI cZ cII aS S_thrown S_s S_aside S_saved S_savedMany S_text S_length S_fetched S_predicted S_fetchedMany S_fetchedWay y4.2.1 y4.2.2 S_executedByText ++ []) (y := ([] : va_W)) (b1 := wX7 cI cZ cII aS S_thrown S_s S_aside S_saved S_savedMany S_text S_length S_fetched S_predicted S_fetchedMany S_fetchedWay y4.2.1 y4.2.2 S_executedByText ++ []) (wsn := wX7 cI cZ cII aS S_thrown S_s S_aside S_saved S_savedMany S_text S_length S_fetched S_predicted S_fetchedMany S_fetchedWay y4.2.1 y4.2.2 S_executedByText ++ []) (va_runV (As := [.int (46 : Int32), .int (46 : Int32)]) (rest := []) ⟨hx, hb, hml, hown, hts⟩ (c_X7_isNext l D cI cZ cII cJ cM aS S_thrown S_s S_aside S_saved S_savedMany S_text S_length S_fetched S_predicted S_fetchedMany S_fetchedWay y4.2.1 y4.2.2 S_executedByText (46 : Int32) (46 : Int32) H.size y13 h13) (cwV 2 hts gX7_readInstruction_X7_isNext rfl rfl rfl (by decide +kernel) ⟨Nat.le_of_ble_eq_true rfl, Nat.le_of_ble_eq_true rfl⟩) (pz_V (x := []) (b := wX7 cI cZ cII aS S_thrown S_s S_aside S_saved S_savedMany S_text S_length S_fetched S_predicted S_fetchedMany S_fetchedWay y4.2.1 y4.2.2 S_executedByText ++ []) (y := ([] : va_W)) (C := RX7) (T := TX7) (N := 14) (ci := 7) (As := [.int (46 : Int32), .int (46 : Int32)]) (bi := 0) hK hN hP hD (by simp only [List.append_assoc, List.nil_append, List.append_nil]) rfl rfl) rfl rfl hl.1 rfl (lv_room (Nat.le_of_ble_eq_true rfl)) dX7_readInstruction_13 ⟨Nat.le_of_ble_eq_true rfl, Nat.le_of_ble_eq_true rfl⟩) hP hD hS hA (by simp only [List.append_assoc, List.nil_append, List.append_nil]) (by simp only [List.append_assoc, List.nil_append, List.append_nil]) (fun H locs hP hD hS => ?_)
  refine lv_if_ne (tgt := 52) hx hb dX7_readInstruction_16 (by decide) (fun c16 => ?_) (fun c16 => ?_)
  · have hf := if_f c16 hf
    exact J52 S_s y4.2.1 y4.2.2 y4.1 _ _ _ hf hP hD hS (lv_sub hl [1, 2, 0] rfl)
  · have hf := if_t c16 hf
    refine lv_aload_n hx hb dX7_readInstruction_19 rfl (lv_at hl 1 rfl) ?_
    refine lv_bipush (v := 106) hx hb dX7_readInstruction_20 (by decide) ?_
    refine lv_bipush (v := 106) hx hb dX7_readInstruction_22 (by decide) ?_
    obtain ⟨y24, h24, hf⟩ := bn_t hf
    refine z_ai (x := []) (b := wX7 cI cZ cII aS S_thrown S_s S_aside S_saved S_savedMany S_text S_length S_fetched S_predicted S_fetchedMany S_fetchedWay y4.2.1 y4.2.2 S_executedByText ++ []) (y := ([] : va_W)) (b1 := wX7 cI cZ cII aS S_thrown S_s S_aside S_saved S_savedMany S_text S_length S_fetched S_predicted S_fetchedMany S_fetchedWay y4.2.1 y4.2.2 S_executedByText ++ []) (wsn := wX7 cI cZ cII aS S_thrown S_s S_aside S_saved S_savedMany S_text S_length S_fetched S_predicted S_fetchedMany S_fetchedWay y4.2.1 y4.2.2 S_executedByText ++ []) (va_runV (As := [.int (106 : Int32), .int (106 : Int32)]) (rest := []) ⟨hx, hb, hml, hown, hts⟩ (c_X7_isNext l D cI cZ cII cJ cM aS S_thrown S_s S_aside S_saved S_savedMany S_text S_length S_fetched S_predicted S_fetchedMany S_fetchedWay y4.2.1 y4.2.2 S_executedByText (106 : Int32) (106 : Int32) H.size y24 h24) (cwV 2 hts gX7_readInstruction_X7_isNext rfl rfl rfl (by decide +kernel) ⟨Nat.le_of_ble_eq_true rfl, Nat.le_of_ble_eq_true rfl⟩) (pz_V (x := []) (b := wX7 cI cZ cII aS S_thrown S_s S_aside S_saved S_savedMany S_text S_length S_fetched S_predicted S_fetchedMany S_fetchedWay y4.2.1 y4.2.2 S_executedByText ++ []) (y := ([] : va_W)) (C := RX7) (T := TX7) (N := 14) (ci := 7) (As := [.int (106 : Int32), .int (106 : Int32)]) (bi := 0) hK hN hP hD (by simp only [List.append_assoc, List.nil_append, List.append_nil]) rfl rfl) rfl rfl hl.1 rfl (lv_room (Nat.le_of_ble_eq_true rfl)) dX7_readInstruction_24 ⟨Nat.le_of_ble_eq_true rfl, Nat.le_of_ble_eq_true rfl⟩) hP hD hS hA (by simp only [List.append_assoc, List.nil_append, List.append_nil]) (by simp only [List.append_assoc, List.nil_append, List.append_nil]) (fun H locs hP hD hS => ?_)
    refine lv_if_ne (tgt := 52) hx hb dX7_readInstruction_27 (by decide) (fun c27 => ?_) (fun c27 => ?_)
    · have hf := if_f c27 hf
      exact J52 S_s y4.2.1 y4.2.2 y4.1 _ _ _ hf hP hD hS (lv_sub hl [1, 2, 0] rfl)
    · have hf := if_t c27 hf
      refine lv_aload_n hx hb dX7_readInstruction_30 rfl (lv_at hl 1 rfl) ?_
      refine lv_bipush (v := 98) hx hb dX7_readInstruction_31 (by decide) ?_
      refine lv_bipush (v := 98) hx hb dX7_readInstruction_33 (by decide) ?_
      obtain ⟨y35, h35, hf⟩ := bn_t hf
      refine z_ai (x := []) (b := wX7 cI cZ cII aS S_thrown S_s S_aside S_saved S_savedMany S_text S_length S_fetched S_predicted S_fetchedMany S_fetchedWay y4.2.1 y4.2.2 S_executedByText ++ []) (y := ([] : va_W)) (b1 := wX7 cI cZ cII aS S_thrown S_s S_aside S_saved S_savedMany S_text S_length S_fetched S_predicted S_fetchedMany S_fetchedWay y4.2.1 y4.2.2 S_executedByText ++ []) (wsn := wX7 cI cZ cII aS S_thrown S_s S_aside S_saved S_savedMany S_text S_length S_fetched S_predicted S_fetchedMany S_fetchedWay y4.2.1 y4.2.2 S_executedByText ++ []) (va_runV (As := [.int (98 : Int32), .int (98 : Int32)]) (rest := []) ⟨hx, hb, hml, hown, hts⟩ (c_X7_isNext l D cI cZ cII cJ cM aS S_thrown S_s S_aside S_saved S_savedMany S_text S_length S_fetched S_predicted S_fetchedMany S_fetchedWay y4.2.1 y4.2.2 S_executedByText (98 : Int32) (98 : Int32) H.size y35 h35) (cwV 2 hts gX7_readInstruction_X7_isNext rfl rfl rfl (by decide +kernel) ⟨Nat.le_of_ble_eq_true rfl, Nat.le_of_ble_eq_true rfl⟩) (pz_V (x := []) (b := wX7 cI cZ cII aS S_thrown S_s S_aside S_saved S_savedMany S_text S_length S_fetched S_predicted S_fetchedMany S_fetchedWay y4.2.1 y4.2.2 S_executedByText ++ []) (y := ([] : va_W)) (C := RX7) (T := TX7) (N := 14) (ci := 7) (As := [.int (98 : Int32), .int (98 : Int32)]) (bi := 0) hK hN hP hD (by simp only [List.append_assoc, List.nil_append, List.append_nil]) rfl rfl) rfl rfl hl.1 rfl (lv_room (Nat.le_of_ble_eq_true rfl)) dX7_readInstruction_35 ⟨Nat.le_of_ble_eq_true rfl, Nat.le_of_ble_eq_true rfl⟩) hP hD hS hA (by simp only [List.append_assoc, List.nil_append, List.append_nil]) (by simp only [List.append_assoc, List.nil_append, List.append_nil]) (fun H locs hP hD hS => ?_)
      refine lv_if_ne (tgt := 52) hx hb dX7_readInstruction_38 (by decide) (fun c38 => ?_) (fun c38 => ?_)
      · have hf := if_f c38 hf
        exact J52 S_s y4.2.1 y4.2.2 y4.1 _ _ _ hf hP hD hS (lv_sub hl [1, 2, 0] rfl)
      · have hf := if_t c38 hf
        refine lv_aload_n hx hb dX7_readInstruction_41 rfl (lv_at hl 1 rfl) ?_
        refine lv_bipush (v := 112) hx hb dX7_readInstruction_42 (by decide) ?_
        refine lv_bipush (v := 112) hx hb dX7_readInstruction_44 (by decide) ?_
        obtain ⟨y46, h46, hf⟩ := bn_t hf
        refine z_ai (x := []) (b := wX7 cI cZ cII aS S_thrown S_s S_aside S_saved S_savedMany S_text S_length S_fetched S_predicted S_fetchedMany S_fetchedWay y4.2.1 y4.2.2 S_executedByText ++ []) (y := ([] : va_W)) (b1 := wX7 cI cZ cII aS S_thrown S_s S_aside S_saved S_savedMany S_text S_length S_fetched S_predicted S_fetchedMany S_fetchedWay y4.2.1 y4.2.2 S_executedByText ++ []) (wsn := wX7 cI cZ cII aS S_thrown S_s S_aside S_saved S_savedMany S_text S_length S_fetched S_predicted S_fetchedMany S_fetchedWay y4.2.1 y4.2.2 S_executedByText ++ []) (va_runV (As := [.int (112 : Int32), .int (112 : Int32)]) (rest := []) ⟨hx, hb, hml, hown, hts⟩ (c_X7_isNext l D cI cZ cII cJ cM aS S_thrown S_s S_aside S_saved S_savedMany S_text S_length S_fetched S_predicted S_fetchedMany S_fetchedWay y4.2.1 y4.2.2 S_executedByText (112 : Int32) (112 : Int32) H.size y46 h46) (cwV 2 hts gX7_readInstruction_X7_isNext rfl rfl rfl (by decide +kernel) ⟨Nat.le_of_ble_eq_true rfl, Nat.le_of_ble_eq_true rfl⟩) (pz_V (x := []) (b := wX7 cI cZ cII aS S_thrown S_s S_aside S_saved S_savedMany S_text S_length S_fetched S_predicted S_fetchedMany S_fetchedWay y4.2.1 y4.2.2 S_executedByText ++ []) (y := ([] : va_W)) (C := RX7) (T := TX7) (N := 14) (ci := 7) (As := [.int (112 : Int32), .int (112 : Int32)]) (bi := 0) hK hN hP hD (by simp only [List.append_assoc, List.nil_append, List.append_nil]) rfl rfl) rfl rfl hl.1 rfl (lv_room (Nat.le_of_ble_eq_true rfl)) dX7_readInstruction_46 ⟨Nat.le_of_ble_eq_true rfl, Nat.le_of_ble_eq_true rfl⟩) hP hD hS hA (by simp only [List.append_assoc, List.nil_append, List.append_nil]) (by simp only [List.append_assoc, List.nil_append, List.append_nil]) (fun H locs hP hD hS => ?_)
        refine lv_if_eq (tgt := 64) hx hb dX7_readInstruction_49 (by decide) (fun c49 => ?_) (fun c49 => ?_)
        · have hf := if_t c49 hf
          refine lv_iconst (v := 0) hx hb dX7_readInstruction_64 (by decide) ?_
          exact J65 S_s y4.2.1 y4.2.2 y4.1 (0 : Int32) _ _ _ hf hP hD hS (lv_sub hl [1, 2, 0] rfl)
        · have hf := if_f c49 hf
          exact J52 S_s y4.2.1 y4.2.2 y4.1 _ _ _ hf hP hD hS (lv_sub hl [1, 2, 0] rfl)
set_option maxHeartbeats 8000000 in
set_option maxRecDepth 100000 in
theorem c_X7_readCommand (l : Launch) (D : va_G) (cI cZ cII cJ cM : ClassId) (aS : Nat → Nat) (S_thrown : Int32) (S_s : Nat → Int32) (S_aside : Nat → Int32) (S_saved : Nat → Int32) (S_savedMany : Int32) (S_text : Nat → Int32) (S_length : Int32) (S_fetched : Nat → Int32) (S_predicted : Nat → Int32) (S_fetchedMany : Int32) (S_fetchedWay : Int32) (S_spot : Int32) (S_isWrong : Int32) (S_executedByText : Int32) (x1 : Int32) (sz : Nat) (y : (Nat → Int32) × (Nat → Int32) × (Nat → Int32) × (Int32) × (Int32) × (Int32) × (Int32) × (Int32)) (hf : m_X7_readCommand S_text S_length S_s S_fetched S_predicted S_fetchedMany S_fetchedWay S_spot S_isWrong S_executedByText x1 = some y) : Met l yX7_readCommand wsX7_readCommand ({ frames := 7, cells := 0, slots := 0, locals := 158 } : Room) (va_Pc [.ref (aS 0), .int x1] (pzPre D (zT cI cZ cII cJ cM) (wX7 cI cZ cII aS S_thrown S_s S_aside S_saved S_savedMany S_text S_length S_fetched S_predicted S_fetchedMany S_fetchedWay S_spot S_isWrong S_executedByText ++ []) sz)) (va_Qv (fun (_ : Unit) => True) (fun _ t => pzB D (zT cI cZ cII cJ cM) (va_A (wX7 cI cZ cII aS S_thrown S_s S_aside S_saved S_savedMany S_text S_length S_fetched S_predicted S_fetchedMany S_fetchedWay S_spot S_isWrong S_executedByText ++ []) sz) (wX7 cI cZ cII aS S_thrown y.1 S_aside S_saved S_savedMany S_text S_length y.2.1 y.2.2.1 y.2.2.2.1 y.2.2.2.2.1 y.2.2.2.2.2.1 y.2.2.2.2.2.2.1 y.2.2.2.2.2.2.2 ++ []) t) (va_A (wX7 cI cZ cII aS S_thrown S_s S_aside S_saved S_savedMany S_text S_length S_fetched S_predicted S_fetchedMany S_fetchedWay S_spot S_isWrong S_executedByText ++ []) sz)) 0 0 (va_A (wX7 cI cZ cII aS S_thrown S_s S_aside S_saved S_savedMany S_text S_length S_fetched S_predicted S_fetchedMany S_fetchedWay S_spot S_isWrong S_executedByText ++ []) sz) := by
  refine z_metv (cc := cX7_readCommand) (maxL := 3) (by decide) rfl (Nat.le_of_ble_eq_true rfl) ?_
  intro p e s m args below meth c A ls Q H locs F hP hD hS hl hret
  obtain ⟨hx, hb, hml, hown, hts, hN, hK, hA⟩ := F
  have hown : s.vm.findClass RX7 = some m.cls := hown
  have hl : lv_has ls 3 [(0, .ref (aS 0)), (1, .int x1)] := hl
  have inX7 : ∀ w ∈ u_ws RX7 TX7 14, w ∈ wsX7_readCommand := by decide +kernel
  have kX7_142 := hts (.fieldLink RX7 142 "TraceCacheModel" "spot" "I") (by decide +kernel)
  have kX7_162 := hts (.fieldLink RX7 162 "TraceCacheModel" "executedByText" "I") (by decide +kernel)
  have J53 : ∀ (S_s : Nat → Int32) (S_fetched : Nat → Int32) (S_predicted : Nat → Int32) (S_fetchedMany : Int32) (S_fetchedWay : Int32) (S_spot : Int32) (S_isWrong : Int32) (S_executedByText : Int32) (k1 : Int32) (k2 : Int32) (H : Heap) (locs : List Loc) (ls : Array Slot), m_X7_readCommand_53 S_text S_length x1 S_s S_fetched S_predicted S_fetchedMany S_fetchedWay S_spot S_isWrong S_executedByText k1 k2 = some y → va_P D vwCl (wX7 cI cZ cII aS S_thrown S_s S_aside S_saved S_savedMany S_text S_length S_fetched S_predicted S_fetchedMany S_fetchedWay S_spot S_isWrong S_executedByText ++ []) H → va_D A (wX7 cI cZ cII aS S_thrown S_s S_aside S_saved S_savedMany S_text S_length S_fetched S_predicted S_fetchedMany S_fetchedWay S_spot S_isWrong S_executedByText ++ []) → va_S A s.heap H locs → lv_has ls 3 [] → W p l e ({ frames := 7, cells := 0, slots := 0, locals := 158 } : Room) s m args below meth c H locs 0 0 Q (F0 m 53 ls [.int k2, .int k1, .ref (aS 0)]) := by
    intro S_s S_fetched S_predicted S_fetchedMany S_fetchedWay S_spot S_isWrong S_executedByText k1 k2 H locs ls hf hP hD hS hl
    unfold m_X7_readCommand_53 at hf
    refine lv_iadd hx hb dX7_readCommand_53 ?_
    refine lv_topi (fun v54 ev54 => ?_)
    have hf := bd_t ev54 hf
    refine va_put (D := D) (ci := 7) (v := .int v54) (ty := .int) (C := RX7) (T := TX7) (N := 14) hx hb hts inX7 tyX7 tyX7_ok nmX7 hown hK hP hD hS 0 rfl rfl 13 (by decide) kX7_162 (fun _ h9 => h9) rfl (by decide +kernel) rfl rfl (Nat.le_of_ble_eq_true rfl) dX7_readCommand_54 (fun H locs hP hD hS => ?_)
    have hP : va_P D vwCl (wX7 cI cZ cII aS S_thrown S_s S_aside S_saved S_savedMany S_text S_length S_fetched S_predicted S_fetchedMany S_fetchedWay S_spot S_isWrong v54 ++ []) H := hP
    have hD : va_D A (wX7 cI cZ cII aS S_thrown S_s S_aside S_saved S_savedMany S_text S_length S_fetched S_predicted S_fetchedMany S_fetchedWay S_spot S_isWrong v54 ++ []) := hD
    obtain rfl := Option.some.inj hf
    exact hret _ _ _ _ dX7_readCommand_57 hP hD hS
  unfold m_X7_readCommand at hf
  refine lv_aload_n hx hb dX7_readCommand_0 rfl (lv_at hl 0 rfl) ?_
  refine lv_bipush (v := 114) hx hb dX7_readCommand_1 (by decide) ?_
  refine lv_bipush (v := 114) hx hb dX7_readCommand_3 (by decide) ?_
  obtain ⟨y5, h5, hf⟩ := bn_t hf
  refine z_ai (x := []) (b := wX7 cI cZ cII aS S_thrown S_s S_aside S_saved S_savedMany S_text S_length S_fetched S_predicted S_fetchedMany S_fetchedWay S_spot S_isWrong S_executedByText ++ []) (y := ([] : va_W)) (b1 := wX7 cI cZ cII aS S_thrown S_s S_aside S_saved S_savedMany S_text S_length S_fetched S_predicted S_fetchedMany S_fetchedWay S_spot S_isWrong S_executedByText ++ []) (wsn := wX7 cI cZ cII aS S_thrown S_s S_aside S_saved S_savedMany S_text S_length S_fetched S_predicted S_fetchedMany S_fetchedWay S_spot S_isWrong S_executedByText ++ []) (va_runV (As := [.int (114 : Int32), .int (114 : Int32)]) (rest := []) ⟨hx, hb, hml, hown, hts⟩ (c_X7_isNext l D cI cZ cII cJ cM aS S_thrown S_s S_aside S_saved S_savedMany S_text S_length S_fetched S_predicted S_fetchedMany S_fetchedWay S_spot S_isWrong S_executedByText (114 : Int32) (114 : Int32) H.size y5 h5) (cwV 2 hts gX7_readCommand_X7_isNext rfl rfl rfl (by decide +kernel) ⟨Nat.le_of_ble_eq_true rfl, Nat.le_of_ble_eq_true rfl⟩) (pz_V (x := []) (b := wX7 cI cZ cII aS S_thrown S_s S_aside S_saved S_savedMany S_text S_length S_fetched S_predicted S_fetchedMany S_fetchedWay S_spot S_isWrong S_executedByText ++ []) (y := ([] : va_W)) (C := RX7) (T := TX7) (N := 14) (ci := 7) (As := [.int (114 : Int32), .int (114 : Int32)]) (bi := 0) hK hN hP hD (by simp only [List.append_assoc, List.nil_append, List.append_nil]) rfl rfl) rfl rfl hl.1 rfl (lv_room (Nat.le_of_ble_eq_true rfl)) dX7_readCommand_5 ⟨Nat.le_of_ble_eq_true rfl, Nat.le_of_ble_eq_true rfl⟩) hP hD hS hA (by simp only [List.append_assoc, List.nil_append, List.append_nil]) (by simp only [List.append_assoc, List.nil_append, List.append_nil]) (fun H locs hP hD hS => ?_)
  refine lv_if_ne (tgt := 17) hx hb dX7_readCommand_8 (by decide) (fun c8 => ?_) (fun c8 => ?_)
  · have hf := if_f c8 hf
    refine lv_aload_n hx hb dX7_readCommand_17 rfl (lv_at hl 0 rfl) ?_
    refine lv_dup hx hb dX7_readCommand_18 rfl ?_
    refine va_get (D := D) (ci := 7) (v := .int S_spot) (C := RX7) (T := TX7) (N := 14) hx hb hts inX7 hown hK hP 0 rfl rfl 11 (by decide) kX7_142 (fun _ h9 => h9) rfl dX7_readCommand_19 ?_
    refine lv_iconst (v := 1) hx hb dX7_readCommand_22 (by decide) ?_
    refine lv_iadd hx hb dX7_readCommand_23 ?_
    refine lv_topi (fun v24 ev24 => ?_)
    have hf := bd_t ev24 hf
    refine va_put (D := D) (ci := 7) (v := .int v24) (ty := .int) (C := RX7) (T := TX7) (N := 14) hx hb hts inX7 tyX7 tyX7_ok nmX7 hown hK hP hD hS 0 rfl rfl 11 (by decide) kX7_142 (fun _ h9 => h9) rfl (by decide +kernel) rfl rfl (Nat.le_of_ble_eq_true rfl) dX7_readCommand_24 (fun H locs hP hD hS => ?_)
    have hP : va_P D vwCl (wX7 cI cZ cII aS S_thrown S_s S_aside S_saved S_savedMany S_text S_length S_fetched S_predicted S_fetchedMany S_fetchedWay v24 S_isWrong S_executedByText ++ []) H := hP
    have hD : va_D A (wX7 cI cZ cII aS S_thrown S_s S_aside S_saved S_savedMany S_text S_length S_fetched S_predicted S_fetchedMany S_fetchedWay v24 S_isWrong S_executedByText ++ []) := hD
    refine lv_aload_n hx hb dX7_readCommand_27 rfl (lv_at hl 0 rfl) ?_
    refine lv_iconst (v := 1) hx hb dX7_readCommand_28 (by decide) ?_
    refine lv_bipush (v := 99) hx hb dX7_readCommand_29 (by decide) ?_
    obtain ⟨y31, h31, hf⟩ := bn_t hf
    refine z_ai (x := []) (b := wX7 cI cZ cII aS S_thrown S_s S_aside S_saved S_savedMany S_text S_length S_fetched S_predicted S_fetchedMany S_fetchedWay v24 S_isWrong S_executedByText ++ []) (y := ([] : va_W)) (b1 := wX7 cI cZ cII aS S_thrown S_s S_aside S_saved S_savedMany S_text S_length S_fetched S_predicted S_fetchedMany S_fetchedWay y31.2.1 y31.2.2 S_executedByText ++ []) (wsn := wX7 cI cZ cII aS S_thrown S_s S_aside S_saved S_savedMany S_text S_length S_fetched S_predicted S_fetchedMany S_fetchedWay y31.2.1 y31.2.2 S_executedByText ++ []) (va_runV (As := [.int (1 : Int32), .int (99 : Int32)]) (rest := []) ⟨hx, hb, hml, hown, hts⟩ (c_X7_number l D cI cZ cII cJ cM aS S_thrown S_s S_aside S_saved S_savedMany S_text S_length S_fetched S_predicted S_fetchedMany S_fetchedWay v24 S_isWrong S_executedByText (1 : Int32) (99 : Int32) H.size y31 h31) (cwV 2 hts gX7_readCommand_X7_number rfl rfl rfl (by decide +kernel) ⟨Nat.le_of_ble_eq_true rfl, Nat.le_of_ble_eq_true rfl⟩) (pz_V (x := []) (b := wX7 cI cZ cII aS S_thrown S_s S_aside S_saved S_savedMany S_text S_length S_fetched S_predicted S_fetchedMany S_fetchedWay v24 S_isWrong S_executedByText ++ []) (y := ([] : va_W)) (C := RX7) (T := TX7) (N := 14) (ci := 7) (As := [.int (1 : Int32), .int (99 : Int32)]) (bi := 0) hK hN hP hD (by simp only [List.append_assoc, List.nil_append, List.append_nil]) rfl rfl) rfl rfl hl.1 rfl (lv_room (Nat.le_of_ble_eq_true rfl)) dX7_readCommand_31 ⟨Nat.le_of_ble_eq_true rfl, Nat.le_of_ble_eq_true rfl⟩) hP hD hS hA (by simp only [List.append_assoc, List.nil_append, List.append_nil]) (by simp only [List.append_assoc, List.nil_append, List.append_nil]) (fun H locs hP hD hS => ?_)
    refine lv_istore_n (lv' := [(2, .int y31.1), (0, .ref (aS 0)), (1, .int x1)]) hx hb dX7_readCommand_34 rfl hl (by decide) rfl (fun ls hl => ?_)
    refine lv_aload_n hx hb dX7_readCommand_35 rfl (lv_at hl 1 rfl) ?_
    refine lv_dup hx hb dX7_readCommand_36 rfl ?_
    refine va_get (D := D) (ci := 7) (v := .int S_executedByText) (C := RX7) (T := TX7) (N := 14) hx hb hts inX7 hown hK hP 0 rfl rfl 13 (by decide) kX7_162 (fun _ h9 => h9) rfl dX7_readCommand_37 ?_
    refine lv_iload_n hx hb dX7_readCommand_40 rfl (lv_at hl 2 rfl) ?_
    refine lv_if_eq (tgt := 52) hx hb dX7_readCommand_41 (by decide) (fun c41 => ?_) (fun c41 => ?_)
    · have hf := if_t c41 hf
      refine lv_iconst (v := 0) hx hb dX7_readCommand_52 (by decide) ?_
      exact J53 S_s S_fetched S_predicted S_fetchedMany S_fetchedWay y31.2.1 y31.2.2 S_executedByText S_executedByText (0 : Int32) _ _ _ hf hP hD hS (lv_sub hl [] rfl)
    · have hf := if_f c41 hf
      refine lv_aload_n hx hb dX7_readCommand_44 rfl (lv_at hl 1 rfl) ?_
      refine lv_iload_n hx hb dX7_readCommand_45 rfl (lv_at hl 0 rfl) ?_
      obtain ⟨y46, h46, hf⟩ := bn_t hf
      refine z_ai (x := []) (b := wX7 cI cZ cII aS S_thrown S_s S_aside S_saved S_savedMany S_text S_length S_fetched S_predicted S_fetchedMany S_fetchedWay y31.2.1 y31.2.2 S_executedByText ++ []) (y := ([] : va_W)) (b1 := wX7 cI cZ cII aS S_thrown y46.2.1 S_aside S_saved S_savedMany S_text S_length y46.2.2.1 y46.2.2.2.1 y46.2.2.2.2.1 y46.2.2.2.2.2 y31.2.1 y31.2.2 S_executedByText ++ []) (wsn := wX7 cI cZ cII aS S_thrown y46.2.1 S_aside S_saved S_savedMany S_text S_length y46.2.2.1 y46.2.2.2.1 y46.2.2.2.2.1 y46.2.2.2.2.2 y31.2.1 y31.2.2 S_executedByText ++ []) (va_runV (As := [.int y31.1]) (rest := [.int S_executedByText, .ref (aS 0)]) ⟨hx, hb, hml, hown, hts⟩ (c_X7_runs l D cI cZ cII cJ cM aS S_thrown S_s S_aside S_saved S_savedMany S_text S_length S_fetched S_predicted S_fetchedMany S_fetchedWay y31.2.1 y31.2.2 S_executedByText y31.1 H.size y46 h46) (cwV 1 hts gX7_readCommand_X7_runs rfl rfl rfl (by decide +kernel) ⟨Nat.le_of_ble_eq_true rfl, Nat.le_of_ble_eq_true rfl⟩) (pz_V (x := []) (b := wX7 cI cZ cII aS S_thrown S_s S_aside S_saved S_savedMany S_text S_length S_fetched S_predicted S_fetchedMany S_fetchedWay y31.2.1 y31.2.2 S_executedByText ++ []) (y := ([] : va_W)) (C := RX7) (T := TX7) (N := 14) (ci := 7) (As := [.int y31.1]) (bi := 0) hK hN hP hD (by simp only [List.append_assoc, List.nil_append, List.append_nil]) rfl rfl) rfl rfl hl.1 rfl (lv_room (Nat.le_of_ble_eq_true rfl)) dX7_readCommand_46 ⟨Nat.le_of_ble_eq_true rfl, Nat.le_of_ble_eq_true rfl⟩) hP hD hS hA (by simp only [List.append_assoc, List.nil_append, List.append_nil]) (by simp only [List.append_assoc, List.nil_append, List.append_nil]) (fun H locs hP hD hS => ?_)
      refine lv_goto (tgt := 53) hx hb dX7_readCommand_49 (by decide) ?_
      exact J53 y46.2.1 y46.2.2.1 y46.2.2.2.1 y46.2.2.2.2.1 y46.2.2.2.2.2 y31.2.1 y31.2.2 S_executedByText S_executedByText y46.1 _ _ _ hf hP hD hS (lv_sub hl [] rfl)
  · have hf := if_t c8 hf
    refine lv_aload_n hx hb dX7_readCommand_11 rfl (lv_at hl 0 rfl) ?_
    refine lv_iload_n hx hb dX7_readCommand_12 rfl (lv_at hl 1 rfl) ?_
    obtain ⟨y13, h13, hf⟩ := bn_t hf
    refine z_av (x := []) (b := wX7 cI cZ cII aS S_thrown S_s S_aside S_saved S_savedMany S_text S_length S_fetched S_predicted S_fetchedMany S_fetchedWay S_spot S_isWrong S_executedByText ++ []) (y := ([] : va_W)) (b1 := wX7 cI cZ cII aS S_thrown y13.1 S_aside S_saved S_savedMany S_text S_length S_fetched S_predicted S_fetchedMany S_fetchedWay y13.2.1 y13.2.2 S_executedByText ++ []) (wsn := wX7 cI cZ cII aS S_thrown y13.1 S_aside S_saved S_savedMany S_text S_length S_fetched S_predicted S_fetchedMany S_fetchedWay y13.2.1 y13.2.2 S_executedByText ++ []) (va_runV (As := [.int x1]) (rest := []) ⟨hx, hb, hml, hown, hts⟩ (c_X7_readInstruction l D cI cZ cII cJ cM aS S_thrown S_s S_aside S_saved S_savedMany S_text S_length S_fetched S_predicted S_fetchedMany S_fetchedWay S_spot S_isWrong S_executedByText x1 H.size y13 h13) (cwV 1 hts gX7_readCommand_X7_readInstruction rfl rfl rfl (by decide +kernel) ⟨Nat.le_of_ble_eq_true rfl, Nat.le_of_ble_eq_true rfl⟩) (pz_V (x := []) (b := wX7 cI cZ cII aS S_thrown S_s S_aside S_saved S_savedMany S_text S_length S_fetched S_predicted S_fetchedMany S_fetchedWay S_spot S_isWrong S_executedByText ++ []) (y := ([] : va_W)) (C := RX7) (T := TX7) (N := 14) (ci := 7) (As := [.int x1]) (bi := 0) hK hN hP hD (by simp only [List.append_assoc, List.nil_append, List.append_nil]) rfl rfl) rfl rfl hl.1 rfl (lv_room (Nat.le_of_ble_eq_true rfl)) dX7_readCommand_13 ⟨Nat.le_of_ble_eq_true rfl, Nat.le_of_ble_eq_true rfl⟩) hP hD hS hA (by simp only [List.append_assoc, List.nil_append, List.append_nil]) (by simp only [List.append_assoc, List.nil_append, List.append_nil]) (fun H locs hP hD hS => ?_)
    obtain rfl := Option.some.inj hf
    exact hret _ _ _ _ dX7_readCommand_16 hP hD hS
set_option maxHeartbeats 8000000 in
set_option maxRecDepth 100000 in
theorem c_X7_reads (l : Launch) (D : va_G) (cI cZ cII cJ cM : ClassId) (aS : Nat → Nat) (S_thrown : Int32) (S_s : Nat → Int32) (S_aside : Nat → Int32) (S_saved : Nat → Int32) (S_savedMany : Int32) (S_text : Nat → Int32) (S_length : Int32) (S_fetched : Nat → Int32) (S_predicted : Nat → Int32) (S_fetchedMany : Int32) (S_fetchedWay : Int32) (S_spot : Int32) (S_isWrong : Int32) (S_executedByText : Int32) (x1 : Int32) (sz : Nat) (y : (Nat → Int32) × (Nat → Int32) × (Nat → Int32) × (Int32) × (Int32) × (Int32) × (Int32) × (Int32)) (hf : m_X7_reads S_text S_length S_s S_fetched S_predicted S_fetchedMany S_fetchedWay S_spot S_isWrong S_executedByText x1 = some y) : Met l yX7_reads wsX7_reads ({ frames := 8, cells := 0, slots := 0, locals := 180 } : Room) (va_Pc [.ref (aS 0), .int x1] (pzPre D (zT cI cZ cII cJ cM) (wX7 cI cZ cII aS S_thrown S_s S_aside S_saved S_savedMany S_text S_length S_fetched S_predicted S_fetchedMany S_fetchedWay S_spot S_isWrong S_executedByText ++ []) sz)) (va_Qv (fun (_ : Unit) => True) (fun _ t => pzB D (zT cI cZ cII cJ cM) (va_A (wX7 cI cZ cII aS S_thrown S_s S_aside S_saved S_savedMany S_text S_length S_fetched S_predicted S_fetchedMany S_fetchedWay S_spot S_isWrong S_executedByText ++ []) sz) (wX7 cI cZ cII aS S_thrown y.1 S_aside S_saved S_savedMany S_text S_length y.2.1 y.2.2.1 y.2.2.2.1 y.2.2.2.2.1 y.2.2.2.2.2.1 y.2.2.2.2.2.2.1 y.2.2.2.2.2.2.2 ++ []) t) (va_A (wX7 cI cZ cII aS S_thrown S_s S_aside S_saved S_savedMany S_text S_length S_fetched S_predicted S_fetchedMany S_fetchedWay S_spot S_isWrong S_executedByText ++ []) sz)) 0 0 (va_A (wX7 cI cZ cII aS S_thrown S_s S_aside S_saved S_savedMany S_text S_length S_fetched S_predicted S_fetchedMany S_fetchedWay S_spot S_isWrong S_executedByText ++ []) sz) := by
  refine z_metv (cc := cX7_reads) (maxL := 4) (by decide) rfl (Nat.le_of_ble_eq_true rfl) ?_
  intro p e s m args below meth c A ls Q H locs F hP hD hS hl hret
  obtain ⟨hx, hb, hml, hown, hts, hN, hK, hA⟩ := F
  have hown : s.vm.findClass RX7 = some m.cls := hown
  have hl : lv_has ls 4 [(0, .ref (aS 0)), (1, .int x1)] := hl
  have inX7 : ∀ w ∈ u_ws RX7 TX7 14, w ∈ wsX7_reads := by decide +kernel
  have kX7_135 := hts (.fieldLink RX7 135 "TraceCacheModel" "length" "I") (by decide +kernel)
  have kX7_138 := hts (.fieldLink RX7 138 "TraceCacheModel" "isWrong" "Z") (by decide +kernel)
  have kX7_142 := hts (.fieldLink RX7 142 "TraceCacheModel" "spot" "I") (by decide +kernel)
  have kX7_162 := hts (.fieldLink RX7 162 "TraceCacheModel" "executedByText" "I") (by decide +kernel)
  have J17 : ∀ (n17 : Nat), ∀ (S_s : Nat → Int32) (S_fetched : Nat → Int32) (S_predicted : Nat → Int32) (S_fetchedMany : Int32) (S_fetchedWay : Int32) (S_spot : Int32) (S_isWrong : Int32) (S_executedByText : Int32) (x2 : Int32) (H : Heap) (locs : List Loc) (ls : Array Slot), m_X7_reads_17 S_text S_length x1 n17 S_s S_fetched S_predicted S_fetchedMany S_fetchedWay S_spot S_isWrong S_executedByText x2 = some y → va_P D vwCl (wX7 cI cZ cII aS S_thrown S_s S_aside S_saved S_savedMany S_text S_length S_fetched S_predicted S_fetchedMany S_fetchedWay S_spot S_isWrong S_executedByText ++ []) H → va_D A (wX7 cI cZ cII aS S_thrown S_s S_aside S_saved S_savedMany S_text S_length S_fetched S_predicted S_fetchedMany S_fetchedWay S_spot S_isWrong S_executedByText ++ []) → va_S A s.heap H locs → lv_has ls 4 [(0, .ref (aS 0)), (1, .int x1), (2, .int x2)] → W p l e ({ frames := 8, cells := 0, slots := 0, locals := 180 } : Room) s m args below meth c H locs 0 0 Q (F0 m 17 ls []) := by
    intro n17
    induction n17 with
    | zero =>
      intro S_s S_fetched S_predicted S_fetchedMany S_fetchedWay S_spot S_isWrong S_executedByText x2 H locs ls hf hP hD hS hl
      rw [m_X7_reads_17] at hf
      cases hf
    | succ n17 ih17 =>
      have J75 : ∀ (S_s : Nat → Int32) (S_fetched : Nat → Int32) (S_predicted : Nat → Int32) (S_fetchedMany : Int32) (S_fetchedWay : Int32) (S_spot : Int32) (S_isWrong : Int32) (S_executedByText : Int32) (k0 : Int32) (H : Heap) (locs : List Loc) (ls : Array Slot), m_X7_reads_75 S_text S_length x1 (m_X7_reads_17 S_text S_length x1 n17) S_s S_fetched S_predicted S_fetchedMany S_fetchedWay S_spot S_isWrong S_executedByText k0 = some y → va_P D vwCl (wX7 cI cZ cII aS S_thrown S_s S_aside S_saved S_savedMany S_text S_length S_fetched S_predicted S_fetchedMany S_fetchedWay S_spot S_isWrong S_executedByText ++ []) H → va_D A (wX7 cI cZ cII aS S_thrown S_s S_aside S_saved S_savedMany S_text S_length S_fetched S_predicted S_fetchedMany S_fetchedWay S_spot S_isWrong S_executedByText ++ []) → va_S A s.heap H locs → lv_has ls 4 [(0, .ref (aS 0)), (1, .int x1)] → W p l e ({ frames := 8, cells := 0, slots := 0, locals := 180 } : Room) s m args below meth c H locs 0 0 Q (F0 m 75 ls [.int k0]) := by
        intro S_s S_fetched S_predicted S_fetchedMany S_fetchedWay S_spot S_isWrong S_executedByText k0 H locs ls hf hP hD hS hl
        unfold m_X7_reads_75 at hf
        refine lv_istore_n (lv' := [(2, .int k0), (0, .ref (aS 0)), (1, .int x1)]) hx hb dX7_reads_75 rfl hl (by decide) rfl (fun ls hl => ?_)
        refine lv_goto (tgt := 17) hx hb dX7_reads_76 (by decide) ?_
        exact ih17 S_s S_fetched S_predicted S_fetchedMany S_fetchedWay S_spot S_isWrong S_executedByText k0 _ _ _ hf hP hD hS (lv_sub hl [1, 2, 0] rfl)
      have J49 : ∀ (S_s : Nat → Int32) (S_fetched : Nat → Int32) (S_predicted : Nat → Int32) (S_fetchedMany : Int32) (S_fetchedWay : Int32) (S_spot : Int32) (S_isWrong : Int32) (S_executedByText : Int32) (k0 : Int32) (H : Heap) (locs : List Loc) (ls : Array Slot), m_X7_reads_49 S_text S_length x1 (m_X7_reads_17 S_text S_length x1 n17) S_s S_fetched S_predicted S_fetchedMany S_fetchedWay S_spot S_isWrong S_executedByText k0 = some y → va_P D vwCl (wX7 cI cZ cII aS S_thrown S_s S_aside S_saved S_savedMany S_text S_length S_fetched S_predicted S_fetchedMany S_fetchedWay S_spot S_isWrong S_executedByText ++ []) H → va_D A (wX7 cI cZ cII aS S_thrown S_s S_aside S_saved S_savedMany S_text S_length S_fetched S_predicted S_fetchedMany S_fetchedWay S_spot S_isWrong S_executedByText ++ []) → va_S A s.heap H locs → lv_has ls 4 [(0, .ref (aS 0)), (1, .int x1)] → W p l e ({ frames := 8, cells := 0, slots := 0, locals := 180 } : Room) s m args below meth c H locs 0 0 Q (F0 m 49 ls [.int k0]) := by
        intro S_s S_fetched S_predicted S_fetchedMany S_fetchedWay S_spot S_isWrong S_executedByText k0 H locs ls hf hP hD hS hl
        unfold m_X7_reads_49 at hf
        refine lv_istore_n (lv' := [(2, .int k0), (0, .ref (aS 0)), (1, .int x1)]) hx hb dX7_reads_49 rfl hl (by decide) rfl (fun ls hl => ?_)
        refine lv_iload_n hx hb dX7_reads_50 rfl (lv_at hl 0 rfl) ?_
        refine lv_if_eq (tgt := 17) hx hb dX7_reads_51 (by decide) (fun c51 => ?_) (fun c51 => ?_)
        · have hf := if_t c51 hf
          exact ih17 S_s S_fetched S_predicted S_fetchedMany S_fetchedWay S_spot S_isWrong S_executedByText k0 _ _ _ hf hP hD hS (lv_sub hl [1, 2, 0] rfl)
        · have hf := if_f c51 hf
          refine lv_aload_n hx hb dX7_reads_54 rfl (lv_at hl 1 rfl) ?_
          refine lv_bipush (v := 59) hx hb dX7_reads_55 (by decide) ?_
          refine lv_bipush (v := 59) hx hb dX7_reads_57 (by decide) ?_
          obtain ⟨y59, h59, hf⟩ := bn_t hf
          refine z_ai (x := []) (b := wX7 cI cZ cII aS S_thrown S_s S_aside S_saved S_savedMany S_text S_length S_fetched S_predicted S_fetchedMany S_fetchedWay S_spot S_isWrong S_executedByText ++ []) (y := ([] : va_W)) (b1 := wX7 cI cZ cII aS S_thrown S_s S_aside S_saved S_savedMany S_text S_length S_fetched S_predicted S_fetchedMany S_fetchedWay y59.2.1 y59.2.2 S_executedByText ++ []) (wsn := wX7 cI cZ cII aS S_thrown S_s S_aside S_saved S_savedMany S_text S_length S_fetched S_predicted S_fetchedMany S_fetchedWay y59.2.1 y59.2.2 S_executedByText ++ []) (va_runV (As := [.int (59 : Int32), .int (59 : Int32)]) (rest := []) ⟨hx, hb, hml, hown, hts⟩ (c_X7_takes l D cI cZ cII cJ cM aS S_thrown S_s S_aside S_saved S_savedMany S_text S_length S_fetched S_predicted S_fetchedMany S_fetchedWay S_spot S_isWrong S_executedByText (59 : Int32) (59 : Int32) H.size y59 h59) (cwV 2 hts gX7_reads_X7_takes rfl rfl rfl (by decide +kernel) ⟨Nat.le_of_ble_eq_true rfl, Nat.le_of_ble_eq_true rfl⟩) (pz_V (x := []) (b := wX7 cI cZ cII aS S_thrown S_s S_aside S_saved S_savedMany S_text S_length S_fetched S_predicted S_fetchedMany S_fetchedWay S_spot S_isWrong S_executedByText ++ []) (y := ([] : va_W)) (C := RX7) (T := TX7) (N := 14) (ci := 7) (As := [.int (59 : Int32), .int (59 : Int32)]) (bi := 0) hK hN hP hD (by simp only [List.append_assoc, List.nil_append, List.append_nil]) rfl rfl) rfl rfl hl.1 rfl (lv_room (Nat.le_of_ble_eq_true rfl)) dX7_reads_59 ⟨Nat.le_of_ble_eq_true rfl, Nat.le_of_ble_eq_true rfl⟩) hP hD hS hA (by simp only [List.append_assoc, List.nil_append, List.append_nil]) (by simp only [List.append_assoc, List.nil_append, List.append_nil]) (fun H locs hP hD hS => ?_)
          refine lv_istore_n (lv' := [(3, .int y59.1), (2, .int k0), (0, .ref (aS 0)), (1, .int x1)]) hx hb dX7_reads_62 rfl hl (by decide) rfl (fun ls hl => ?_)
          refine lv_aload_n hx hb dX7_reads_63 rfl (lv_at hl 2 rfl) ?_
          refine va_get (D := D) (ci := 7) (v := .int y59.2.2) (C := RX7) (T := TX7) (N := 14) hx hb hts inX7 hown hK hP 0 rfl rfl 12 (by decide) kX7_138 (fun _ h9 => h9) rfl dX7_reads_64 ?_
          refine lv_if_ne (tgt := 74) hx hb dX7_reads_67 (by decide) (fun c67 => ?_) (fun c67 => ?_)
          · have hf := if_f c67 hf
            refine lv_iconst (v := 0) hx hb dX7_reads_74 (by decide) ?_
            exact J75 S_s S_fetched S_predicted S_fetchedMany S_fetchedWay y59.2.1 y59.2.2 S_executedByText (0 : Int32) _ _ _ hf hP hD hS (lv_sub hl [2, 3] rfl)
          · have hf := if_t c67 hf
            refine lv_iconst (v := 1) hx hb dX7_reads_70 (by decide) ?_
            refine lv_goto (tgt := 75) hx hb dX7_reads_71 (by decide) ?_
            exact J75 S_s S_fetched S_predicted S_fetchedMany S_fetchedWay y59.2.1 y59.2.2 S_executedByText (1 : Int32) _ _ _ hf hP hD hS (lv_sub hl [2, 3] rfl)
      have J48 : ∀ (S_s : Nat → Int32) (S_fetched : Nat → Int32) (S_predicted : Nat → Int32) (S_fetchedMany : Int32) (S_fetchedWay : Int32) (S_spot : Int32) (S_isWrong : Int32) (S_executedByText : Int32) (H : Heap) (locs : List Loc) (ls : Array Slot), m_X7_reads_48 S_text S_length x1 (m_X7_reads_17 S_text S_length x1 n17) S_s S_fetched S_predicted S_fetchedMany S_fetchedWay S_spot S_isWrong S_executedByText = some y → va_P D vwCl (wX7 cI cZ cII aS S_thrown S_s S_aside S_saved S_savedMany S_text S_length S_fetched S_predicted S_fetchedMany S_fetchedWay S_spot S_isWrong S_executedByText ++ []) H → va_D A (wX7 cI cZ cII aS S_thrown S_s S_aside S_saved S_savedMany S_text S_length S_fetched S_predicted S_fetchedMany S_fetchedWay S_spot S_isWrong S_executedByText ++ []) → va_S A s.heap H locs → lv_has ls 4 [(0, .ref (aS 0)), (1, .int x1)] → W p l e ({ frames := 8, cells := 0, slots := 0, locals := 180 } : Room) s m args below meth c H locs 0 0 Q (F0 m 48 ls []) := by
        intro S_s S_fetched S_predicted S_fetchedMany S_fetchedWay S_spot S_isWrong S_executedByText H locs ls hf hP hD hS hl
        unfold m_X7_reads_48 at hf
        refine lv_iconst (v := 0) hx hb dX7_reads_48 (by decide) ?_
        exact J49 S_s S_fetched S_predicted S_fetchedMany S_fetchedWay S_spot S_isWrong S_executedByText (0 : Int32) _ _ _ hf hP hD hS (lv_sub hl [0, 1] rfl)
      intro S_s S_fetched S_predicted S_fetchedMany S_fetchedWay S_spot S_isWrong S_executedByText x2 H locs ls hf hP hD hS hl
      rw [m_X7_reads_17] at hf
      refine lv_iload_n hx hb dX7_reads_17 rfl (lv_at hl 2 rfl) ?_
      refine lv_if_eq (tgt := 79) hx hb dX7_reads_18 (by decide) (fun c18 => ?_) (fun c18 => ?_)
      · have hf := if_t c18 hf
        obtain rfl := Option.some.inj hf
        exact hret _ _ _ _ dX7_reads_79 hP hD hS
      · have hf := if_f c18 hf
        refine lv_aload_n hx hb dX7_reads_21 rfl (lv_at hl 0 rfl) ?_
        refine lv_iload_n hx hb dX7_reads_22 rfl (lv_at hl 1 rfl) ?_
        obtain ⟨y23, h23, hf⟩ := bn_t hf
        refine z_av (x := []) (b := wX7 cI cZ cII aS S_thrown S_s S_aside S_saved S_savedMany S_text S_length S_fetched S_predicted S_fetchedMany S_fetchedWay S_spot S_isWrong S_executedByText ++ []) (y := ([] : va_W)) (b1 := wX7 cI cZ cII aS S_thrown y23.1 S_aside S_saved S_savedMany S_text S_length y23.2.1 y23.2.2.1 y23.2.2.2.1 y23.2.2.2.2.1 y23.2.2.2.2.2.1 y23.2.2.2.2.2.2.1 y23.2.2.2.2.2.2.2 ++ []) (wsn := wX7 cI cZ cII aS S_thrown y23.1 S_aside S_saved S_savedMany S_text S_length y23.2.1 y23.2.2.1 y23.2.2.2.1 y23.2.2.2.2.1 y23.2.2.2.2.2.1 y23.2.2.2.2.2.2.1 y23.2.2.2.2.2.2.2 ++ []) (va_runV (As := [.int x1]) (rest := []) ⟨hx, hb, hml, hown, hts⟩ (c_X7_readCommand l D cI cZ cII cJ cM aS S_thrown S_s S_aside S_saved S_savedMany S_text S_length S_fetched S_predicted S_fetchedMany S_fetchedWay S_spot S_isWrong S_executedByText x1 H.size y23 h23) (cwV 1 hts gX7_reads_X7_readCommand rfl rfl rfl (by decide +kernel) ⟨Nat.le_of_ble_eq_true rfl, Nat.le_of_ble_eq_true rfl⟩) (pz_V (x := []) (b := wX7 cI cZ cII aS S_thrown S_s S_aside S_saved S_savedMany S_text S_length S_fetched S_predicted S_fetchedMany S_fetchedWay S_spot S_isWrong S_executedByText ++ []) (y := ([] : va_W)) (C := RX7) (T := TX7) (N := 14) (ci := 7) (As := [.int x1]) (bi := 0) hK hN hP hD (by simp only [List.append_assoc, List.nil_append, List.append_nil]) rfl rfl) rfl rfl hl.1 rfl (lv_room (Nat.le_of_ble_eq_true rfl)) dX7_reads_23 ⟨Nat.le_of_ble_eq_true rfl, Nat.le_of_ble_eq_true rfl⟩) hP hD hS hA (by simp only [List.append_assoc, List.nil_append, List.append_nil]) (by simp only [List.append_assoc, List.nil_append, List.append_nil]) (fun H locs hP hD hS => ?_)
        refine lv_aload_n hx hb dX7_reads_26 rfl (lv_at hl 0 rfl) ?_
        refine va_get (D := D) (ci := 7) (v := .int y23.2.2.2.2.2.2.1) (C := RX7) (T := TX7) (N := 14) hx hb hts inX7 hown hK hP 0 rfl rfl 12 (by decide) kX7_138 (fun _ h9 => h9) rfl dX7_reads_27 ?_
        refine lv_if_ne (tgt := 48) hx hb dX7_reads_30 (by decide) (fun c30 => ?_) (fun c30 => ?_)
        · have hf := if_f c30 hf
          exact J48 y23.1 y23.2.1 y23.2.2.1 y23.2.2.2.1 y23.2.2.2.2.1 y23.2.2.2.2.2.1 y23.2.2.2.2.2.2.1 y23.2.2.2.2.2.2.2 _ _ _ hf hP hD hS (lv_sub hl [0, 1] rfl)
        · have hf := if_t c30 hf
          refine lv_aload_n hx hb dX7_reads_33 rfl (lv_at hl 0 rfl) ?_
          refine va_get (D := D) (ci := 7) (v := .int y23.2.2.2.2.2.1) (C := RX7) (T := TX7) (N := 14) hx hb hts inX7 hown hK hP 0 rfl rfl 11 (by decide) kX7_142 (fun _ h9 => h9) rfl dX7_reads_34 ?_
          refine lv_aload_n hx hb dX7_reads_37 rfl (lv_at hl 0 rfl) ?_
          refine va_get (D := D) (ci := 7) (v := .int S_length) (C := RX7) (T := TX7) (N := 14) hx hb hts inX7 hown hK hP 0 rfl rfl 6 (by decide) kX7_135 (fun _ h9 => h9) rfl dX7_reads_38 ?_
          refine lv_icmp_ge (tgt := 48) hx hb dX7_reads_41 (by decide) (fun c41 => ?_) (fun c41 => ?_)
          · have hf := if_t c41 hf
            exact J48 y23.1 y23.2.1 y23.2.2.1 y23.2.2.2.1 y23.2.2.2.2.1 y23.2.2.2.2.2.1 y23.2.2.2.2.2.2.1 y23.2.2.2.2.2.2.2 _ _ _ hf hP hD hS (lv_sub hl [0, 1] rfl)
          · have hf := if_f c41 hf
            refine lv_iconst (v := 1) hx hb dX7_reads_44 (by decide) ?_
            refine lv_goto (tgt := 49) hx hb dX7_reads_45 (by decide) ?_
            exact J49 y23.1 y23.2.1 y23.2.2.1 y23.2.2.2.1 y23.2.2.2.2.1 y23.2.2.2.2.2.1 y23.2.2.2.2.2.2.1 y23.2.2.2.2.2.2.2 (1 : Int32) _ _ _ hf hP hD hS (lv_sub hl [0, 1] rfl)
  unfold m_X7_reads at hf
  refine lv_aload_n hx hb dX7_reads_0 rfl (lv_at hl 0 rfl) ?_
  refine lv_iconst (v := 0) hx hb dX7_reads_1 (by decide) ?_
  refine va_put (D := D) (ci := 7) (v := .int (0 : Int32)) (ty := .int) (C := RX7) (T := TX7) (N := 14) hx hb hts inX7 tyX7 tyX7_ok nmX7 hown hK hP hD hS 0 rfl rfl 11 (by decide) kX7_142 (fun _ h9 => h9) rfl (by decide +kernel) rfl rfl (Nat.le_of_ble_eq_true rfl) dX7_reads_2 (fun H locs hP hD hS => ?_)
  have hP : va_P D vwCl (wX7 cI cZ cII aS S_thrown S_s S_aside S_saved S_savedMany S_text S_length S_fetched S_predicted S_fetchedMany S_fetchedWay (0 : Int32) S_isWrong S_executedByText ++ []) H := hP
  have hD : va_D A (wX7 cI cZ cII aS S_thrown S_s S_aside S_saved S_savedMany S_text S_length S_fetched S_predicted S_fetchedMany S_fetchedWay (0 : Int32) S_isWrong S_executedByText ++ []) := hD
  refine lv_aload_n hx hb dX7_reads_5 rfl (lv_at hl 0 rfl) ?_
  refine lv_iconst (v := 0) hx hb dX7_reads_6 (by decide) ?_
  refine va_put (D := D) (ci := 7) (v := .int (0 : Int32)) (ty := .boolean) (C := RX7) (T := TX7) (N := 14) hx hb hts inX7 tyX7 tyX7_ok nmX7 hown hK hP hD hS 0 rfl rfl 12 (by decide) kX7_138 (fun _ h9 => h9) rfl (by decide +kernel) rfl rfl (Nat.le_of_ble_eq_true rfl) dX7_reads_7 (fun H locs hP hD hS => ?_)
  have hP : va_P D vwCl (wX7 cI cZ cII aS S_thrown S_s S_aside S_saved S_savedMany S_text S_length S_fetched S_predicted S_fetchedMany S_fetchedWay (0 : Int32) (0 : Int32) S_executedByText ++ []) H := hP
  have hD : va_D A (wX7 cI cZ cII aS S_thrown S_s S_aside S_saved S_savedMany S_text S_length S_fetched S_predicted S_fetchedMany S_fetchedWay (0 : Int32) (0 : Int32) S_executedByText ++ []) := hD
  refine lv_aload_n hx hb dX7_reads_10 rfl (lv_at hl 0 rfl) ?_
  refine lv_iconst (v := 0) hx hb dX7_reads_11 (by decide) ?_
  refine va_put (D := D) (ci := 7) (v := .int (0 : Int32)) (ty := .int) (C := RX7) (T := TX7) (N := 14) hx hb hts inX7 tyX7 tyX7_ok nmX7 hown hK hP hD hS 0 rfl rfl 13 (by decide) kX7_162 (fun _ h9 => h9) rfl (by decide +kernel) rfl rfl (Nat.le_of_ble_eq_true rfl) dX7_reads_12 (fun H locs hP hD hS => ?_)
  have hP : va_P D vwCl (wX7 cI cZ cII aS S_thrown S_s S_aside S_saved S_savedMany S_text S_length S_fetched S_predicted S_fetchedMany S_fetchedWay (0 : Int32) (0 : Int32) (0 : Int32) ++ []) H := hP
  have hD : va_D A (wX7 cI cZ cII aS S_thrown S_s S_aside S_saved S_savedMany S_text S_length S_fetched S_predicted S_fetchedMany S_fetchedWay (0 : Int32) (0 : Int32) (0 : Int32) ++ []) := hD
  refine lv_iconst (v := 1) hx hb dX7_reads_15 (by decide) ?_
  refine lv_istore_n (lv' := [(2, .int (1 : Int32)), (0, .ref (aS 0)), (1, .int x1)]) hx hb dX7_reads_16 rfl hl (by decide) rfl (fun ls hl => ?_)
  exact J17 4000 S_s S_fetched S_predicted S_fetchedMany S_fetchedWay (0 : Int32) (0 : Int32) (0 : Int32) (1 : Int32) _ _ _ hf hP hD hS (lv_sub hl [1, 2, 0] rfl)
