set_option maxHeartbeats 8000000 in
set_option maxRecDepth 100000 in
theorem c_X7_ofOne (l : Launch) (D : va_G) (cI cZ cII cJ cM : ClassId) (aS : Nat → Nat) (S_thrown : Int32) (S_s : Nat → Int32) (S_aside : Nat → Int32) (S_saved : Nat → Int32) (S_savedMany : Int32) (S_text : Nat → Int32) (S_length : Int32) (S_fetched : Nat → Int32) (S_predicted : Nat → Int32) (S_fetchedMany : Int32) (S_fetchedWay : Int32) (S_spot : Int32) (S_isWrong : Int32) (S_executedByText : Int32) (x1 : Int32) (x2 : Int32) (sz : Nat) (y : (Int32)) (hf : m_X7_ofOne S_s x1 x2 = some y) : Met l yX7_ofOne wsX7_ofOne ({ frames := 4, cells := 0, slots := 0, locals := 88 } : Room) (va_Pc [.ref (aS 0), .int x1, .int x2] (pzPre D (zT cI cZ cII cJ cM) (wX7 cI cZ cII aS S_thrown S_s S_aside S_saved S_savedMany S_text S_length S_fetched S_predicted S_fetchedMany S_fetchedWay S_spot S_isWrong S_executedByText ++ []) sz)) (va_Qi (fun v (_ : Unit) => v = y) (fun _ t => pzB D (zT cI cZ cII cJ cM) (va_A (wX7 cI cZ cII aS S_thrown S_s S_aside S_saved S_savedMany S_text S_length S_fetched S_predicted S_fetchedMany S_fetchedWay S_spot S_isWrong S_executedByText ++ []) sz) (wX7 cI cZ cII aS S_thrown S_s S_aside S_saved S_savedMany S_text S_length S_fetched S_predicted S_fetchedMany S_fetchedWay S_spot S_isWrong S_executedByText ++ []) t) (va_A (wX7 cI cZ cII aS S_thrown S_s S_aside S_saved S_savedMany S_text S_length S_fetched S_predicted S_fetchedMany S_fetchedWay S_spot S_isWrong S_executedByText ++ []) sz)) 0 0 (va_A (wX7 cI cZ cII aS S_thrown S_s S_aside S_saved S_savedMany S_text S_length S_fetched S_predicted S_fetchedMany S_fetchedWay S_spot S_isWrong S_executedByText ++ []) sz) := by
  refine z_meti (cc := cX7_ofOne) (maxL := 3) (by decide) rfl (Nat.le_of_ble_eq_true rfl) ?_
  intro p e s m args below meth c A ls Q H locs F hP hD hS hl hret
  obtain ⟨hx, hb, hml, hown, hts, hN, hK, hA⟩ := F
  have hown : s.vm.findClass RX7 = some m.cls := hown
  have hl : lv_has ls 3 [(0, .ref (aS 0)), (1, .int x1), (2, .int x2)] := hl
  have inX7 : ∀ w ∈ u_ws RX7 TX7 14, w ∈ wsX7_ofOne := by decide +kernel
  have kX7_7 := hts (.fieldLink RX7 7 "TraceCacheModel" "s" "[I") (by decide +kernel)
  have J29 : ∀ (H : Heap) (locs : List Loc) (ls : Array Slot), m_X7_ofOne_29 S_s x1 x2 = some y → va_P D vwCl (wX7 cI cZ cII aS S_thrown S_s S_aside S_saved S_savedMany S_text S_length S_fetched S_predicted S_fetchedMany S_fetchedWay S_spot S_isWrong S_executedByText ++ []) H → va_D A (wX7 cI cZ cII aS S_thrown S_s S_aside S_saved S_savedMany S_text S_length S_fetched S_predicted S_fetchedMany S_fetchedWay S_spot S_isWrong S_executedByText ++ []) → va_S A s.heap H locs → lv_has ls 3 [] → W p l e ({ frames := 4, cells := 0, slots := 0, locals := 88 } : Room) s m args below meth c H locs 0 0 Q (F0 m 29 ls []) := by
    intro  H locs ls hf hP hD hS hl
    unfold m_X7_ofOne_29 at hf
    refine lv_iconst (v := -1) hx hb dX7_ofOne_29 (by decide) ?_
    obtain rfl := Option.some.inj hf
    exact hret _ _ _ _ _ dX7_ofOne_30 rfl hP hD hS
  have J93 : ∀ (k0 : Int32) (H : Heap) (locs : List Loc) (ls : Array Slot), m_X7_ofOne_93 S_s x1 x2 k0 = some y → va_P D vwCl (wX7 cI cZ cII aS S_thrown S_s S_aside S_saved S_savedMany S_text S_length S_fetched S_predicted S_fetchedMany S_fetchedWay S_spot S_isWrong S_executedByText ++ []) H → va_D A (wX7 cI cZ cII aS S_thrown S_s S_aside S_saved S_savedMany S_text S_length S_fetched S_predicted S_fetchedMany S_fetchedWay S_spot S_isWrong S_executedByText ++ []) → va_S A s.heap H locs → lv_has ls 3 [] → W p l e ({ frames := 4, cells := 0, slots := 0, locals := 88 } : Room) s m args below meth c H locs 0 0 Q (F0 m 93 ls [.int k0]) := by
    intro k0 H locs ls hf hP hD hS hl
    unfold m_X7_ofOne_93 at hf
    obtain rfl := Option.some.inj hf
    exact hret _ _ _ _ _ dX7_ofOne_93 rfl hP hD hS
  unfold m_X7_ofOne at hf
  refine lv_aload_n hx hb dX7_ofOne_0 rfl (lv_at hl 0 rfl) ?_
  refine va_get (D := D) (ci := 7) (v := .ref (aS 1)) (C := RX7) (T := TX7) (N := 14) hx hb hts inX7 hown hK hP 0 rfl rfl 1 (by decide) kX7_7 (fun _ h9 => h9) rfl dX7_ofOne_1 ?_
  refine lv_iload_n hx hb dX7_ofOne_4 rfl (lv_at hl 1 rfl) ?_
  refine lv_iconst (v := 0) hx hb dX7_ofOne_5 (by decide) ?_
  obtain ⟨y6, h6, hf⟩ := bn_t hf
  refine z_ai (x := []) (b := ([] : va_W)) (y := wX7 cI cZ cII aS S_thrown S_s S_aside S_saved S_savedMany S_text S_length S_fetched S_predicted S_fetchedMany S_fetchedWay S_spot S_isWrong S_executedByText ++ []) (b1 := ([] : va_W)) (wsn := wX7 cI cZ cII aS S_thrown S_s S_aside S_saved S_savedMany S_text S_length S_fetched S_predicted S_fetchedMany S_fetchedWay S_spot S_isWrong S_executedByText ++ []) (va_runS (As := [.int x1, .int (0 : Int32)]) (rest := [.ref (aS 1)]) ⟨hx, hb, hml, hown, hts⟩ (c_X7_ofLine l D cI cZ cII cJ cM x1 (0 : Int32) H.size y6 h6) (va_cwS 2 hts gX7_ofOne_X7_ofLine rfl rfl rfl (by decide +kernel) ⟨Nat.le_of_ble_eq_true rfl, Nat.le_of_ble_eq_true rfl⟩) (pz_S (x := []) (b := ([] : va_W)) (y := wX7 cI cZ cII aS S_thrown S_s S_aside S_saved S_savedMany S_text S_length S_fetched S_predicted S_fetchedMany S_fetchedWay S_spot S_isWrong S_executedByText ++ []) hK hN hP hD (by simp only [List.append_assoc, List.nil_append, List.append_nil])) rfl rfl hl.1 rfl (lv_room (Nat.le_of_ble_eq_true rfl)) dX7_ofOne_6 ⟨Nat.le_of_ble_eq_true rfl, Nat.le_of_ble_eq_true rfl⟩) hP hD hS hA (by simp only [List.append_assoc, List.nil_append, List.append_nil]) (by simp only [List.append_assoc, List.nil_append, List.append_nil]) (fun H locs hP hD hS => ?_)
  obtain ⟨g9, hf⟩ := gd_t hf
  refine va_iald hx hb hK hP 1 0 rfl rfl (inb_t g9) dX7_ofOne_9 ?_
  refine lv_if_eq (tgt := 29) hx hb dX7_ofOne_10 (by decide) (fun c10 => ?_) (fun c10 => ?_)
  · have hf := if_t c10 hf
    exact J29  _ _ _ hf hP hD hS (lv_sub hl [] rfl)
  · have hf := if_f c10 hf
    refine lv_iload_n hx hb dX7_ofOne_13 rfl (lv_at hl 2 rfl) ?_
    refine lv_iconst (v := 3) hx hb dX7_ofOne_14 (by decide) ?_
    refine lv_isub hx hb dX7_ofOne_15 ?_
    refine lv_aload_n hx hb dX7_ofOne_16 rfl (lv_at hl 0 rfl) ?_
    refine va_get (D := D) (ci := 7) (v := .ref (aS 1)) (C := RX7) (T := TX7) (N := 14) hx hb hts inX7 hown hK hP 0 rfl rfl 1 (by decide) kX7_7 (fun _ h9 => h9) rfl dX7_ofOne_17 ?_
    refine lv_iload_n hx hb dX7_ofOne_20 rfl (lv_at hl 1 rfl) ?_
    refine lv_iconst (v := 0) hx hb dX7_ofOne_21 (by decide) ?_
    obtain ⟨y22, h22, hf⟩ := bn_t hf
    refine z_ai (x := []) (b := ([] : va_W)) (y := wX7 cI cZ cII aS S_thrown S_s S_aside S_saved S_savedMany S_text S_length S_fetched S_predicted S_fetchedMany S_fetchedWay S_spot S_isWrong S_executedByText ++ []) (b1 := ([] : va_W)) (wsn := wX7 cI cZ cII aS S_thrown S_s S_aside S_saved S_savedMany S_text S_length S_fetched S_predicted S_fetchedMany S_fetchedWay S_spot S_isWrong S_executedByText ++ []) (va_runS (As := [.int x1, .int (0 : Int32)]) (rest := [.ref (aS 1), .int (x2 - (3 : Int32))]) ⟨hx, hb, hml, hown, hts⟩ (c_X7_ofLine l D cI cZ cII cJ cM x1 (0 : Int32) H.size y22 h22) (va_cwS 2 hts gX7_ofOne_X7_ofLine rfl rfl rfl (by decide +kernel) ⟨Nat.le_of_ble_eq_true rfl, Nat.le_of_ble_eq_true rfl⟩) (pz_S (x := []) (b := ([] : va_W)) (y := wX7 cI cZ cII aS S_thrown S_s S_aside S_saved S_savedMany S_text S_length S_fetched S_predicted S_fetchedMany S_fetchedWay S_spot S_isWrong S_executedByText ++ []) hK hN hP hD (by simp only [List.append_assoc, List.nil_append, List.append_nil])) rfl rfl hl.1 rfl (lv_room (Nat.le_of_ble_eq_true rfl)) dX7_ofOne_22 ⟨Nat.le_of_ble_eq_true rfl, Nat.le_of_ble_eq_true rfl⟩) hP hD hS hA (by simp only [List.append_assoc, List.nil_append, List.append_nil]) (by simp only [List.append_assoc, List.nil_append, List.append_nil]) (fun H locs hP hD hS => ?_)
    obtain ⟨g25, hf⟩ := gd_t hf
    refine va_iald hx hb hK hP 1 0 rfl rfl (inb_t g25) dX7_ofOne_25 ?_
    refine lv_icmp_lt (tgt := 31) hx hb dX7_ofOne_26 (by decide) (fun c26 => ?_) (fun c26 => ?_)
    · have hf := if_t c26 hf
      refine lv_iload_n hx hb dX7_ofOne_31 rfl (lv_at hl 2 rfl) ?_
      refine lv_if_ne (tgt := 48) hx hb dX7_ofOne_32 (by decide) (fun c32 => ?_) (fun c32 => ?_)
      · have hf := if_f c32 hf
        refine lv_iload_n hx hb dX7_ofOne_48 rfl (lv_at hl 2 rfl) ?_
        refine lv_iconst (v := 1) hx hb dX7_ofOne_49 (by decide) ?_
        refine lv_icmp_ne (tgt := 61) hx hb dX7_ofOne_50 (by decide) (fun c50 => ?_) (fun c50 => ?_)
        · have hf := if_f c50 hf
          refine lv_iload_n hx hb dX7_ofOne_61 rfl (lv_at hl 2 rfl) ?_
          refine lv_iconst (v := 2) hx hb dX7_ofOne_62 (by decide) ?_
          refine lv_icmp_ne (tgt := 79) hx hb dX7_ofOne_63 (by decide) (fun c63 => ?_) (fun c63 => ?_)
          · have hf := if_f c63 hf
            refine lv_aload_n hx hb dX7_ofOne_79 rfl (lv_at hl 0 rfl) ?_
            refine va_get (D := D) (ci := 7) (v := .ref (aS 1)) (C := RX7) (T := TX7) (N := 14) hx hb hts inX7 hown hK hP 0 rfl rfl 1 (by decide) kX7_7 (fun _ h9 => h9) rfl dX7_ofOne_80 ?_
            refine lv_iload_n hx hb dX7_ofOne_83 rfl (lv_at hl 1 rfl) ?_
            refine lv_iconst (v := 2) hx hb dX7_ofOne_84 (by decide) ?_
            refine lv_iload_n hx hb dX7_ofOne_85 rfl (lv_at hl 2 rfl) ?_
            refine lv_iadd hx hb dX7_ofOne_86 ?_
            refine lv_iconst (v := 3) hx hb dX7_ofOne_87 (by decide) ?_
            refine lv_isub hx hb dX7_ofOne_88 ?_
            obtain ⟨y89, h89, hf⟩ := bn_t hf
            refine z_ai (x := []) (b := ([] : va_W)) (y := wX7 cI cZ cII aS S_thrown S_s S_aside S_saved S_savedMany S_text S_length S_fetched S_predicted S_fetchedMany S_fetchedWay S_spot S_isWrong S_executedByText ++ []) (b1 := ([] : va_W)) (wsn := wX7 cI cZ cII aS S_thrown S_s S_aside S_saved S_savedMany S_text S_length S_fetched S_predicted S_fetchedMany S_fetchedWay S_spot S_isWrong S_executedByText ++ []) (va_runS (As := [.int x1, .int (((2 : Int32) + x2) - (3 : Int32))]) (rest := [.ref (aS 1)]) ⟨hx, hb, hml, hown, hts⟩ (c_X7_ofLine l D cI cZ cII cJ cM x1 (((2 : Int32) + x2) - (3 : Int32)) H.size y89 h89) (va_cwS 2 hts gX7_ofOne_X7_ofLine rfl rfl rfl (by decide +kernel) ⟨Nat.le_of_ble_eq_true rfl, Nat.le_of_ble_eq_true rfl⟩) (pz_S (x := []) (b := ([] : va_W)) (y := wX7 cI cZ cII aS S_thrown S_s S_aside S_saved S_savedMany S_text S_length S_fetched S_predicted S_fetchedMany S_fetchedWay S_spot S_isWrong S_executedByText ++ []) hK hN hP hD (by simp only [List.append_assoc, List.nil_append, List.append_nil])) rfl rfl hl.1 rfl (lv_room (Nat.le_of_ble_eq_true rfl)) dX7_ofOne_89 ⟨Nat.le_of_ble_eq_true rfl, Nat.le_of_ble_eq_true rfl⟩) hP hD hS hA (by simp only [List.append_assoc, List.nil_append, List.append_nil]) (by simp only [List.append_assoc, List.nil_append, List.append_nil]) (fun H locs hP hD hS => ?_)
            obtain ⟨g92, hf⟩ := gd_t hf
            refine va_iald hx hb hK hP 1 0 rfl rfl (inb_t g92) dX7_ofOne_92 ?_
            exact J93 (S_s (Int32.toNatClampNeg y89)) _ _ _ hf hP hD hS (lv_sub hl [] rfl)
          · have hf := if_t c63 hf
            refine lv_aload_n hx hb dX7_ofOne_66 rfl (lv_at hl 0 rfl) ?_
            refine va_get (D := D) (ci := 7) (v := .ref (aS 1)) (C := RX7) (T := TX7) (N := 14) hx hb hts inX7 hown hK hP 0 rfl rfl 1 (by decide) kX7_7 (fun _ h9 => h9) rfl dX7_ofOne_67 ?_
            refine lv_iload_n hx hb dX7_ofOne_70 rfl (lv_at hl 1 rfl) ?_
            refine lv_iconst (v := 1) hx hb dX7_ofOne_71 (by decide) ?_
            obtain ⟨y72, h72, hf⟩ := bn_t hf
            refine z_ai (x := []) (b := ([] : va_W)) (y := wX7 cI cZ cII aS S_thrown S_s S_aside S_saved S_savedMany S_text S_length S_fetched S_predicted S_fetchedMany S_fetchedWay S_spot S_isWrong S_executedByText ++ []) (b1 := ([] : va_W)) (wsn := wX7 cI cZ cII aS S_thrown S_s S_aside S_saved S_savedMany S_text S_length S_fetched S_predicted S_fetchedMany S_fetchedWay S_spot S_isWrong S_executedByText ++ []) (va_runS (As := [.int x1, .int (1 : Int32)]) (rest := [.ref (aS 1)]) ⟨hx, hb, hml, hown, hts⟩ (c_X7_ofLine l D cI cZ cII cJ cM x1 (1 : Int32) H.size y72 h72) (va_cwS 2 hts gX7_ofOne_X7_ofLine rfl rfl rfl (by decide +kernel) ⟨Nat.le_of_ble_eq_true rfl, Nat.le_of_ble_eq_true rfl⟩) (pz_S (x := []) (b := ([] : va_W)) (y := wX7 cI cZ cII aS S_thrown S_s S_aside S_saved S_savedMany S_text S_length S_fetched S_predicted S_fetchedMany S_fetchedWay S_spot S_isWrong S_executedByText ++ []) hK hN hP hD (by simp only [List.append_assoc, List.nil_append, List.append_nil])) rfl rfl hl.1 rfl (lv_room (Nat.le_of_ble_eq_true rfl)) dX7_ofOne_72 ⟨Nat.le_of_ble_eq_true rfl, Nat.le_of_ble_eq_true rfl⟩) hP hD hS hA (by simp only [List.append_assoc, List.nil_append, List.append_nil]) (by simp only [List.append_assoc, List.nil_append, List.append_nil]) (fun H locs hP hD hS => ?_)
            obtain ⟨g75, hf⟩ := gd_t hf
            refine va_iald hx hb hK hP 1 0 rfl rfl (inb_t g75) dX7_ofOne_75 ?_
            refine lv_goto (tgt := 93) hx hb dX7_ofOne_76 (by decide) ?_
            exact J93 (S_s (Int32.toNatClampNeg y72)) _ _ _ hf hP hD hS (lv_sub hl [] rfl)
        · have hf := if_t c50 hf
          refine lv_aload_n hx hb dX7_ofOne_53 rfl (lv_at hl 0 rfl) ?_
          refine lv_iload_n hx hb dX7_ofOne_54 rfl (lv_at hl 1 rfl) ?_
          obtain ⟨y55, h55, hf⟩ := bn_t hf
          refine z_ai (x := []) (b := wX7 cI cZ cII aS S_thrown S_s S_aside S_saved S_savedMany S_text S_length S_fetched S_predicted S_fetchedMany S_fetchedWay S_spot S_isWrong S_executedByText ++ []) (y := ([] : va_W)) (b1 := wX7 cI cZ cII aS S_thrown S_s S_aside S_saved S_savedMany S_text S_length S_fetched S_predicted S_fetchedMany S_fetchedWay S_spot S_isWrong S_executedByText ++ []) (wsn := wX7 cI cZ cII aS S_thrown S_s S_aside S_saved S_savedMany S_text S_length S_fetched S_predicted S_fetchedMany S_fetchedWay S_spot S_isWrong S_executedByText ++ []) (va_runV (As := [.int x1]) (rest := []) ⟨hx, hb, hml, hown, hts⟩ (c_X7_usable l D cI cZ cII cJ cM aS S_thrown S_s S_aside S_saved S_savedMany S_text S_length S_fetched S_predicted S_fetchedMany S_fetchedWay S_spot S_isWrong S_executedByText x1 H.size y55 h55) (cwV 1 hts gX7_ofOne_X7_usable rfl rfl rfl (by decide +kernel) ⟨Nat.le_of_ble_eq_true rfl, Nat.le_of_ble_eq_true rfl⟩) (pz_V (x := []) (b := wX7 cI cZ cII aS S_thrown S_s S_aside S_saved S_savedMany S_text S_length S_fetched S_predicted S_fetchedMany S_fetchedWay S_spot S_isWrong S_executedByText ++ []) (y := ([] : va_W)) (C := RX7) (T := TX7) (N := 14) (ci := 7) (As := [.int x1]) (bi := 0) hK hN hP hD (by simp only [List.append_assoc, List.nil_append, List.append_nil]) rfl rfl) rfl rfl hl.1 rfl (lv_room (Nat.le_of_ble_eq_true rfl)) dX7_ofOne_55 ⟨Nat.le_of_ble_eq_true rfl, Nat.le_of_ble_eq_true rfl⟩) hP hD hS hA (by simp only [List.append_assoc, List.nil_append, List.append_nil]) (by simp only [List.append_assoc, List.nil_append, List.append_nil]) (fun H locs hP hD hS => ?_)
          refine lv_goto (tgt := 93) hx hb dX7_ofOne_58 (by decide) ?_
          exact J93 y55 _ _ _ hf hP hD hS (lv_sub hl [] rfl)
      · have hf := if_t c32 hf
        refine lv_aload_n hx hb dX7_ofOne_35 rfl (lv_at hl 0 rfl) ?_
        refine va_get (D := D) (ci := 7) (v := .ref (aS 1)) (C := RX7) (T := TX7) (N := 14) hx hb hts inX7 hown hK hP 0 rfl rfl 1 (by decide) kX7_7 (fun _ h9 => h9) rfl dX7_ofOne_36 ?_
        refine lv_iload_n hx hb dX7_ofOne_39 rfl (lv_at hl 1 rfl) ?_
        refine lv_iconst (v := 0) hx hb dX7_ofOne_40 (by decide) ?_
        obtain ⟨y41, h41, hf⟩ := bn_t hf
        refine z_ai (x := []) (b := ([] : va_W)) (y := wX7 cI cZ cII aS S_thrown S_s S_aside S_saved S_savedMany S_text S_length S_fetched S_predicted S_fetchedMany S_fetchedWay S_spot S_isWrong S_executedByText ++ []) (b1 := ([] : va_W)) (wsn := wX7 cI cZ cII aS S_thrown S_s S_aside S_saved S_savedMany S_text S_length S_fetched S_predicted S_fetchedMany S_fetchedWay S_spot S_isWrong S_executedByText ++ []) (va_runS (As := [.int x1, .int (0 : Int32)]) (rest := [.ref (aS 1)]) ⟨hx, hb, hml, hown, hts⟩ (c_X7_ofLine l D cI cZ cII cJ cM x1 (0 : Int32) H.size y41 h41) (va_cwS 2 hts gX7_ofOne_X7_ofLine rfl rfl rfl (by decide +kernel) ⟨Nat.le_of_ble_eq_true rfl, Nat.le_of_ble_eq_true rfl⟩) (pz_S (x := []) (b := ([] : va_W)) (y := wX7 cI cZ cII aS S_thrown S_s S_aside S_saved S_savedMany S_text S_length S_fetched S_predicted S_fetchedMany S_fetchedWay S_spot S_isWrong S_executedByText ++ []) hK hN hP hD (by simp only [List.append_assoc, List.nil_append, List.append_nil])) rfl rfl hl.1 rfl (lv_room (Nat.le_of_ble_eq_true rfl)) dX7_ofOne_41 ⟨Nat.le_of_ble_eq_true rfl, Nat.le_of_ble_eq_true rfl⟩) hP hD hS hA (by simp only [List.append_assoc, List.nil_append, List.append_nil]) (by simp only [List.append_assoc, List.nil_append, List.append_nil]) (fun H locs hP hD hS => ?_)
        obtain ⟨g44, hf⟩ := gd_t hf
        refine va_iald hx hb hK hP 1 0 rfl rfl (inb_t g44) dX7_ofOne_44 ?_
        refine lv_goto (tgt := 93) hx hb dX7_ofOne_45 (by decide) ?_
        exact J93 (S_s (Int32.toNatClampNeg y41)) _ _ _ hf hP hD hS (lv_sub hl [] rfl)
    · have hf := if_f c26 hf
      exact J29  _ _ _ hf hP hD hS (lv_sub hl [] rfl)
set_option maxHeartbeats 8000000 in
set_option maxRecDepth 100000 in
theorem c_X7_line (l : Launch) (D : va_G) (cI cZ cII cJ cM : ClassId) (aS : Nat → Nat) (S_thrown : Int32) (S_s : Nat → Int32) (S_aside : Nat → Int32) (S_saved : Nat → Int32) (S_savedMany : Int32) (S_text : Nat → Int32) (S_length : Int32) (S_fetched : Nat → Int32) (S_predicted : Nat → Int32) (S_fetchedMany : Int32) (S_fetchedWay : Int32) (S_spot : Int32) (S_isWrong : Int32) (S_executedByText : Int32) (x1 : Int32) (x2 : Int32) (x3 : Int32) (sz : Nat) (y : (Int32) × (Int32)) (hf : m_X7_line S_s S_thrown x1 x2 x3 = some y) : Met l yX7_line wsX7_line ({ frames := 5, cells := 0, slots := 0, locals := 110 } : Room) (va_Pc [.ref (aS 0), .int x1, .int x2, .int x3] (pzPre D (zT cI cZ cII cJ cM) (wX7 cI cZ cII aS S_thrown S_s S_aside S_saved S_savedMany S_text S_length S_fetched S_predicted S_fetchedMany S_fetchedWay S_spot S_isWrong S_executedByText ++ []) sz)) (va_Qi (fun v (_ : Unit) => v = y.1) (fun _ t => pzB D (zT cI cZ cII cJ cM) (va_A (wX7 cI cZ cII aS S_thrown S_s S_aside S_saved S_savedMany S_text S_length S_fetched S_predicted S_fetchedMany S_fetchedWay S_spot S_isWrong S_executedByText ++ []) sz) (wX7 cI cZ cII aS y.2 S_s S_aside S_saved S_savedMany S_text S_length S_fetched S_predicted S_fetchedMany S_fetchedWay S_spot S_isWrong S_executedByText ++ []) t) (va_A (wX7 cI cZ cII aS S_thrown S_s S_aside S_saved S_savedMany S_text S_length S_fetched S_predicted S_fetchedMany S_fetchedWay S_spot S_isWrong S_executedByText ++ []) sz)) 0 0 (va_A (wX7 cI cZ cII aS S_thrown S_s S_aside S_saved S_savedMany S_text S_length S_fetched S_predicted S_fetchedMany S_fetchedWay S_spot S_isWrong S_executedByText ++ []) sz) := by
  refine z_meti (cc := cX7_line) (maxL := 5) (by decide) rfl (Nat.le_of_ble_eq_true rfl) ?_
  intro p e s m args below meth c A ls Q H locs F hP hD hS hl hret
  obtain ⟨hx, hb, hml, hown, hts, hN, hK, hA⟩ := F
  have hown : s.vm.findClass RX7 = some m.cls := hown
  have hl : lv_has ls 5 [(0, .ref (aS 0)), (1, .int x1), (2, .int x2), (3, .int x3)] := hl
  have J70 : ∀ (S_thrown : Int32) (k0 : Int32) (H : Heap) (locs : List Loc) (ls : Array Slot), m_X7_line_70 S_s x1 x2 x3 S_thrown k0 = some y → va_P D vwCl (wX7 cI cZ cII aS S_thrown S_s S_aside S_saved S_savedMany S_text S_length S_fetched S_predicted S_fetchedMany S_fetchedWay S_spot S_isWrong S_executedByText ++ []) H → va_D A (wX7 cI cZ cII aS S_thrown S_s S_aside S_saved S_savedMany S_text S_length S_fetched S_predicted S_fetchedMany S_fetchedWay S_spot S_isWrong S_executedByText ++ []) → va_S A s.heap H locs → lv_has ls 5 [] → W p l e ({ frames := 5, cells := 0, slots := 0, locals := 110 } : Room) s m args below meth c H locs 0 0 Q (F0 m 70 ls [.int k0]) := by
    intro S_thrown k0 H locs ls hf hP hD hS hl
    unfold m_X7_line_70 at hf
    obtain rfl := Option.some.inj hf
    exact hret _ _ _ _ _ dX7_line_70 rfl hP hD hS
  have J50 : ∀ (S_thrown : Int32) (k1 : Int32) (H : Heap) (locs : List Loc) (ls : Array Slot), m_X7_line_50 S_s x1 x2 x3 S_thrown k1 = some y → va_P D vwCl (wX7 cI cZ cII aS S_thrown S_s S_aside S_saved S_savedMany S_text S_length S_fetched S_predicted S_fetchedMany S_fetchedWay S_spot S_isWrong S_executedByText ++ []) H → va_D A (wX7 cI cZ cII aS S_thrown S_s S_aside S_saved S_savedMany S_text S_length S_fetched S_predicted S_fetchedMany S_fetchedWay S_spot S_isWrong S_executedByText ++ []) → va_S A s.heap H locs → lv_has ls 5 [(0, .ref (aS 0)), (1, .int x1), (2, .int x2), (3, .int x3)] → W p l e ({ frames := 5, cells := 0, slots := 0, locals := 110 } : Room) s m args below meth c H locs 0 0 Q (F0 m 50 ls [.int k1, .ref (aS 0)]) := by
    intro S_thrown k1 H locs ls hf hP hD hS hl
    unfold m_X7_line_50 at hf
    obtain ⟨y50, h50, hf⟩ := bn_t hf
    refine z_ai (x := []) (b := wX7 cI cZ cII aS S_thrown S_s S_aside S_saved S_savedMany S_text S_length S_fetched S_predicted S_fetchedMany S_fetchedWay S_spot S_isWrong S_executedByText ++ []) (y := ([] : va_W)) (b1 := wX7 cI cZ cII aS y50.2 S_s S_aside S_saved S_savedMany S_text S_length S_fetched S_predicted S_fetchedMany S_fetchedWay S_spot S_isWrong S_executedByText ++ []) (wsn := wX7 cI cZ cII aS y50.2 S_s S_aside S_saved S_savedMany S_text S_length S_fetched S_predicted S_fetchedMany S_fetchedWay S_spot S_isWrong S_executedByText ++ []) (va_runV (As := [.int k1]) (rest := []) ⟨hx, hb, hml, hown, hts⟩ (c_X7_holds l D cI cZ cII cJ cM aS S_thrown S_s S_aside S_saved S_savedMany S_text S_length S_fetched S_predicted S_fetchedMany S_fetchedWay S_spot S_isWrong S_executedByText k1 H.size y50 h50) (cwV 1 hts gX7_line_X7_holds rfl rfl rfl (by decide +kernel) ⟨Nat.le_of_ble_eq_true rfl, Nat.le_of_ble_eq_true rfl⟩) (pz_V (x := []) (b := wX7 cI cZ cII aS S_thrown S_s S_aside S_saved S_savedMany S_text S_length S_fetched S_predicted S_fetchedMany S_fetchedWay S_spot S_isWrong S_executedByText ++ []) (y := ([] : va_W)) (C := RX7) (T := TX7) (N := 14) (ci := 7) (As := [.int k1]) (bi := 0) hK hN hP hD (by simp only [List.append_assoc, List.nil_append, List.append_nil]) rfl rfl) rfl rfl hl.1 rfl (lv_room (Nat.le_of_ble_eq_true rfl)) dX7_line_50 ⟨Nat.le_of_ble_eq_true rfl, Nat.le_of_ble_eq_true rfl⟩) hP hD hS hA (by simp only [List.append_assoc, List.nil_append, List.append_nil]) (by simp only [List.append_assoc, List.nil_append, List.append_nil]) (fun H locs hP hD hS => ?_)
    refine lv_if_eq (tgt := 69) hx hb dX7_line_53 (by decide) (fun c53 => ?_) (fun c53 => ?_)
    · have hf := if_t c53 hf
      refine lv_iconst (v := 0) hx hb dX7_line_69 (by decide) ?_
      exact J70 y50.2 (0 : Int32) _ _ _ hf hP hD hS (lv_sub hl [] rfl)
    · have hf := if_f c53 hf
      refine lv_aload_n hx hb dX7_line_56 rfl (lv_at hl 0 rfl) ?_
      refine lv_iconst (v := 2) hx hb dX7_line_57 (by decide) ?_
      refine lv_iload_n hx hb dX7_line_58 rfl (lv_at hl 1 rfl) ?_
      refine lv_imul hx hb dX7_line_59 ?_
      refine lv_iload_n hx hb dX7_line_60 rfl (lv_at hl 2 rfl) ?_
      refine lv_iadd hx hb dX7_line_61 ?_
      refine lv_iload_n hx hb dX7_line_62 rfl (lv_at hl 3 rfl) ?_
      obtain ⟨y63, h63, hf⟩ := bn_t hf
      refine z_ai (x := []) (b := wX7 cI cZ cII aS y50.2 S_s S_aside S_saved S_savedMany S_text S_length S_fetched S_predicted S_fetchedMany S_fetchedWay S_spot S_isWrong S_executedByText ++ []) (y := ([] : va_W)) (b1 := wX7 cI cZ cII aS y50.2 S_s S_aside S_saved S_savedMany S_text S_length S_fetched S_predicted S_fetchedMany S_fetchedWay S_spot S_isWrong S_executedByText ++ []) (wsn := wX7 cI cZ cII aS y50.2 S_s S_aside S_saved S_savedMany S_text S_length S_fetched S_predicted S_fetchedMany S_fetchedWay S_spot S_isWrong S_executedByText ++ []) (va_runV (As := [.int (((2 : Int32) * x1) + x2), .int x3]) (rest := []) ⟨hx, hb, hml, hown, hts⟩ (c_X7_ofOne l D cI cZ cII cJ cM aS y50.2 S_s S_aside S_saved S_savedMany S_text S_length S_fetched S_predicted S_fetchedMany S_fetchedWay S_spot S_isWrong S_executedByText (((2 : Int32) * x1) + x2) x3 H.size y63 h63) (cwV 2 hts gX7_line_X7_ofOne rfl rfl rfl (by decide +kernel) ⟨Nat.le_of_ble_eq_true rfl, Nat.le_of_ble_eq_true rfl⟩) (pz_V (x := []) (b := wX7 cI cZ cII aS y50.2 S_s S_aside S_saved S_savedMany S_text S_length S_fetched S_predicted S_fetchedMany S_fetchedWay S_spot S_isWrong S_executedByText ++ []) (y := ([] : va_W)) (C := RX7) (T := TX7) (N := 14) (ci := 7) (As := [.int (((2 : Int32) * x1) + x2), .int x3]) (bi := 0) hK hN hP hD (by simp only [List.append_assoc, List.nil_append, List.append_nil]) rfl rfl) rfl rfl hl.1 rfl (lv_room (Nat.le_of_ble_eq_true rfl)) dX7_line_63 ⟨Nat.le_of_ble_eq_true rfl, Nat.le_of_ble_eq_true rfl⟩) hP hD hS hA (by simp only [List.append_assoc, List.nil_append, List.append_nil]) (by simp only [List.append_assoc, List.nil_append, List.append_nil]) (fun H locs hP hD hS => ?_)
      refine lv_goto (tgt := 70) hx hb dX7_line_66 (by decide) ?_
      exact J70 y50.2 y63 _ _ _ hf hP hD hS (lv_sub hl [] rfl)
  have J23 : ∀ (S_thrown : Int32) (k0 : Int32) (H : Heap) (locs : List Loc) (ls : Array Slot), m_X7_line_23 S_s x1 x2 x3 S_thrown k0 = some y → va_P D vwCl (wX7 cI cZ cII aS S_thrown S_s S_aside S_saved S_savedMany S_text S_length S_fetched S_predicted S_fetchedMany S_fetchedWay S_spot S_isWrong S_executedByText ++ []) H → va_D A (wX7 cI cZ cII aS S_thrown S_s S_aside S_saved S_savedMany S_text S_length S_fetched S_predicted S_fetchedMany S_fetchedWay S_spot S_isWrong S_executedByText ++ []) → va_S A s.heap H locs → lv_has ls 5 [(0, .ref (aS 0)), (1, .int x1), (2, .int x2), (3, .int x3)] → W p l e ({ frames := 5, cells := 0, slots := 0, locals := 110 } : Room) s m args below meth c H locs 0 0 Q (F0 m 23 ls [.int k0]) := by
    intro S_thrown k0 H locs ls hf hP hD hS hl
    unfold m_X7_line_23 at hf
    refine lv_istore (lv' := [(4, .int k0), (0, .ref (aS 0)), (1, .int x1), (2, .int x2), (3, .int x3)]) hx hb dX7_line_23 hl (by decide) rfl (fun ls hl => ?_)
    refine lv_aload_n hx hb dX7_line_25 rfl (lv_at hl 1 rfl) ?_
    refine lv_iload hx hb dX7_line_26 (lv_at hl 0 rfl) ?_
    refine lv_if_ne (tgt := 35) hx hb dX7_line_28 (by decide) (fun c28 => ?_) (fun c28 => ?_)
    · have hf := if_f c28 hf
      refine lv_iload_n hx hb dX7_line_35 rfl (lv_at hl 4 rfl) ?_
      refine lv_iconst (v := 0) hx hb dX7_line_36 (by decide) ?_
      refine lv_bipush (v := 10) hx hb dX7_line_37 (by decide) ?_
      obtain ⟨y39, h39, hf⟩ := bn_t hf
      refine z_ai (x := []) (b := ([] : va_W)) (y := wX7 cI cZ cII aS S_thrown S_s S_aside S_saved S_savedMany S_text S_length S_fetched S_predicted S_fetchedMany S_fetchedWay S_spot S_isWrong S_executedByText ++ []) (b1 := ([] : va_W)) (wsn := wX7 cI cZ cII aS S_thrown S_s S_aside S_saved S_savedMany S_text S_length S_fetched S_predicted S_fetchedMany S_fetchedWay S_spot S_isWrong S_executedByText ++ []) (va_runS (As := [.int x3, .int (0 : Int32), .int (10 : Int32)]) (rest := [.ref (aS 0)]) ⟨hx, hb, hml, hown, hts⟩ (c_X7_in l D cI cZ cII cJ cM x3 (0 : Int32) (10 : Int32) H.size y39 h39) (va_cwS 3 hts gX7_line_X7_in rfl rfl rfl (by decide +kernel) ⟨Nat.le_of_ble_eq_true rfl, Nat.le_of_ble_eq_true rfl⟩) (pz_S (x := []) (b := ([] : va_W)) (y := wX7 cI cZ cII aS S_thrown S_s S_aside S_saved S_savedMany S_text S_length S_fetched S_predicted S_fetchedMany S_fetchedWay S_spot S_isWrong S_executedByText ++ []) hK hN hP hD (by simp only [List.append_assoc, List.nil_append, List.append_nil])) rfl rfl hl.1 rfl (lv_room (Nat.le_of_ble_eq_true rfl)) dX7_line_39 ⟨Nat.le_of_ble_eq_true rfl, Nat.le_of_ble_eq_true rfl⟩) hP hD hS hA (by simp only [List.append_assoc, List.nil_append, List.append_nil]) (by simp only [List.append_assoc, List.nil_append, List.append_nil]) (fun H locs hP hD hS => ?_)
      refine lv_if_eq (tgt := 49) hx hb dX7_line_42 (by decide) (fun c42 => ?_) (fun c42 => ?_)
      · have hf := if_t c42 hf
        refine lv_iconst (v := 2) hx hb dX7_line_49 (by decide) ?_
        exact J50 S_thrown (2 : Int32) _ _ _ hf hP hD hS (lv_sub hl [1, 2, 3, 4] rfl)
      · have hf := if_f c42 hf
        refine lv_iconst (v := 0) hx hb dX7_line_45 (by decide) ?_
        refine lv_goto (tgt := 50) hx hb dX7_line_46 (by decide) ?_
        exact J50 S_thrown (0 : Int32) _ _ _ hf hP hD hS (lv_sub hl [1, 2, 3, 4] rfl)
    · have hf := if_t c28 hf
      refine lv_iconst (v := 1) hx hb dX7_line_31 (by decide) ?_
      refine lv_goto (tgt := 50) hx hb dX7_line_32 (by decide) ?_
      exact J50 S_thrown (1 : Int32) _ _ _ hf hP hD hS (lv_sub hl [1, 2, 3, 4] rfl)
  have J22 : ∀ (S_thrown : Int32) (H : Heap) (locs : List Loc) (ls : Array Slot), m_X7_line_22 S_s x1 x2 x3 S_thrown = some y → va_P D vwCl (wX7 cI cZ cII aS S_thrown S_s S_aside S_saved S_savedMany S_text S_length S_fetched S_predicted S_fetchedMany S_fetchedWay S_spot S_isWrong S_executedByText ++ []) H → va_D A (wX7 cI cZ cII aS S_thrown S_s S_aside S_saved S_savedMany S_text S_length S_fetched S_predicted S_fetchedMany S_fetchedWay S_spot S_isWrong S_executedByText ++ []) → va_S A s.heap H locs → lv_has ls 5 [(0, .ref (aS 0)), (1, .int x1), (2, .int x2), (3, .int x3)] → W p l e ({ frames := 5, cells := 0, slots := 0, locals := 110 } : Room) s m args below meth c H locs 0 0 Q (F0 m 22 ls []) := by
    intro S_thrown H locs ls hf hP hD hS hl
    unfold m_X7_line_22 at hf
    refine lv_iconst (v := 0) hx hb dX7_line_22 (by decide) ?_
    exact J23 S_thrown (0 : Int32) _ _ _ hf hP hD hS (lv_sub hl [0, 1, 2, 3] rfl)
  unfold m_X7_line at hf
  refine lv_iload_n hx hb dX7_line_0 rfl (lv_at hl 1 rfl) ?_
  refine lv_iconst (v := 0) hx hb dX7_line_1 (by decide) ?_
  refine lv_iconst (v := 3) hx hb dX7_line_2 (by decide) ?_
  obtain ⟨y3, h3, hf⟩ := bn_t hf
  refine z_ai (x := []) (b := ([] : va_W)) (y := wX7 cI cZ cII aS S_thrown S_s S_aside S_saved S_savedMany S_text S_length S_fetched S_predicted S_fetchedMany S_fetchedWay S_spot S_isWrong S_executedByText ++ []) (b1 := ([] : va_W)) (wsn := wX7 cI cZ cII aS S_thrown S_s S_aside S_saved S_savedMany S_text S_length S_fetched S_predicted S_fetchedMany S_fetchedWay S_spot S_isWrong S_executedByText ++ []) (va_runS (As := [.int x1, .int (0 : Int32), .int (3 : Int32)]) (rest := []) ⟨hx, hb, hml, hown, hts⟩ (c_X7_in l D cI cZ cII cJ cM x1 (0 : Int32) (3 : Int32) H.size y3 h3) (va_cwS 3 hts gX7_line_X7_in rfl rfl rfl (by decide +kernel) ⟨Nat.le_of_ble_eq_true rfl, Nat.le_of_ble_eq_true rfl⟩) (pz_S (x := []) (b := ([] : va_W)) (y := wX7 cI cZ cII aS S_thrown S_s S_aside S_saved S_savedMany S_text S_length S_fetched S_predicted S_fetchedMany S_fetchedWay S_spot S_isWrong S_executedByText ++ []) hK hN hP hD (by simp only [List.append_assoc, List.nil_append, List.append_nil])) rfl rfl hl.1 rfl (lv_room (Nat.le_of_ble_eq_true rfl)) dX7_line_3 ⟨Nat.le_of_ble_eq_true rfl, Nat.le_of_ble_eq_true rfl⟩) hP hD hS hA (by simp only [List.append_assoc, List.nil_append, List.append_nil]) (by simp only [List.append_assoc, List.nil_append, List.append_nil]) (fun H locs hP hD hS => ?_)
  refine lv_if_eq (tgt := 22) hx hb dX7_line_6 (by decide) (fun c6 => ?_) (fun c6 => ?_)
  · have hf := if_t c6 hf
    exact J22 S_thrown _ _ _ hf hP hD hS (lv_sub hl [0, 1, 2, 3] rfl)
  · have hf := if_f c6 hf
    refine lv_iload_n hx hb dX7_line_9 rfl (lv_at hl 2 rfl) ?_
    refine lv_iconst (v := 0) hx hb dX7_line_10 (by decide) ?_
    refine lv_iconst (v := 1) hx hb dX7_line_11 (by decide) ?_
    obtain ⟨y12, h12, hf⟩ := bn_t hf
    refine z_ai (x := []) (b := ([] : va_W)) (y := wX7 cI cZ cII aS S_thrown S_s S_aside S_saved S_savedMany S_text S_length S_fetched S_predicted S_fetchedMany S_fetchedWay S_spot S_isWrong S_executedByText ++ []) (b1 := ([] : va_W)) (wsn := wX7 cI cZ cII aS S_thrown S_s S_aside S_saved S_savedMany S_text S_length S_fetched S_predicted S_fetchedMany S_fetchedWay S_spot S_isWrong S_executedByText ++ []) (va_runS (As := [.int x2, .int (0 : Int32), .int (1 : Int32)]) (rest := []) ⟨hx, hb, hml, hown, hts⟩ (c_X7_in l D cI cZ cII cJ cM x2 (0 : Int32) (1 : Int32) H.size y12 h12) (va_cwS 3 hts gX7_line_X7_in rfl rfl rfl (by decide +kernel) ⟨Nat.le_of_ble_eq_true rfl, Nat.le_of_ble_eq_true rfl⟩) (pz_S (x := []) (b := ([] : va_W)) (y := wX7 cI cZ cII aS S_thrown S_s S_aside S_saved S_savedMany S_text S_length S_fetched S_predicted S_fetchedMany S_fetchedWay S_spot S_isWrong S_executedByText ++ []) hK hN hP hD (by simp only [List.append_assoc, List.nil_append, List.append_nil])) rfl rfl hl.1 rfl (lv_room (Nat.le_of_ble_eq_true rfl)) dX7_line_12 ⟨Nat.le_of_ble_eq_true rfl, Nat.le_of_ble_eq_true rfl⟩) hP hD hS hA (by simp only [List.append_assoc, List.nil_append, List.append_nil]) (by simp only [List.append_assoc, List.nil_append, List.append_nil]) (fun H locs hP hD hS => ?_)
    refine lv_if_eq (tgt := 22) hx hb dX7_line_15 (by decide) (fun c15 => ?_) (fun c15 => ?_)
    · have hf := if_t c15 hf
      exact J22 S_thrown _ _ _ hf hP hD hS (lv_sub hl [0, 1, 2, 3] rfl)
    · have hf := if_f c15 hf
      refine lv_iconst (v := 1) hx hb dX7_line_18 (by decide) ?_
      refine lv_goto (tgt := 23) hx hb dX7_line_19 (by decide) ?_
      exact J23 S_thrown (1 : Int32) _ _ _ hf hP hD hS (lv_sub hl [0, 1, 2, 3] rfl)
set_option maxHeartbeats 8000000 in
set_option maxRecDepth 100000 in
theorem c_X7_pending (l : Launch) (D : va_G) (cI cZ cII cJ cM : ClassId) (aS : Nat → Nat) (S_thrown : Int32) (S_s : Nat → Int32) (S_aside : Nat → Int32) (S_saved : Nat → Int32) (S_savedMany : Int32) (S_text : Nat → Int32) (S_length : Int32) (S_fetched : Nat → Int32) (S_predicted : Nat → Int32) (S_fetchedMany : Int32) (S_fetchedWay : Int32) (S_spot : Int32) (S_isWrong : Int32) (S_executedByText : Int32) (x1 : Int32) (sz : Nat) (y : (Int32) × (Int32)) (hf : m_X7_pending S_s S_thrown x1 = some y) : Met l yX7_pending wsX7_pending ({ frames := 1, cells := 0, slots := 0, locals := 21 } : Room) (va_Pc [.ref (aS 0), .int x1] (pzPre D (zT cI cZ cII cJ cM) (wX7 cI cZ cII aS S_thrown S_s S_aside S_saved S_savedMany S_text S_length S_fetched S_predicted S_fetchedMany S_fetchedWay S_spot S_isWrong S_executedByText ++ []) sz)) (va_Qi (fun v (_ : Unit) => v = y.1) (fun _ t => pzB D (zT cI cZ cII cJ cM) (va_A (wX7 cI cZ cII aS S_thrown S_s S_aside S_saved S_savedMany S_text S_length S_fetched S_predicted S_fetchedMany S_fetchedWay S_spot S_isWrong S_executedByText ++ []) sz) (wX7 cI cZ cII aS y.2 S_s S_aside S_saved S_savedMany S_text S_length S_fetched S_predicted S_fetchedMany S_fetchedWay S_spot S_isWrong S_executedByText ++ []) t) (va_A (wX7 cI cZ cII aS S_thrown S_s S_aside S_saved S_savedMany S_text S_length S_fetched S_predicted S_fetchedMany S_fetchedWay S_spot S_isWrong S_executedByText ++ []) sz)) 0 0 (va_A (wX7 cI cZ cII aS S_thrown S_s S_aside S_saved S_savedMany S_text S_length S_fetched S_predicted S_fetchedMany S_fetchedWay S_spot S_isWrong S_executedByText ++ []) sz) := by
  refine z_meti (cc := cX7_pending) (maxL := 2) (by decide) rfl (Nat.le_of_ble_eq_true rfl) ?_
  intro p e s m args below meth c A ls Q H locs F hP hD hS hl hret
  obtain ⟨hx, hb, hml, hown, hts, hN, hK, hA⟩ := F
  have hown : s.vm.findClass RX7 = some m.cls := hown
  have hl : lv_has ls 2 [(0, .ref (aS 0)), (1, .int x1)] := hl
  have inX7 : ∀ w ∈ u_ws RX7 TX7 14, w ∈ wsX7_pending := by decide +kernel
  have kX7_7 := hts (.fieldLink RX7 7 "TraceCacheModel" "s" "[I") (by decide +kernel)
  have J44 : ∀ (S_thrown : Int32) (k0 : Int32) (H : Heap) (locs : List Loc) (ls : Array Slot), m_X7_pending_44 S_s x1 S_thrown k0 = some y → va_P D vwCl (wX7 cI cZ cII aS S_thrown S_s S_aside S_saved S_savedMany S_text S_length S_fetched S_predicted S_fetchedMany S_fetchedWay S_spot S_isWrong S_executedByText ++ []) H → va_D A (wX7 cI cZ cII aS S_thrown S_s S_aside S_saved S_savedMany S_text S_length S_fetched S_predicted S_fetchedMany S_fetchedWay S_spot S_isWrong S_executedByText ++ []) → va_S A s.heap H locs → lv_has ls 2 [] → W p l e ({ frames := 1, cells := 0, slots := 0, locals := 21 } : Room) s m args below meth c H locs 0 0 Q (F0 m 44 ls [.int k0]) := by
    intro S_thrown k0 H locs ls hf hP hD hS hl
    unfold m_X7_pending_44 at hf
    obtain rfl := Option.some.inj hf
    exact hret _ _ _ _ _ dX7_pending_44 rfl hP hD hS
  have J10 : ∀ (S_thrown : Int32) (k1 : Int32) (H : Heap) (locs : List Loc) (ls : Array Slot), m_X7_pending_10 S_s x1 S_thrown k1 = some y → va_P D vwCl (wX7 cI cZ cII aS S_thrown S_s S_aside S_saved S_savedMany S_text S_length S_fetched S_predicted S_fetchedMany S_fetchedWay S_spot S_isWrong S_executedByText ++ []) H → va_D A (wX7 cI cZ cII aS S_thrown S_s S_aside S_saved S_savedMany S_text S_length S_fetched S_predicted S_fetchedMany S_fetchedWay S_spot S_isWrong S_executedByText ++ []) → va_S A s.heap H locs → lv_has ls 2 [(0, .ref (aS 0)), (1, .int x1)] → W p l e ({ frames := 1, cells := 0, slots := 0, locals := 21 } : Room) s m args below meth c H locs 0 0 Q (F0 m 10 ls [.int k1, .ref (aS 0)]) := by
    intro S_thrown k1 H locs ls hf hP hD hS hl
    unfold m_X7_pending_10 at hf
    obtain ⟨y10, h10, hf⟩ := bn_t hf
    refine z_ai (x := []) (b := wX7 cI cZ cII aS S_thrown S_s S_aside S_saved S_savedMany S_text S_length S_fetched S_predicted S_fetchedMany S_fetchedWay S_spot S_isWrong S_executedByText ++ []) (y := ([] : va_W)) (b1 := wX7 cI cZ cII aS y10.2 S_s S_aside S_saved S_savedMany S_text S_length S_fetched S_predicted S_fetchedMany S_fetchedWay S_spot S_isWrong S_executedByText ++ []) (wsn := wX7 cI cZ cII aS y10.2 S_s S_aside S_saved S_savedMany S_text S_length S_fetched S_predicted S_fetchedMany S_fetchedWay S_spot S_isWrong S_executedByText ++ []) (va_runV (As := [.int k1]) (rest := []) ⟨hx, hb, hml, hown, hts⟩ (c_X7_holds l D cI cZ cII cJ cM aS S_thrown S_s S_aside S_saved S_savedMany S_text S_length S_fetched S_predicted S_fetchedMany S_fetchedWay S_spot S_isWrong S_executedByText k1 H.size y10 h10) (cwV 1 hts gX7_pending_X7_holds rfl rfl rfl (by decide +kernel) ⟨Nat.le_of_ble_eq_true rfl, Nat.le_of_ble_eq_true rfl⟩) (pz_V (x := []) (b := wX7 cI cZ cII aS S_thrown S_s S_aside S_saved S_savedMany S_text S_length S_fetched S_predicted S_fetchedMany S_fetchedWay S_spot S_isWrong S_executedByText ++ []) (y := ([] : va_W)) (C := RX7) (T := TX7) (N := 14) (ci := 7) (As := [.int k1]) (bi := 0) hK hN hP hD (by simp only [List.append_assoc, List.nil_append, List.append_nil]) rfl rfl) rfl rfl hl.1 rfl (lv_room (Nat.le_of_ble_eq_true rfl)) dX7_pending_10 ⟨Nat.le_of_ble_eq_true rfl, Nat.le_of_ble_eq_true rfl⟩) hP hD hS hA (by simp only [List.append_assoc, List.nil_append, List.append_nil]) (by simp only [List.append_assoc, List.nil_append, List.append_nil]) (fun H locs hP hD hS => ?_)
    refine lv_if_ne (tgt := 18) hx hb dX7_pending_13 (by decide) (fun c13 => ?_) (fun c13 => ?_)
    · have hf := if_f c13 hf
      refine lv_iload_n hx hb dX7_pending_18 rfl (lv_at hl 1 rfl) ?_
      refine lv_aload_n hx hb dX7_pending_19 rfl (lv_at hl 0 rfl) ?_
      refine va_get (D := D) (ci := 7) (v := .ref (aS 1)) (C := RX7) (T := TX7) (N := 14) hx hb hts inX7 hown hK hP 0 rfl rfl 1 (by decide) kX7_7 (fun _ h9 => h9) rfl dX7_pending_20 ?_
      refine lv_sipush (v := 369) hx hb dX7_pending_23 (by decide) ?_
      obtain ⟨g26, hf⟩ := gd_t hf
      refine va_iald hx hb hK hP 1 0 rfl rfl (inb_t g26) dX7_pending_26 ?_
      refine lv_icmp_ge (tgt := 43) hx hb dX7_pending_27 (by decide) (fun c27 => ?_) (fun c27 => ?_)
      · have hf := if_t c27 hf
        refine lv_iconst (v := -1) hx hb dX7_pending_43 (by decide) ?_
        exact J44 y10.2 (-1 : Int32) _ _ _ hf hP hD hS (lv_sub hl [] rfl)
      · have hf := if_f c27 hf
        refine lv_aload_n hx hb dX7_pending_30 rfl (lv_at hl 0 rfl) ?_
        refine va_get (D := D) (ci := 7) (v := .ref (aS 1)) (C := RX7) (T := TX7) (N := 14) hx hb hts inX7 hown hK hP 0 rfl rfl 1 (by decide) kX7_7 (fun _ h9 => h9) rfl dX7_pending_31 ?_
        refine lv_sipush (v := 370) hx hb dX7_pending_34 (by decide) ?_
        refine lv_iload_n hx hb dX7_pending_37 rfl (lv_at hl 1 rfl) ?_
        refine lv_iadd hx hb dX7_pending_38 ?_
        refine lv_topi (fun v39 ev39 => ?_)
        have hf := bd_t ev39 hf
        obtain ⟨g39, hf⟩ := gd_t hf
        refine va_iald hx hb hK hP 1 0 rfl rfl (inb_t g39) dX7_pending_39 ?_
        refine lv_goto (tgt := 44) hx hb dX7_pending_40 (by decide) ?_
        exact J44 y10.2 (S_s (Int32.toNatClampNeg v39)) _ _ _ hf hP hD hS (lv_sub hl [] rfl)
    · have hf := if_t c13 hf
      refine lv_iconst (v := 0) hx hb dX7_pending_16 (by decide) ?_
      obtain rfl := Option.some.inj hf
      exact hret _ _ _ _ _ dX7_pending_17 rfl hP hD hS
  unfold m_X7_pending at hf
  refine lv_aload_n hx hb dX7_pending_0 rfl (lv_at hl 0 rfl) ?_
  refine lv_iload_n hx hb dX7_pending_1 rfl (lv_at hl 1 rfl) ?_
  refine lv_if_ge (tgt := 9) hx hb dX7_pending_2 (by decide) (fun c2 => ?_) (fun c2 => ?_)
  · have hf := if_t c2 hf
    refine lv_iconst (v := 0) hx hb dX7_pending_9 (by decide) ?_
    exact J10 S_thrown (0 : Int32) _ _ _ hf hP hD hS (lv_sub hl [0, 1] rfl)
  · have hf := if_f c2 hf
    refine lv_iconst (v := 1) hx hb dX7_pending_5 (by decide) ?_
    refine lv_goto (tgt := 10) hx hb dX7_pending_6 (by decide) ?_
    exact J10 S_thrown (1 : Int32) _ _ _ hf hP hD hS (lv_sub hl [0, 1] rfl)
set_option maxHeartbeats 8000000 in
set_option maxRecDepth 100000 in
theorem c_X7_lines (l : Launch) (D : va_G) (cI cZ cII cJ cM : ClassId) (aS : Nat → Nat) (S_thrown : Int32) (S_s : Nat → Int32) (S_aside : Nat → Int32) (S_saved : Nat → Int32) (S_savedMany : Int32) (S_text : Nat → Int32) (S_length : Int32) (S_fetched : Nat → Int32) (S_predicted : Nat → Int32) (S_fetchedMany : Int32) (S_fetchedWay : Int32) (S_spot : Int32) (S_isWrong : Int32) (S_executedByText : Int32) (sz : Nat) (y : (Int32) × (Int32)) (hf : m_X7_lines S_s S_thrown = some y) : Met l yX7_lines wsX7_lines ({ frames := 2, cells := 0, slots := 0, locals := 43 } : Room) (va_Pc [.ref (aS 0)] (pzPre D (zT cI cZ cII cJ cM) (wX7 cI cZ cII aS S_thrown S_s S_aside S_saved S_savedMany S_text S_length S_fetched S_predicted S_fetchedMany S_fetchedWay S_spot S_isWrong S_executedByText ++ []) sz)) (va_Qi (fun v (_ : Unit) => v = y.1) (fun _ t => pzB D (zT cI cZ cII cJ cM) (va_A (wX7 cI cZ cII aS S_thrown S_s S_aside S_saved S_savedMany S_text S_length S_fetched S_predicted S_fetchedMany S_fetchedWay S_spot S_isWrong S_executedByText ++ []) sz) (wX7 cI cZ cII aS y.2 S_s S_aside S_saved S_savedMany S_text S_length S_fetched S_predicted S_fetchedMany S_fetchedWay S_spot S_isWrong S_executedByText ++ []) t) (va_A (wX7 cI cZ cII aS S_thrown S_s S_aside S_saved S_savedMany S_text S_length S_fetched S_predicted S_fetchedMany S_fetchedWay S_spot S_isWrong S_executedByText ++ []) sz)) 0 0 (va_A (wX7 cI cZ cII aS S_thrown S_s S_aside S_saved S_savedMany S_text S_length S_fetched S_predicted S_fetchedMany S_fetchedWay S_spot S_isWrong S_executedByText ++ []) sz) := by
  refine z_meti (cc := cX7_lines) (maxL := 1) (by decide) rfl (Nat.le_of_ble_eq_true rfl) ?_
  intro p e s m args below meth c A ls Q H locs F hP hD hS hl hret
  obtain ⟨hx, hb, hml, hown, hts, hN, hK, hA⟩ := F
  have hown : s.vm.findClass RX7 = some m.cls := hown
  have hl : lv_has ls 1 [(0, .ref (aS 0))] := hl
  have inX7 : ∀ w ∈ u_ws RX7 TX7 14, w ∈ wsX7_lines := by decide +kernel
  have kX7_32 := hts (.fieldLink RX7 32 "TraceCacheModel" "thrown" "I") (by decide +kernel)
  unfold m_X7_lines at hf
  refine lv_aload_n hx hb dX7_lines_0 rfl (lv_at hl 0 rfl) ?_
  refine lv_iconst (v := 0) hx hb dX7_lines_1 (by decide) ?_
  refine va_put (D := D) (ci := 7) (v := .int (0 : Int32)) (ty := .int) (C := RX7) (T := TX7) (N := 14) hx hb hts inX7 tyX7 tyX7_ok nmX7 hown hK hP hD hS 0 rfl rfl 0 (by decide) kX7_32 (fun _ h9 => h9) rfl (by decide +kernel) rfl rfl (Nat.le_of_ble_eq_true rfl) dX7_lines_2 (fun H locs hP hD hS => ?_)
  have hP : va_P D vwCl (wX7 cI cZ cII aS (0 : Int32) S_s S_aside S_saved S_savedMany S_text S_length S_fetched S_predicted S_fetchedMany S_fetchedWay S_spot S_isWrong S_executedByText ++ []) H := hP
  have hD : va_D A (wX7 cI cZ cII aS (0 : Int32) S_s S_aside S_saved S_savedMany S_text S_length S_fetched S_predicted S_fetchedMany S_fetchedWay S_spot S_isWrong S_executedByText ++ []) := hD
  refine lv_aload_n hx hb dX7_lines_5 rfl (lv_at hl 0 rfl) ?_
  obtain ⟨y6, h6, hf⟩ := bn_t hf
  refine z_ai (x := []) (b := wX7 cI cZ cII aS (0 : Int32) S_s S_aside S_saved S_savedMany S_text S_length S_fetched S_predicted S_fetchedMany S_fetchedWay S_spot S_isWrong S_executedByText ++ []) (y := ([] : va_W)) (b1 := wX7 cI cZ cII aS (0 : Int32) S_s S_aside S_saved S_savedMany S_text S_length S_fetched S_predicted S_fetchedMany S_fetchedWay S_spot S_isWrong S_executedByText ++ []) (wsn := wX7 cI cZ cII aS (0 : Int32) S_s S_aside S_saved S_savedMany S_text S_length S_fetched S_predicted S_fetchedMany S_fetchedWay S_spot S_isWrong S_executedByText ++ []) (va_runV (As := []) (rest := []) ⟨hx, hb, hml, hown, hts⟩ (c_X7_linesNow l D cI cZ cII cJ cM aS (0 : Int32) S_s S_aside S_saved S_savedMany S_text S_length S_fetched S_predicted S_fetchedMany S_fetchedWay S_spot S_isWrong S_executedByText H.size y6 h6) (cwV 0 hts gX7_lines_X7_linesNow rfl rfl rfl (by decide +kernel) ⟨Nat.le_of_ble_eq_true rfl, Nat.le_of_ble_eq_true rfl⟩) (pz_V (x := []) (b := wX7 cI cZ cII aS (0 : Int32) S_s S_aside S_saved S_savedMany S_text S_length S_fetched S_predicted S_fetchedMany S_fetchedWay S_spot S_isWrong S_executedByText ++ []) (y := ([] : va_W)) (C := RX7) (T := TX7) (N := 14) (ci := 7) (As := []) (bi := 0) hK hN hP hD (by simp only [List.append_assoc, List.nil_append, List.append_nil]) rfl rfl) rfl rfl hl.1 rfl (lv_room (Nat.le_of_ble_eq_true rfl)) dX7_lines_6 ⟨Nat.le_of_ble_eq_true rfl, Nat.le_of_ble_eq_true rfl⟩) hP hD hS hA (by simp only [List.append_assoc, List.nil_append, List.append_nil]) (by simp only [List.append_assoc, List.nil_append, List.append_nil]) (fun H locs hP hD hS => ?_)
  obtain rfl := Option.some.inj hf
  exact hret _ _ _ _ _ dX7_lines_9 rfl hP hD hS
set_option maxHeartbeats 8000000 in
set_option maxRecDepth 100000 in
theorem c_X7_linesWith (l : Launch) (D : va_G) (cI cZ cII cJ cM : ClassId) (aS : Nat → Nat) (S_thrown : Int32) (S_s : Nat → Int32) (S_aside : Nat → Int32) (S_saved : Nat → Int32) (S_savedMany : Int32) (S_text : Nat → Int32) (S_length : Int32) (S_fetched : Nat → Int32) (S_predicted : Nat → Int32) (S_fetchedMany : Int32) (S_fetchedWay : Int32) (S_spot : Int32) (S_isWrong : Int32) (S_executedByText : Int32) (x1 : Int32) (sz : Nat) (y : (Int32) × (Int32)) (hf : m_X7_linesWith S_s S_thrown x1 = some y) : Met l yX7_linesWith wsX7_linesWith ({ frames := 2, cells := 0, slots := 0, locals := 45 } : Room) (va_Pc [.ref (aS 0), .int x1] (pzPre D (zT cI cZ cII cJ cM) (wX7 cI cZ cII aS S_thrown S_s S_aside S_saved S_savedMany S_text S_length S_fetched S_predicted S_fetchedMany S_fetchedWay S_spot S_isWrong S_executedByText ++ []) sz)) (va_Qi (fun v (_ : Unit) => v = y.1) (fun _ t => pzB D (zT cI cZ cII cJ cM) (va_A (wX7 cI cZ cII aS S_thrown S_s S_aside S_saved S_savedMany S_text S_length S_fetched S_predicted S_fetchedMany S_fetchedWay S_spot S_isWrong S_executedByText ++ []) sz) (wX7 cI cZ cII aS y.2 S_s S_aside S_saved S_savedMany S_text S_length S_fetched S_predicted S_fetchedMany S_fetchedWay S_spot S_isWrong S_executedByText ++ []) t) (va_A (wX7 cI cZ cII aS S_thrown S_s S_aside S_saved S_savedMany S_text S_length S_fetched S_predicted S_fetchedMany S_fetchedWay S_spot S_isWrong S_executedByText ++ []) sz)) 0 0 (va_A (wX7 cI cZ cII aS S_thrown S_s S_aside S_saved S_savedMany S_text S_length S_fetched S_predicted S_fetchedMany S_fetchedWay S_spot S_isWrong S_executedByText ++ []) sz) := by
  refine z_meti (cc := cX7_linesWith) (maxL := 4) (by decide) rfl (Nat.le_of_ble_eq_true rfl) ?_
  intro p e s m args below meth c A ls Q H locs F hP hD hS hl hret
  obtain ⟨hx, hb, hml, hown, hts, hN, hK, hA⟩ := F
  have hown : s.vm.findClass RX7 = some m.cls := hown
  have hl : lv_has ls 4 [(0, .ref (aS 0)), (1, .int x1)] := hl
  have J25 : ∀ (n25 : Nat), ∀ (S_thrown : Int32) (x2 : Int32) (x3 : Int32) (H : Heap) (locs : List Loc) (ls : Array Slot), m_X7_linesWith_25 S_s x1 n25 S_thrown x2 x3 = some y → va_P D vwCl (wX7 cI cZ cII aS S_thrown S_s S_aside S_saved S_savedMany S_text S_length S_fetched S_predicted S_fetchedMany S_fetchedWay S_spot S_isWrong S_executedByText ++ []) H → va_D A (wX7 cI cZ cII aS S_thrown S_s S_aside S_saved S_savedMany S_text S_length S_fetched S_predicted S_fetchedMany S_fetchedWay S_spot S_isWrong S_executedByText ++ []) → va_S A s.heap H locs → lv_has ls 4 [(0, .ref (aS 0)), (1, .int x1), (2, .int x2), (3, .int x3)] → W p l e ({ frames := 2, cells := 0, slots := 0, locals := 45 } : Room) s m args below meth c H locs 0 0 Q (F0 m 25 ls []) := by
    intro n25
    induction n25 with
    | zero =>
      intro S_thrown x2 x3 H locs ls hf hP hD hS hl
      rw [m_X7_linesWith_25] at hf
      cases hf
    | succ n25 ih25 =>
      have J46 : ∀ (S_thrown : Int32) (x3 : Int32) (k0 : Int32) (k1 : Int32) (H : Heap) (locs : List Loc) (ls : Array Slot), m_X7_linesWith_46 S_s x1 (m_X7_linesWith_25 S_s x1 n25) S_thrown x3 k0 k1 = some y → va_P D vwCl (wX7 cI cZ cII aS S_thrown S_s S_aside S_saved S_savedMany S_text S_length S_fetched S_predicted S_fetchedMany S_fetchedWay S_spot S_isWrong S_executedByText ++ []) H → va_D A (wX7 cI cZ cII aS S_thrown S_s S_aside S_saved S_savedMany S_text S_length S_fetched S_predicted S_fetchedMany S_fetchedWay S_spot S_isWrong S_executedByText ++ []) → va_S A s.heap H locs → lv_has ls 4 [(0, .ref (aS 0)), (1, .int x1), (3, .int x3)] → W p l e ({ frames := 2, cells := 0, slots := 0, locals := 45 } : Room) s m args below meth c H locs 0 0 Q (F0 m 46 ls [.int k1, .int k0]) := by
        intro S_thrown x3 k0 k1 H locs ls hf hP hD hS hl
        unfold m_X7_linesWith_46 at hf
        refine lv_iadd hx hb dX7_linesWith_46 ?_
        refine lv_topi (fun v47 ev47 => ?_)
        have hf := bd_t ev47 hf
        refine lv_istore_n (lv' := [(2, .int v47), (0, .ref (aS 0)), (1, .int x1), (3, .int x3)]) hx hb dX7_linesWith_47 rfl hl (by decide) rfl (fun ls hl => ?_)
        obtain ⟨v48, ev48⟩ : ∃ z : Int32, z = x3 + (1 : Int32) := ⟨_, rfl⟩
        have hf := bd_t ev48 hf
        refine lv_iinc (v := v48) (lv' := [(3, .int v48), (2, .int v47), (0, .ref (aS 0)), (1, .int x1)]) hx hb dX7_linesWith_48 hl (k := 3) rfl (by rw [ev48]; rfl) (by decide) rfl (fun ls hl => ?_)
        refine lv_goto (tgt := 25) hx hb dX7_linesWith_51 (by decide) ?_
        exact ih25 S_thrown v47 v48 _ _ _ hf hP hD hS (lv_sub hl [2, 3, 1, 0] rfl)
      intro S_thrown x2 x3 H locs ls hf hP hD hS hl
      rw [m_X7_linesWith_25] at hf
      refine lv_iload_n hx hb dX7_linesWith_25 rfl (lv_at hl 3 rfl) ?_
      refine lv_bipush (v := 8) hx hb dX7_linesWith_26 (by decide) ?_
      refine lv_icmp_ge (tgt := 54) hx hb dX7_linesWith_28 (by decide) (fun c28 => ?_) (fun c28 => ?_)
      · have hf := if_t c28 hf
        refine lv_iload_n hx hb dX7_linesWith_54 rfl (lv_at hl 2 rfl) ?_
        obtain rfl := Option.some.inj hf
        exact hret _ _ _ _ _ dX7_linesWith_55 rfl hP hD hS
      · have hf := if_f c28 hf
        refine lv_iload_n hx hb dX7_linesWith_31 rfl (lv_at hl 2 rfl) ?_
        refine lv_aload_n hx hb dX7_linesWith_32 rfl (lv_at hl 0 rfl) ?_
        refine lv_iload_n hx hb dX7_linesWith_33 rfl (lv_at hl 3 rfl) ?_
        refine lv_iload_n hx hb dX7_linesWith_34 rfl (lv_at hl 1 rfl) ?_
        obtain ⟨y35, h35, hf⟩ := bn_t hf
        refine z_ai (x := []) (b := wX7 cI cZ cII aS S_thrown S_s S_aside S_saved S_savedMany S_text S_length S_fetched S_predicted S_fetchedMany S_fetchedWay S_spot S_isWrong S_executedByText ++ []) (y := ([] : va_W)) (b1 := wX7 cI cZ cII aS S_thrown S_s S_aside S_saved S_savedMany S_text S_length S_fetched S_predicted S_fetchedMany S_fetchedWay S_spot S_isWrong S_executedByText ++ []) (wsn := wX7 cI cZ cII aS S_thrown S_s S_aside S_saved S_savedMany S_text S_length S_fetched S_predicted S_fetchedMany S_fetchedWay S_spot S_isWrong S_executedByText ++ []) (va_runV (As := [.int x3, .int x1]) (rest := [.int x2]) ⟨hx, hb, hml, hown, hts⟩ (c_X7_contains l D cI cZ cII cJ cM aS S_thrown S_s S_aside S_saved S_savedMany S_text S_length S_fetched S_predicted S_fetchedMany S_fetchedWay S_spot S_isWrong S_executedByText x3 x1 H.size y35 h35) (cwV 2 hts gX7_linesWith_X7_contains rfl rfl rfl (by decide +kernel) ⟨Nat.le_of_ble_eq_true rfl, Nat.le_of_ble_eq_true rfl⟩) (pz_V (x := []) (b := wX7 cI cZ cII aS S_thrown S_s S_aside S_saved S_savedMany S_text S_length S_fetched S_predicted S_fetchedMany S_fetchedWay S_spot S_isWrong S_executedByText ++ []) (y := ([] : va_W)) (C := RX7) (T := TX7) (N := 14) (ci := 7) (As := [.int x3, .int x1]) (bi := 0) hK hN hP hD (by simp only [List.append_assoc, List.nil_append, List.append_nil]) rfl rfl) rfl rfl hl.1 rfl (lv_room (Nat.le_of_ble_eq_true rfl)) dX7_linesWith_35 ⟨Nat.le_of_ble_eq_true rfl, Nat.le_of_ble_eq_true rfl⟩) hP hD hS hA (by simp only [List.append_assoc, List.nil_append, List.append_nil]) (by simp only [List.append_assoc, List.nil_append, List.append_nil]) (fun H locs hP hD hS => ?_)
        refine lv_if_eq (tgt := 45) hx hb dX7_linesWith_38 (by decide) (fun c38 => ?_) (fun c38 => ?_)
        · have hf := if_t c38 hf
          refine lv_iconst (v := 0) hx hb dX7_linesWith_45 (by decide) ?_
          exact J46 S_thrown x3 x2 (0 : Int32) _ _ _ hf hP hD hS (lv_sub hl [0, 1, 3] rfl)
        · have hf := if_f c38 hf
          refine lv_iconst (v := 1) hx hb dX7_linesWith_41 (by decide) ?_
          refine lv_goto (tgt := 46) hx hb dX7_linesWith_42 (by decide) ?_
          exact J46 S_thrown x3 x2 (1 : Int32) _ _ _ hf hP hD hS (lv_sub hl [0, 1, 3] rfl)
  have J13 : ∀ (S_thrown : Int32) (k1 : Int32) (H : Heap) (locs : List Loc) (ls : Array Slot), m_X7_linesWith_13 S_s x1 S_thrown k1 = some y → va_P D vwCl (wX7 cI cZ cII aS S_thrown S_s S_aside S_saved S_savedMany S_text S_length S_fetched S_predicted S_fetchedMany S_fetchedWay S_spot S_isWrong S_executedByText ++ []) H → va_D A (wX7 cI cZ cII aS S_thrown S_s S_aside S_saved S_savedMany S_text S_length S_fetched S_predicted S_fetchedMany S_fetchedWay S_spot S_isWrong S_executedByText ++ []) → va_S A s.heap H locs → lv_has ls 4 [(0, .ref (aS 0)), (1, .int x1)] → W p l e ({ frames := 2, cells := 0, slots := 0, locals := 45 } : Room) s m args below meth c H locs 0 0 Q (F0 m 13 ls [.int k1, .ref (aS 0)]) := by
    intro S_thrown k1 H locs ls hf hP hD hS hl
    unfold m_X7_linesWith_13 at hf
    obtain ⟨y13, h13, hf⟩ := bn_t hf
    refine z_ai (x := []) (b := wX7 cI cZ cII aS S_thrown S_s S_aside S_saved S_savedMany S_text S_length S_fetched S_predicted S_fetchedMany S_fetchedWay S_spot S_isWrong S_executedByText ++ []) (y := ([] : va_W)) (b1 := wX7 cI cZ cII aS y13.2 S_s S_aside S_saved S_savedMany S_text S_length S_fetched S_predicted S_fetchedMany S_fetchedWay S_spot S_isWrong S_executedByText ++ []) (wsn := wX7 cI cZ cII aS y13.2 S_s S_aside S_saved S_savedMany S_text S_length S_fetched S_predicted S_fetchedMany S_fetchedWay S_spot S_isWrong S_executedByText ++ []) (va_runV (As := [.int k1]) (rest := []) ⟨hx, hb, hml, hown, hts⟩ (c_X7_holds l D cI cZ cII cJ cM aS S_thrown S_s S_aside S_saved S_savedMany S_text S_length S_fetched S_predicted S_fetchedMany S_fetchedWay S_spot S_isWrong S_executedByText k1 H.size y13 h13) (cwV 1 hts gX7_linesWith_X7_holds rfl rfl rfl (by decide +kernel) ⟨Nat.le_of_ble_eq_true rfl, Nat.le_of_ble_eq_true rfl⟩) (pz_V (x := []) (b := wX7 cI cZ cII aS S_thrown S_s S_aside S_saved S_savedMany S_text S_length S_fetched S_predicted S_fetchedMany S_fetchedWay S_spot S_isWrong S_executedByText ++ []) (y := ([] : va_W)) (C := RX7) (T := TX7) (N := 14) (ci := 7) (As := [.int k1]) (bi := 0) hK hN hP hD (by simp only [List.append_assoc, List.nil_append, List.append_nil]) rfl rfl) rfl rfl hl.1 rfl (lv_room (Nat.le_of_ble_eq_true rfl)) dX7_linesWith_13 ⟨Nat.le_of_ble_eq_true rfl, Nat.le_of_ble_eq_true rfl⟩) hP hD hS hA (by simp only [List.append_assoc, List.nil_append, List.append_nil]) (by simp only [List.append_assoc, List.nil_append, List.append_nil]) (fun H locs hP hD hS => ?_)
    refine lv_if_ne (tgt := 21) hx hb dX7_linesWith_16 (by decide) (fun c16 => ?_) (fun c16 => ?_)
    · have hf := if_f c16 hf
      refine lv_iconst (v := 0) hx hb dX7_linesWith_21 (by decide) ?_
      refine lv_istore_n (lv' := [(2, .int (0 : Int32)), (0, .ref (aS 0)), (1, .int x1)]) hx hb dX7_linesWith_22 rfl hl (by decide) rfl (fun ls hl => ?_)
      refine lv_iconst (v := 0) hx hb dX7_linesWith_23 (by decide) ?_
      refine lv_istore_n (lv' := [(3, .int (0 : Int32)), (2, .int (0 : Int32)), (0, .ref (aS 0)), (1, .int x1)]) hx hb dX7_linesWith_24 rfl hl (by decide) rfl (fun ls hl => ?_)
      exact J25 4000 y13.2 (0 : Int32) (0 : Int32) _ _ _ hf hP hD hS (lv_sub hl [2, 3, 1, 0] rfl)
    · have hf := if_t c16 hf
      refine lv_iconst (v := 0) hx hb dX7_linesWith_19 (by decide) ?_
      obtain rfl := Option.some.inj hf
      exact hret _ _ _ _ _ dX7_linesWith_20 rfl hP hD hS
  unfold m_X7_linesWith at hf
  refine lv_aload_n hx hb dX7_linesWith_0 rfl (lv_at hl 0 rfl) ?_
  refine lv_iload_n hx hb dX7_linesWith_1 rfl (lv_at hl 1 rfl) ?_
  obtain ⟨y2, h2, hf⟩ := bn_t hf
  refine z_ai (x := []) (b := ([] : va_W)) (y := wX7 cI cZ cII aS S_thrown S_s S_aside S_saved S_savedMany S_text S_length S_fetched S_predicted S_fetchedMany S_fetchedWay S_spot S_isWrong S_executedByText ++ []) (b1 := ([] : va_W)) (wsn := wX7 cI cZ cII aS S_thrown S_s S_aside S_saved S_savedMany S_text S_length S_fetched S_predicted S_fetchedMany S_fetchedWay S_spot S_isWrong S_executedByText ++ []) (va_runS (As := [.int x1]) (rest := [.ref (aS 0)]) ⟨hx, hb, hml, hown, hts⟩ (c_X7_isAddress l D cI cZ cII cJ cM x1 H.size y2 h2) (va_cwS 1 hts gX7_linesWith_X7_isAddress rfl rfl rfl (by decide +kernel) ⟨Nat.le_of_ble_eq_true rfl, Nat.le_of_ble_eq_true rfl⟩) (pz_S (x := []) (b := ([] : va_W)) (y := wX7 cI cZ cII aS S_thrown S_s S_aside S_saved S_savedMany S_text S_length S_fetched S_predicted S_fetchedMany S_fetchedWay S_spot S_isWrong S_executedByText ++ []) hK hN hP hD (by simp only [List.append_assoc, List.nil_append, List.append_nil])) rfl rfl hl.1 rfl (lv_room (Nat.le_of_ble_eq_true rfl)) dX7_linesWith_2 ⟨Nat.le_of_ble_eq_true rfl, Nat.le_of_ble_eq_true rfl⟩) hP hD hS hA (by simp only [List.append_assoc, List.nil_append, List.append_nil]) (by simp only [List.append_assoc, List.nil_append, List.append_nil]) (fun H locs hP hD hS => ?_)
  refine lv_if_eq (tgt := 12) hx hb dX7_linesWith_5 (by decide) (fun c5 => ?_) (fun c5 => ?_)
  · have hf := if_t c5 hf
    refine lv_iconst (v := 1) hx hb dX7_linesWith_12 (by decide) ?_
    exact J13 S_thrown (1 : Int32) _ _ _ hf hP hD hS (lv_sub hl [0, 1] rfl)
  · have hf := if_f c5 hf
    refine lv_iconst (v := 0) hx hb dX7_linesWith_8 (by decide) ?_
    refine lv_goto (tgt := 13) hx hb dX7_linesWith_9 (by decide) ?_
    exact J13 S_thrown (0 : Int32) _ _ _ hf hP hD hS (lv_sub hl [0, 1] rfl)
set_option maxHeartbeats 8000000 in
set_option maxRecDepth 100000 in
theorem c_X7_wouldBe (l : Launch) (D : va_G) (cI cZ cII cJ cM : ClassId) (aS : Nat → Nat) (S_thrown : Int32) (S_s : Nat → Int32) (S_aside : Nat → Int32) (S_saved : Nat → Int32) (S_savedMany : Int32) (S_text : Nat → Int32) (S_length : Int32) (S_fetched : Nat → Int32) (S_predicted : Nat → Int32) (S_fetchedMany : Int32) (S_fetchedWay : Int32) (S_spot : Int32) (S_isWrong : Int32) (S_executedByText : Int32) (x1 : Int32) (sz : Nat) (y : (Int32) × (Nat → Int32) × (Nat → Int32) × (Nat → Int32) × (Nat → Int32) × (Int32) × (Int32)) (hf : m_X7_wouldBe S_s S_aside S_fetched S_predicted S_fetchedMany S_fetchedWay x1 = some y) : Met l yX7_wouldBe wsX7_wouldBe ({ frames := 6, cells := 0, slots := 0, locals := 135 } : Room) (va_Pc [.ref (aS 0), .int x1] (pzPre D (zT cI cZ cII cJ cM) (wX7 cI cZ cII aS S_thrown S_s S_aside S_saved S_savedMany S_text S_length S_fetched S_predicted S_fetchedMany S_fetchedWay S_spot S_isWrong S_executedByText ++ []) sz)) (va_Qi (fun v (_ : Unit) => v = y.1) (fun _ t => pzB D (zT cI cZ cII cJ cM) (va_A (wX7 cI cZ cII aS S_thrown S_s S_aside S_saved S_savedMany S_text S_length S_fetched S_predicted S_fetchedMany S_fetchedWay S_spot S_isWrong S_executedByText ++ []) sz) (wX7 cI cZ cII aS S_thrown y.2.1 y.2.2.1 S_saved S_savedMany S_text S_length y.2.2.2.1 y.2.2.2.2.1 y.2.2.2.2.2.1 y.2.2.2.2.2.2 S_spot S_isWrong S_executedByText ++ []) t) (va_A (wX7 cI cZ cII aS S_thrown S_s S_aside S_saved S_savedMany S_text S_length S_fetched S_predicted S_fetchedMany S_fetchedWay S_spot S_isWrong S_executedByText ++ []) sz)) 0 0 (va_A (wX7 cI cZ cII aS S_thrown S_s S_aside S_saved S_savedMany S_text S_length S_fetched S_predicted S_fetchedMany S_fetchedWay S_spot S_isWrong S_executedByText ++ []) sz) := by
  refine z_meti (cc := cX7_wouldBe) (maxL := 4) (by decide) rfl (Nat.le_of_ble_eq_true rfl) ?_
  intro p e s m args below meth c A ls Q H locs F hP hD hS hl hret
  obtain ⟨hx, hb, hml, hown, hts, hN, hK, hA⟩ := F
  have hown : s.vm.findClass RX7 = some m.cls := hown
  have hl : lv_has ls 4 [(0, .ref (aS 0)), (1, .int x1)] := hl
  have inX7 : ∀ w ∈ u_ws RX7 TX7 14, w ∈ wsX7_wouldBe := by decide +kernel
  have kX7_7 := hts (.fieldLink RX7 7 "TraceCacheModel" "s" "[I") (by decide +kernel)
  have kX7_13 := hts (.fieldLink RX7 13 "TraceCacheModel" "aside" "[I") (by decide +kernel)
  have kX7_77 := hts (.fieldLink RX7 77 "TraceCacheModel" "fetchedMany" "I") (by decide +kernel)
  have kX7_83 := hts (.fieldLink RX7 83 "TraceCacheModel" "fetchedWay" "I") (by decide +kernel)
  have J64 : ∀ (S_s : Nat → Int32) (S_aside : Nat → Int32) (S_fetched : Nat → Int32) (S_predicted : Nat → Int32) (S_fetchedMany : Int32) (S_fetchedWay : Int32) (k0 : Int32) (H : Heap) (locs : List Loc) (ls : Array Slot), m_X7_wouldBe_64 x1 S_s S_aside S_fetched S_predicted S_fetchedMany S_fetchedWay k0 = some y → va_P D vwCl (wX7 cI cZ cII aS S_thrown S_s S_aside S_saved S_savedMany S_text S_length S_fetched S_predicted S_fetchedMany S_fetchedWay S_spot S_isWrong S_executedByText ++ []) H → va_D A (wX7 cI cZ cII aS S_thrown S_s S_aside S_saved S_savedMany S_text S_length S_fetched S_predicted S_fetchedMany S_fetchedWay S_spot S_isWrong S_executedByText ++ []) → va_S A s.heap H locs → lv_has ls 4 [] → W p l e ({ frames := 6, cells := 0, slots := 0, locals := 135 } : Room) s m args below meth c H locs 0 0 Q (F0 m 64 ls [.int k0]) := by
    intro S_s S_aside S_fetched S_predicted S_fetchedMany S_fetchedWay k0 H locs ls hf hP hD hS hl
    unfold m_X7_wouldBe_64 at hf
    obtain rfl := Option.some.inj hf
    exact hret _ _ _ _ _ dX7_wouldBe_64 rfl hP hD hS
  unfold m_X7_wouldBe at hf
  refine lv_aload_n hx hb dX7_wouldBe_0 rfl (lv_at hl 0 rfl) ?_
  obtain ⟨y1, h1, hf⟩ := bn_t hf
  refine z_av (x := []) (b := wX7 cI cZ cII aS S_thrown S_s S_aside S_saved S_savedMany S_text S_length S_fetched S_predicted S_fetchedMany S_fetchedWay S_spot S_isWrong S_executedByText ++ []) (y := ([] : va_W)) (b1 := wX7 cI cZ cII aS S_thrown S_s y1 S_saved S_savedMany S_text S_length S_fetched S_predicted S_fetchedMany S_fetchedWay S_spot S_isWrong S_executedByText ++ []) (wsn := wX7 cI cZ cII aS S_thrown S_s y1 S_saved S_savedMany S_text S_length S_fetched S_predicted S_fetchedMany S_fetchedWay S_spot S_isWrong S_executedByText ++ []) (va_runV (As := []) (rest := []) ⟨hx, hb, hml, hown, hts⟩ (c_X7_putAside l D cI cZ cII cJ cM aS S_thrown S_s S_aside S_saved S_savedMany S_text S_length S_fetched S_predicted S_fetchedMany S_fetchedWay S_spot S_isWrong S_executedByText H.size y1 h1) (cwV 0 hts gX7_wouldBe_X7_putAside rfl rfl rfl (by decide +kernel) ⟨Nat.le_of_ble_eq_true rfl, Nat.le_of_ble_eq_true rfl⟩) (pz_V (x := []) (b := wX7 cI cZ cII aS S_thrown S_s S_aside S_saved S_savedMany S_text S_length S_fetched S_predicted S_fetchedMany S_fetchedWay S_spot S_isWrong S_executedByText ++ []) (y := ([] : va_W)) (C := RX7) (T := TX7) (N := 14) (ci := 7) (As := []) (bi := 0) hK hN hP hD (by simp only [List.append_assoc, List.nil_append, List.append_nil]) rfl rfl) rfl rfl hl.1 rfl (lv_room (Nat.le_of_ble_eq_true rfl)) dX7_wouldBe_1 ⟨Nat.le_of_ble_eq_true rfl, Nat.le_of_ble_eq_true rfl⟩) hP hD hS hA (by simp only [List.append_assoc, List.nil_append, List.append_nil]) (by simp only [List.append_assoc, List.nil_append, List.append_nil]) (fun H locs hP hD hS => ?_)
  refine lv_aload_n hx hb dX7_wouldBe_4 rfl (lv_at hl 0 rfl) ?_
  obtain ⟨y5, h5, hf⟩ := bn_t hf
  refine z_ai (x := []) (b := wX7 cI cZ cII aS S_thrown S_s y1 S_saved S_savedMany S_text S_length S_fetched S_predicted S_fetchedMany S_fetchedWay S_spot S_isWrong S_executedByText ++ []) (y := ([] : va_W)) (b1 := wX7 cI cZ cII aS S_thrown y5.2.1 y1 S_saved S_savedMany S_text S_length y5.2.2.1 y5.2.2.2.1 y5.2.2.2.2.1 y5.2.2.2.2.2 S_spot S_isWrong S_executedByText ++ []) (wsn := wX7 cI cZ cII aS S_thrown y5.2.1 y1 S_saved S_savedMany S_text S_length y5.2.2.1 y5.2.2.2.1 y5.2.2.2.2.1 y5.2.2.2.2.2 S_spot S_isWrong S_executedByText ++ []) (va_runV (As := []) (rest := []) ⟨hx, hb, hml, hown, hts⟩ (c_X7_fetches l D cI cZ cII cJ cM aS S_thrown S_s y1 S_saved S_savedMany S_text S_length S_fetched S_predicted S_fetchedMany S_fetchedWay S_spot S_isWrong S_executedByText H.size y5 h5) (cwV 0 hts gX7_wouldBe_X7_fetches rfl rfl rfl (by decide +kernel) ⟨Nat.le_of_ble_eq_true rfl, Nat.le_of_ble_eq_true rfl⟩) (pz_V (x := []) (b := wX7 cI cZ cII aS S_thrown S_s y1 S_saved S_savedMany S_text S_length S_fetched S_predicted S_fetchedMany S_fetchedWay S_spot S_isWrong S_executedByText ++ []) (y := ([] : va_W)) (C := RX7) (T := TX7) (N := 14) (ci := 7) (As := []) (bi := 0) hK hN hP hD (by simp only [List.append_assoc, List.nil_append, List.append_nil]) rfl rfl) rfl rfl hl.1 rfl (lv_room (Nat.le_of_ble_eq_true rfl)) dX7_wouldBe_5 ⟨Nat.le_of_ble_eq_true rfl, Nat.le_of_ble_eq_true rfl⟩) hP hD hS hA (by simp only [List.append_assoc, List.nil_append, List.append_nil]) (by simp only [List.append_assoc, List.nil_append, List.append_nil]) (fun H locs hP hD hS => ?_)
  refine lv_istore_n (lv' := [(2, .int y5.1), (0, .ref (aS 0)), (1, .int x1)]) hx hb dX7_wouldBe_8 rfl hl (by decide) rfl (fun ls hl => ?_)
  refine lv_aload_n hx hb dX7_wouldBe_9 rfl (lv_at hl 1 rfl) ?_
  refine va_get (D := D) (ci := 7) (v := .ref (aS 1)) (C := RX7) (T := TX7) (N := 14) hx hb hts inX7 hown hK hP 0 rfl rfl 1 (by decide) kX7_7 (fun _ h9 => h9) rfl dX7_wouldBe_10 ?_
  refine lv_sipush (v := 383) hx hb dX7_wouldBe_13 (by decide) ?_
  obtain ⟨g16, hf⟩ := gd_t hf
  refine va_iald hx hb hK hP 1 0 rfl rfl (inb_t g16) dX7_wouldBe_16 ?_
  refine lv_aload_n hx hb dX7_wouldBe_17 rfl (lv_at hl 1 rfl) ?_
  refine va_get (D := D) (ci := 7) (v := .ref (aS 2)) (C := RX7) (T := TX7) (N := 14) hx hb hts inX7 hown hK hP 0 rfl rfl 2 (by decide) kX7_13 (fun _ h9 => h9) rfl dX7_wouldBe_18 ?_
  refine lv_sipush (v := 383) hx hb dX7_wouldBe_21 (by decide) ?_
  obtain ⟨g24, hf⟩ := gd_t hf
  refine va_iald hx hb hK hP 2 0 rfl rfl (inb_t g24) dX7_wouldBe_24 ?_
  refine lv_isub hx hb dX7_wouldBe_25 ?_
  refine lv_topi (fun v26 ev26 => ?_)
  have hf := bd_t ev26 hf
  refine lv_istore_n (lv' := [(3, .int v26), (2, .int y5.1), (0, .ref (aS 0)), (1, .int x1)]) hx hb dX7_wouldBe_26 rfl hl (by decide) rfl (fun ls hl => ?_)
  refine lv_aload_n hx hb dX7_wouldBe_27 rfl (lv_at hl 2 rfl) ?_
  obtain ⟨y28, h28, hf⟩ := bn_t hf
  refine z_av (x := []) (b := wX7 cI cZ cII aS S_thrown y5.2.1 y1 S_saved S_savedMany S_text S_length y5.2.2.1 y5.2.2.2.1 y5.2.2.2.2.1 y5.2.2.2.2.2 S_spot S_isWrong S_executedByText ++ []) (y := ([] : va_W)) (b1 := wX7 cI cZ cII aS S_thrown y28 y1 S_saved S_savedMany S_text S_length y5.2.2.1 y5.2.2.2.1 y5.2.2.2.2.1 y5.2.2.2.2.2 S_spot S_isWrong S_executedByText ++ []) (wsn := wX7 cI cZ cII aS S_thrown y28 y1 S_saved S_savedMany S_text S_length y5.2.2.1 y5.2.2.2.1 y5.2.2.2.2.1 y5.2.2.2.2.2 S_spot S_isWrong S_executedByText ++ []) (va_runV (As := []) (rest := []) ⟨hx, hb, hml, hown, hts⟩ (c_X7_putBack l D cI cZ cII cJ cM aS S_thrown y5.2.1 y1 S_saved S_savedMany S_text S_length y5.2.2.1 y5.2.2.2.1 y5.2.2.2.2.1 y5.2.2.2.2.2 S_spot S_isWrong S_executedByText H.size y28 h28) (cwV 0 hts gX7_wouldBe_X7_putBack rfl rfl rfl (by decide +kernel) ⟨Nat.le_of_ble_eq_true rfl, Nat.le_of_ble_eq_true rfl⟩) (pz_V (x := []) (b := wX7 cI cZ cII aS S_thrown y5.2.1 y1 S_saved S_savedMany S_text S_length y5.2.2.1 y5.2.2.2.1 y5.2.2.2.2.1 y5.2.2.2.2.2 S_spot S_isWrong S_executedByText ++ []) (y := ([] : va_W)) (C := RX7) (T := TX7) (N := 14) (ci := 7) (As := []) (bi := 0) hK hN hP hD (by simp only [List.append_assoc, List.nil_append, List.append_nil]) rfl rfl) rfl rfl hl.1 rfl (lv_room (Nat.le_of_ble_eq_true rfl)) dX7_wouldBe_28 ⟨Nat.le_of_ble_eq_true rfl, Nat.le_of_ble_eq_true rfl⟩) hP hD hS hA (by simp only [List.append_assoc, List.nil_append, List.append_nil]) (by simp only [List.append_assoc, List.nil_append, List.append_nil]) (fun H locs hP hD hS => ?_)
  refine lv_iload_n hx hb dX7_wouldBe_31 rfl (lv_at hl 3 rfl) ?_
  refine lv_if_ne (tgt := 42) hx hb dX7_wouldBe_32 (by decide) (fun c32 => ?_) (fun c32 => ?_)
  · have hf := if_f c32 hf
    refine lv_iload_n hx hb dX7_wouldBe_42 rfl (lv_at hl 3 rfl) ?_
    refine lv_iconst (v := 1) hx hb dX7_wouldBe_43 (by decide) ?_
    refine lv_icmp_ne (tgt := 54) hx hb dX7_wouldBe_44 (by decide) (fun c44 => ?_) (fun c44 => ?_)
    · have hf := if_f c44 hf
      refine lv_iload_n hx hb dX7_wouldBe_54 rfl (lv_at hl 3 rfl) ?_
      refine lv_iconst (v := 2) hx hb dX7_wouldBe_55 (by decide) ?_
      refine lv_icmp_ne (tgt := 63) hx hb dX7_wouldBe_56 (by decide) (fun c56 => ?_) (fun c56 => ?_)
      · have hf := if_f c56 hf
        refine lv_iload_n hx hb dX7_wouldBe_63 rfl (lv_at hl 0 rfl) ?_
        exact J64 y28 y1 y5.2.2.1 y5.2.2.2.1 y5.2.2.2.2.1 y5.2.2.2.2.2 v26 _ _ _ hf hP hD hS (lv_sub hl [] rfl)
      · have hf := if_t c56 hf
        refine lv_iload_n hx hb dX7_wouldBe_59 rfl (lv_at hl 1 rfl) ?_
        refine lv_goto (tgt := 64) hx hb dX7_wouldBe_60 (by decide) ?_
        exact J64 y28 y1 y5.2.2.1 y5.2.2.2.1 y5.2.2.2.2.1 y5.2.2.2.2.2 y5.1 _ _ _ hf hP hD hS (lv_sub hl [] rfl)
    · have hf := if_t c44 hf
      refine lv_aload_n hx hb dX7_wouldBe_47 rfl (lv_at hl 2 rfl) ?_
      refine va_get (D := D) (ci := 7) (v := .int y5.2.2.2.2.1) (C := RX7) (T := TX7) (N := 14) hx hb hts inX7 hown hK hP 0 rfl rfl 9 (by decide) kX7_77 (fun _ h9 => h9) rfl dX7_wouldBe_48 ?_
      refine lv_goto (tgt := 64) hx hb dX7_wouldBe_51 (by decide) ?_
      exact J64 y28 y1 y5.2.2.1 y5.2.2.2.1 y5.2.2.2.2.1 y5.2.2.2.2.2 y5.2.2.2.2.1 _ _ _ hf hP hD hS (lv_sub hl [] rfl)
  · have hf := if_t c32 hf
    refine lv_aload_n hx hb dX7_wouldBe_35 rfl (lv_at hl 2 rfl) ?_
    refine va_get (D := D) (ci := 7) (v := .int y5.2.2.2.2.2) (C := RX7) (T := TX7) (N := 14) hx hb hts inX7 hown hK hP 0 rfl rfl 10 (by decide) kX7_83 (fun _ h9 => h9) rfl dX7_wouldBe_36 ?_
    refine lv_goto (tgt := 64) hx hb dX7_wouldBe_39 (by decide) ?_
    exact J64 y28 y1 y5.2.2.1 y5.2.2.2.1 y5.2.2.2.2.1 y5.2.2.2.2.2 y5.2.2.2.2.2 _ _ _ hf hP hD hS (lv_sub hl [] rfl)
set_option maxHeartbeats 8000000 in
set_option maxRecDepth 100000 in
theorem c_X7_nextFetch (l : Launch) (D : va_G) (cI cZ cII cJ cM : ClassId) (aS : Nat → Nat) (S_thrown : Int32) (S_s : Nat → Int32) (S_aside : Nat → Int32) (S_saved : Nat → Int32) (S_savedMany : Int32) (S_text : Nat → Int32) (S_length : Int32) (S_fetched : Nat → Int32) (S_predicted : Nat → Int32) (S_fetchedMany : Int32) (S_fetchedWay : Int32) (S_spot : Int32) (S_isWrong : Int32) (S_executedByText : Int32) (x1 : Int32) (sz : Nat) (y : (Int32) × (Int32) × (Nat → Int32) × (Nat → Int32) × (Nat → Int32) × (Nat → Int32) × (Int32) × (Int32)) (hf : m_X7_nextFetch S_thrown S_s S_aside S_fetched S_predicted S_fetchedMany S_fetchedWay x1 = some y) : Met l yX7_nextFetch wsX7_nextFetch ({ frames := 7, cells := 0, slots := 0, locals := 158 } : Room) (va_Pc [.ref (aS 0), .int x1] (pzPre D (zT cI cZ cII cJ cM) (wX7 cI cZ cII aS S_thrown S_s S_aside S_saved S_savedMany S_text S_length S_fetched S_predicted S_fetchedMany S_fetchedWay S_spot S_isWrong S_executedByText ++ []) sz)) (va_Qi (fun v (_ : Unit) => v = y.1) (fun _ t => pzB D (zT cI cZ cII cJ cM) (va_A (wX7 cI cZ cII aS S_thrown S_s S_aside S_saved S_savedMany S_text S_length S_fetched S_predicted S_fetchedMany S_fetchedWay S_spot S_isWrong S_executedByText ++ []) sz) (wX7 cI cZ cII aS y.2.1 y.2.2.1 y.2.2.2.1 S_saved S_savedMany S_text S_length y.2.2.2.2.1 y.2.2.2.2.2.1 y.2.2.2.2.2.2.1 y.2.2.2.2.2.2.2 S_spot S_isWrong S_executedByText ++ []) t) (va_A (wX7 cI cZ cII aS S_thrown S_s S_aside S_saved S_savedMany S_text S_length S_fetched S_predicted S_fetchedMany S_fetchedWay S_spot S_isWrong S_executedByText ++ []) sz)) 0 0 (va_A (wX7 cI cZ cII aS S_thrown S_s S_aside S_saved S_savedMany S_text S_length S_fetched S_predicted S_fetchedMany S_fetchedWay S_spot S_isWrong S_executedByText ++ []) sz) := by
  refine z_meti (cc := cX7_nextFetch) (maxL := 2) (by decide) rfl (Nat.le_of_ble_eq_true rfl) ?_
  intro p e s m args below meth c A ls Q H locs F hP hD hS hl hret
  obtain ⟨hx, hb, hml, hown, hts, hN, hK, hA⟩ := F
  have hown : s.vm.findClass RX7 = some m.cls := hown
  have hl : lv_has ls 2 [(0, .ref (aS 0)), (1, .int x1)] := hl
  have J30 : ∀ (S_thrown : Int32) (S_s : Nat → Int32) (S_aside : Nat → Int32) (S_fetched : Nat → Int32) (S_predicted : Nat → Int32) (S_fetchedMany : Int32) (S_fetchedWay : Int32) (k0 : Int32) (H : Heap) (locs : List Loc) (ls : Array Slot), m_X7_nextFetch_30 x1 S_thrown S_s S_aside S_fetched S_predicted S_fetchedMany S_fetchedWay k0 = some y → va_P D vwCl (wX7 cI cZ cII aS S_thrown S_s S_aside S_saved S_savedMany S_text S_length S_fetched S_predicted S_fetchedMany S_fetchedWay S_spot S_isWrong S_executedByText ++ []) H → va_D A (wX7 cI cZ cII aS S_thrown S_s S_aside S_saved S_savedMany S_text S_length S_fetched S_predicted S_fetchedMany S_fetchedWay S_spot S_isWrong S_executedByText ++ []) → va_S A s.heap H locs → lv_has ls 2 [] → W p l e ({ frames := 7, cells := 0, slots := 0, locals := 158 } : Room) s m args below meth c H locs 0 0 Q (F0 m 30 ls [.int k0]) := by
    intro S_thrown S_s S_aside S_fetched S_predicted S_fetchedMany S_fetchedWay k0 H locs ls hf hP hD hS hl
    unfold m_X7_nextFetch_30 at hf
    obtain rfl := Option.some.inj hf
    exact hret _ _ _ _ _ dX7_nextFetch_30 rfl hP hD hS
  have J15 : ∀ (S_thrown : Int32) (S_s : Nat → Int32) (S_aside : Nat → Int32) (S_fetched : Nat → Int32) (S_predicted : Nat → Int32) (S_fetchedMany : Int32) (S_fetchedWay : Int32) (k1 : Int32) (H : Heap) (locs : List Loc) (ls : Array Slot), m_X7_nextFetch_15 x1 S_thrown S_s S_aside S_fetched S_predicted S_fetchedMany S_fetchedWay k1 = some y → va_P D vwCl (wX7 cI cZ cII aS S_thrown S_s S_aside S_saved S_savedMany S_text S_length S_fetched S_predicted S_fetchedMany S_fetchedWay S_spot S_isWrong S_executedByText ++ []) H → va_D A (wX7 cI cZ cII aS S_thrown S_s S_aside S_saved S_savedMany S_text S_length S_fetched S_predicted S_fetchedMany S_fetchedWay S_spot S_isWrong S_executedByText ++ []) → va_S A s.heap H locs → lv_has ls 2 [(0, .ref (aS 0)), (1, .int x1)] → W p l e ({ frames := 7, cells := 0, slots := 0, locals := 158 } : Room) s m args below meth c H locs 0 0 Q (F0 m 15 ls [.int k1, .ref (aS 0)]) := by
    intro S_thrown S_s S_aside S_fetched S_predicted S_fetchedMany S_fetchedWay k1 H locs ls hf hP hD hS hl
    unfold m_X7_nextFetch_15 at hf
    obtain ⟨y15, h15, hf⟩ := bn_t hf
    refine z_ai (x := []) (b := wX7 cI cZ cII aS S_thrown S_s S_aside S_saved S_savedMany S_text S_length S_fetched S_predicted S_fetchedMany S_fetchedWay S_spot S_isWrong S_executedByText ++ []) (y := ([] : va_W)) (b1 := wX7 cI cZ cII aS y15.2 S_s S_aside S_saved S_savedMany S_text S_length S_fetched S_predicted S_fetchedMany S_fetchedWay S_spot S_isWrong S_executedByText ++ []) (wsn := wX7 cI cZ cII aS y15.2 S_s S_aside S_saved S_savedMany S_text S_length S_fetched S_predicted S_fetchedMany S_fetchedWay S_spot S_isWrong S_executedByText ++ []) (va_runV (As := [.int k1]) (rest := []) ⟨hx, hb, hml, hown, hts⟩ (c_X7_holds l D cI cZ cII cJ cM aS S_thrown S_s S_aside S_saved S_savedMany S_text S_length S_fetched S_predicted S_fetchedMany S_fetchedWay S_spot S_isWrong S_executedByText k1 H.size y15 h15) (cwV 1 hts gX7_nextFetch_X7_holds rfl rfl rfl (by decide +kernel) ⟨Nat.le_of_ble_eq_true rfl, Nat.le_of_ble_eq_true rfl⟩) (pz_V (x := []) (b := wX7 cI cZ cII aS S_thrown S_s S_aside S_saved S_savedMany S_text S_length S_fetched S_predicted S_fetchedMany S_fetchedWay S_spot S_isWrong S_executedByText ++ []) (y := ([] : va_W)) (C := RX7) (T := TX7) (N := 14) (ci := 7) (As := [.int k1]) (bi := 0) hK hN hP hD (by simp only [List.append_assoc, List.nil_append, List.append_nil]) rfl rfl) rfl rfl hl.1 rfl (lv_room (Nat.le_of_ble_eq_true rfl)) dX7_nextFetch_15 ⟨Nat.le_of_ble_eq_true rfl, Nat.le_of_ble_eq_true rfl⟩) hP hD hS hA (by simp only [List.append_assoc, List.nil_append, List.append_nil]) (by simp only [List.append_assoc, List.nil_append, List.append_nil]) (fun H locs hP hD hS => ?_)
    refine lv_if_eq (tgt := 29) hx hb dX7_nextFetch_18 (by decide) (fun c18 => ?_) (fun c18 => ?_)
    · have hf := if_t c18 hf
      refine lv_iconst (v := 0) hx hb dX7_nextFetch_29 (by decide) ?_
      exact J30 y15.2 S_s S_aside S_fetched S_predicted S_fetchedMany S_fetchedWay (0 : Int32) _ _ _ hf hP hD hS (lv_sub hl [] rfl)
    · have hf := if_f c18 hf
      refine lv_aload_n hx hb dX7_nextFetch_21 rfl (lv_at hl 0 rfl) ?_
      refine lv_iload_n hx hb dX7_nextFetch_22 rfl (lv_at hl 1 rfl) ?_
      obtain ⟨y23, h23, hf⟩ := bn_t hf
      refine z_ai (x := []) (b := wX7 cI cZ cII aS y15.2 S_s S_aside S_saved S_savedMany S_text S_length S_fetched S_predicted S_fetchedMany S_fetchedWay S_spot S_isWrong S_executedByText ++ []) (y := ([] : va_W)) (b1 := wX7 cI cZ cII aS y15.2 y23.2.1 y23.2.2.1 S_saved S_savedMany S_text S_length y23.2.2.2.1 y23.2.2.2.2.1 y23.2.2.2.2.2.1 y23.2.2.2.2.2.2 S_spot S_isWrong S_executedByText ++ []) (wsn := wX7 cI cZ cII aS y15.2 y23.2.1 y23.2.2.1 S_saved S_savedMany S_text S_length y23.2.2.2.1 y23.2.2.2.2.1 y23.2.2.2.2.2.1 y23.2.2.2.2.2.2 S_spot S_isWrong S_executedByText ++ []) (va_runV (As := [.int x1]) (rest := []) ⟨hx, hb, hml, hown, hts⟩ (c_X7_wouldBe l D cI cZ cII cJ cM aS y15.2 S_s S_aside S_saved S_savedMany S_text S_length S_fetched S_predicted S_fetchedMany S_fetchedWay S_spot S_isWrong S_executedByText x1 H.size y23 h23) (cwV 1 hts gX7_nextFetch_X7_wouldBe rfl rfl rfl (by decide +kernel) ⟨Nat.le_of_ble_eq_true rfl, Nat.le_of_ble_eq_true rfl⟩) (pz_V (x := []) (b := wX7 cI cZ cII aS y15.2 S_s S_aside S_saved S_savedMany S_text S_length S_fetched S_predicted S_fetchedMany S_fetchedWay S_spot S_isWrong S_executedByText ++ []) (y := ([] : va_W)) (C := RX7) (T := TX7) (N := 14) (ci := 7) (As := [.int x1]) (bi := 0) hK hN hP hD (by simp only [List.append_assoc, List.nil_append, List.append_nil]) rfl rfl) rfl rfl hl.1 rfl (lv_room (Nat.le_of_ble_eq_true rfl)) dX7_nextFetch_23 ⟨Nat.le_of_ble_eq_true rfl, Nat.le_of_ble_eq_true rfl⟩) hP hD hS hA (by simp only [List.append_assoc, List.nil_append, List.append_nil]) (by simp only [List.append_assoc, List.nil_append, List.append_nil]) (fun H locs hP hD hS => ?_)
      refine lv_goto (tgt := 30) hx hb dX7_nextFetch_26 (by decide) ?_
      exact J30 y15.2 y23.2.1 y23.2.2.1 y23.2.2.2.1 y23.2.2.2.2.1 y23.2.2.2.2.2.1 y23.2.2.2.2.2.2 y23.1 _ _ _ hf hP hD hS (lv_sub hl [] rfl)
  unfold m_X7_nextFetch at hf
  refine lv_aload_n hx hb dX7_nextFetch_0 rfl (lv_at hl 0 rfl) ?_
  refine lv_iload_n hx hb dX7_nextFetch_1 rfl (lv_at hl 1 rfl) ?_
  refine lv_iconst (v := 0) hx hb dX7_nextFetch_2 (by decide) ?_
  refine lv_iconst (v := 3) hx hb dX7_nextFetch_3 (by decide) ?_
  obtain ⟨y4, h4, hf⟩ := bn_t hf
  refine z_ai (x := []) (b := ([] : va_W)) (y := wX7 cI cZ cII aS S_thrown S_s S_aside S_saved S_savedMany S_text S_length S_fetched S_predicted S_fetchedMany S_fetchedWay S_spot S_isWrong S_executedByText ++ []) (b1 := ([] : va_W)) (wsn := wX7 cI cZ cII aS S_thrown S_s S_aside S_saved S_savedMany S_text S_length S_fetched S_predicted S_fetchedMany S_fetchedWay S_spot S_isWrong S_executedByText ++ []) (va_runS (As := [.int x1, .int (0 : Int32), .int (3 : Int32)]) (rest := [.ref (aS 0)]) ⟨hx, hb, hml, hown, hts⟩ (c_X7_in l D cI cZ cII cJ cM x1 (0 : Int32) (3 : Int32) H.size y4 h4) (va_cwS 3 hts gX7_nextFetch_X7_in rfl rfl rfl (by decide +kernel) ⟨Nat.le_of_ble_eq_true rfl, Nat.le_of_ble_eq_true rfl⟩) (pz_S (x := []) (b := ([] : va_W)) (y := wX7 cI cZ cII aS S_thrown S_s S_aside S_saved S_savedMany S_text S_length S_fetched S_predicted S_fetchedMany S_fetchedWay S_spot S_isWrong S_executedByText ++ []) hK hN hP hD (by simp only [List.append_assoc, List.nil_append, List.append_nil])) rfl rfl hl.1 rfl (lv_room (Nat.le_of_ble_eq_true rfl)) dX7_nextFetch_4 ⟨Nat.le_of_ble_eq_true rfl, Nat.le_of_ble_eq_true rfl⟩) hP hD hS hA (by simp only [List.append_assoc, List.nil_append, List.append_nil]) (by simp only [List.append_assoc, List.nil_append, List.append_nil]) (fun H locs hP hD hS => ?_)
  refine lv_if_eq (tgt := 14) hx hb dX7_nextFetch_7 (by decide) (fun c7 => ?_) (fun c7 => ?_)
  · have hf := if_t c7 hf
    refine lv_iconst (v := 1) hx hb dX7_nextFetch_14 (by decide) ?_
    exact J15 S_thrown S_s S_aside S_fetched S_predicted S_fetchedMany S_fetchedWay (1 : Int32) _ _ _ hf hP hD hS (lv_sub hl [0, 1] rfl)
  · have hf := if_f c7 hf
    refine lv_iconst (v := 0) hx hb dX7_nextFetch_10 (by decide) ?_
    refine lv_goto (tgt := 15) hx hb dX7_nextFetch_11 (by decide) ?_
    exact J15 S_thrown S_s S_aside S_fetched S_predicted S_fetchedMany S_fetchedWay (0 : Int32) _ _ _ hf hP hD hS (lv_sub hl [0, 1] rfl)
set_option maxHeartbeats 8000000 in
set_option maxRecDepth 100000 in
theorem c_X7_wouldFetch (l : Launch) (D : va_G) (cI cZ cII cJ cM : ClassId) (aS : Nat → Nat) (S_thrown : Int32) (S_s : Nat → Int32) (S_aside : Nat → Int32) (S_saved : Nat → Int32) (S_savedMany : Int32) (S_text : Nat → Int32) (S_length : Int32) (S_fetched : Nat → Int32) (S_predicted : Nat → Int32) (S_fetchedMany : Int32) (S_fetchedWay : Int32) (S_spot : Int32) (S_isWrong : Int32) (S_executedByText : Int32) (x1 : Int32) (sz : Nat) (y : (Int32) × (Int32) × (Nat → Int32) × (Nat → Int32) × (Int32) × (Int32)) (hf : m_X7_wouldFetch S_s S_thrown S_fetched S_predicted S_fetchedMany S_fetchedWay x1 = some y) : Met l yX7_wouldFetch wsX7_wouldFetch ({ frames := 5, cells := 0, slots := 0, locals := 113 } : Room) (va_Pc [.ref (aS 0), .int x1] (pzPre D (zT cI cZ cII cJ cM) (wX7 cI cZ cII aS S_thrown S_s S_aside S_saved S_savedMany S_text S_length S_fetched S_predicted S_fetchedMany S_fetchedWay S_spot S_isWrong S_executedByText ++ []) sz)) (va_Qi (fun v (_ : Unit) => v = y.1) (fun _ t => pzB D (zT cI cZ cII cJ cM) (va_A (wX7 cI cZ cII aS S_thrown S_s S_aside S_saved S_savedMany S_text S_length S_fetched S_predicted S_fetchedMany S_fetchedWay S_spot S_isWrong S_executedByText ++ []) sz) (wX7 cI cZ cII aS y.2.1 S_s S_aside S_saved S_savedMany S_text S_length y.2.2.1 y.2.2.2.1 y.2.2.2.2.1 y.2.2.2.2.2 S_spot S_isWrong S_executedByText ++ []) t) (va_A (wX7 cI cZ cII aS S_thrown S_s S_aside S_saved S_savedMany S_text S_length S_fetched S_predicted S_fetchedMany S_fetchedWay S_spot S_isWrong S_executedByText ++ []) sz)) 0 0 (va_A (wX7 cI cZ cII aS S_thrown S_s S_aside S_saved S_savedMany S_text S_length S_fetched S_predicted S_fetchedMany S_fetchedWay S_spot S_isWrong S_executedByText ++ []) sz) := by
  refine z_meti (cc := cX7_wouldFetch) (maxL := 2) (by decide) rfl (Nat.le_of_ble_eq_true rfl) ?_
  intro p e s m args below meth c A ls Q H locs F hP hD hS hl hret
  obtain ⟨hx, hb, hml, hown, hts, hN, hK, hA⟩ := F
  have hown : s.vm.findClass RX7 = some m.cls := hown
  have hl : lv_has ls 2 [(0, .ref (aS 0)), (1, .int x1)] := hl
  have inX7 : ∀ w ∈ u_ws RX7 TX7 14, w ∈ wsX7_wouldFetch := by decide +kernel
  have kX7_22 := hts (.fieldLink RX7 22 "TraceCacheModel" "fetched" "[I") (by decide +kernel)
  have kX7_77 := hts (.fieldLink RX7 77 "TraceCacheModel" "fetchedMany" "I") (by decide +kernel)
  have J40 : ∀ (S_thrown : Int32) (S_fetched : Nat → Int32) (S_predicted : Nat → Int32) (S_fetchedMany : Int32) (S_fetchedWay : Int32) (k0 : Int32) (H : Heap) (locs : List Loc) (ls : Array Slot), m_X7_wouldFetch_40 S_s x1 S_thrown S_fetched S_predicted S_fetchedMany S_fetchedWay k0 = some y → va_P D vwCl (wX7 cI cZ cII aS S_thrown S_s S_aside S_saved S_savedMany S_text S_length S_fetched S_predicted S_fetchedMany S_fetchedWay S_spot S_isWrong S_executedByText ++ []) H → va_D A (wX7 cI cZ cII aS S_thrown S_s S_aside S_saved S_savedMany S_text S_length S_fetched S_predicted S_fetchedMany S_fetchedWay S_spot S_isWrong S_executedByText ++ []) → va_S A s.heap H locs → lv_has ls 2 [] → W p l e ({ frames := 5, cells := 0, slots := 0, locals := 113 } : Room) s m args below meth c H locs 0 0 Q (F0 m 40 ls [.int k0]) := by
    intro S_thrown S_fetched S_predicted S_fetchedMany S_fetchedWay k0 H locs ls hf hP hD hS hl
    unfold m_X7_wouldFetch_40 at hf
    obtain rfl := Option.some.inj hf
    exact hret _ _ _ _ _ dX7_wouldFetch_40 rfl hP hD hS
  have J10 : ∀ (S_thrown : Int32) (S_fetched : Nat → Int32) (S_predicted : Nat → Int32) (S_fetchedMany : Int32) (S_fetchedWay : Int32) (k1 : Int32) (H : Heap) (locs : List Loc) (ls : Array Slot), m_X7_wouldFetch_10 S_s x1 S_thrown S_fetched S_predicted S_fetchedMany S_fetchedWay k1 = some y → va_P D vwCl (wX7 cI cZ cII aS S_thrown S_s S_aside S_saved S_savedMany S_text S_length S_fetched S_predicted S_fetchedMany S_fetchedWay S_spot S_isWrong S_executedByText ++ []) H → va_D A (wX7 cI cZ cII aS S_thrown S_s S_aside S_saved S_savedMany S_text S_length S_fetched S_predicted S_fetchedMany S_fetchedWay S_spot S_isWrong S_executedByText ++ []) → va_S A s.heap H locs → lv_has ls 2 [(0, .ref (aS 0)), (1, .int x1)] → W p l e ({ frames := 5, cells := 0, slots := 0, locals := 113 } : Room) s m args below meth c H locs 0 0 Q (F0 m 10 ls [.int k1, .ref (aS 0)]) := by
    intro S_thrown S_fetched S_predicted S_fetchedMany S_fetchedWay k1 H locs ls hf hP hD hS hl
    unfold m_X7_wouldFetch_10 at hf
    obtain ⟨y10, h10, hf⟩ := bn_t hf
    refine z_ai (x := []) (b := wX7 cI cZ cII aS S_thrown S_s S_aside S_saved S_savedMany S_text S_length S_fetched S_predicted S_fetchedMany S_fetchedWay S_spot S_isWrong S_executedByText ++ []) (y := ([] : va_W)) (b1 := wX7 cI cZ cII aS y10.2 S_s S_aside S_saved S_savedMany S_text S_length S_fetched S_predicted S_fetchedMany S_fetchedWay S_spot S_isWrong S_executedByText ++ []) (wsn := wX7 cI cZ cII aS y10.2 S_s S_aside S_saved S_savedMany S_text S_length S_fetched S_predicted S_fetchedMany S_fetchedWay S_spot S_isWrong S_executedByText ++ []) (va_runV (As := [.int k1]) (rest := []) ⟨hx, hb, hml, hown, hts⟩ (c_X7_holds l D cI cZ cII cJ cM aS S_thrown S_s S_aside S_saved S_savedMany S_text S_length S_fetched S_predicted S_fetchedMany S_fetchedWay S_spot S_isWrong S_executedByText k1 H.size y10 h10) (cwV 1 hts gX7_wouldFetch_X7_holds rfl rfl rfl (by decide +kernel) ⟨Nat.le_of_ble_eq_true rfl, Nat.le_of_ble_eq_true rfl⟩) (pz_V (x := []) (b := wX7 cI cZ cII aS S_thrown S_s S_aside S_saved S_savedMany S_text S_length S_fetched S_predicted S_fetchedMany S_fetchedWay S_spot S_isWrong S_executedByText ++ []) (y := ([] : va_W)) (C := RX7) (T := TX7) (N := 14) (ci := 7) (As := [.int k1]) (bi := 0) hK hN hP hD (by simp only [List.append_assoc, List.nil_append, List.append_nil]) rfl rfl) rfl rfl hl.1 rfl (lv_room (Nat.le_of_ble_eq_true rfl)) dX7_wouldFetch_10 ⟨Nat.le_of_ble_eq_true rfl, Nat.le_of_ble_eq_true rfl⟩) hP hD hS hA (by simp only [List.append_assoc, List.nil_append, List.append_nil]) (by simp only [List.append_assoc, List.nil_append, List.append_nil]) (fun H locs hP hD hS => ?_)
    refine lv_if_ne (tgt := 18) hx hb dX7_wouldFetch_13 (by decide) (fun c13 => ?_) (fun c13 => ?_)
    · have hf := if_f c13 hf
      refine lv_aload_n hx hb dX7_wouldFetch_18 rfl (lv_at hl 0 rfl) ?_
      obtain ⟨y19, h19, hf⟩ := bn_t hf
      refine z_av (x := []) (b := wX7 cI cZ cII aS y10.2 S_s S_aside S_saved S_savedMany S_text S_length S_fetched S_predicted S_fetchedMany S_fetchedWay S_spot S_isWrong S_executedByText ++ []) (y := ([] : va_W)) (b1 := wX7 cI cZ cII aS y10.2 S_s S_aside S_saved S_savedMany S_text S_length y19.1 y19.2.1 y19.2.2.1 y19.2.2.2 S_spot S_isWrong S_executedByText ++ []) (wsn := wX7 cI cZ cII aS y10.2 S_s S_aside S_saved S_savedMany S_text S_length y19.1 y19.2.1 y19.2.2.1 y19.2.2.2 S_spot S_isWrong S_executedByText ++ []) (va_runV (As := []) (rest := []) ⟨hx, hb, hml, hown, hts⟩ (c_X7_looks l D cI cZ cII cJ cM aS y10.2 S_s S_aside S_saved S_savedMany S_text S_length S_fetched S_predicted S_fetchedMany S_fetchedWay S_spot S_isWrong S_executedByText H.size y19 h19) (cwV 0 hts gX7_wouldFetch_X7_looks rfl rfl rfl (by decide +kernel) ⟨Nat.le_of_ble_eq_true rfl, Nat.le_of_ble_eq_true rfl⟩) (pz_V (x := []) (b := wX7 cI cZ cII aS y10.2 S_s S_aside S_saved S_savedMany S_text S_length S_fetched S_predicted S_fetchedMany S_fetchedWay S_spot S_isWrong S_executedByText ++ []) (y := ([] : va_W)) (C := RX7) (T := TX7) (N := 14) (ci := 7) (As := []) (bi := 0) hK hN hP hD (by simp only [List.append_assoc, List.nil_append, List.append_nil]) rfl rfl) rfl rfl hl.1 rfl (lv_room (Nat.le_of_ble_eq_true rfl)) dX7_wouldFetch_19 ⟨Nat.le_of_ble_eq_true rfl, Nat.le_of_ble_eq_true rfl⟩) hP hD hS hA (by simp only [List.append_assoc, List.nil_append, List.append_nil]) (by simp only [List.append_assoc, List.nil_append, List.append_nil]) (fun H locs hP hD hS => ?_)
      refine lv_iload_n hx hb dX7_wouldFetch_22 rfl (lv_at hl 1 rfl) ?_
      refine lv_aload_n hx hb dX7_wouldFetch_23 rfl (lv_at hl 0 rfl) ?_
      refine va_get (D := D) (ci := 7) (v := .int y19.2.2.1) (C := RX7) (T := TX7) (N := 14) hx hb hts inX7 hown hK hP 0 rfl rfl 9 (by decide) kX7_77 (fun _ h9 => h9) rfl dX7_wouldFetch_24 ?_
      refine lv_icmp_ge (tgt := 39) hx hb dX7_wouldFetch_27 (by decide) (fun c27 => ?_) (fun c27 => ?_)
      · have hf := if_t c27 hf
        refine lv_iconst (v := -1) hx hb dX7_wouldFetch_39 (by decide) ?_
        exact J40 y10.2 y19.1 y19.2.1 y19.2.2.1 y19.2.2.2 (-1 : Int32) _ _ _ hf hP hD hS (lv_sub hl [] rfl)
      · have hf := if_f c27 hf
        refine lv_aload_n hx hb dX7_wouldFetch_30 rfl (lv_at hl 0 rfl) ?_
        refine va_get (D := D) (ci := 7) (v := .ref (aS 5)) (C := RX7) (T := TX7) (N := 14) hx hb hts inX7 hown hK hP 0 rfl rfl 7 (by decide) kX7_22 (fun _ h9 => h9) rfl dX7_wouldFetch_31 ?_
        refine lv_iload_n hx hb dX7_wouldFetch_34 rfl (lv_at hl 1 rfl) ?_
        obtain ⟨g35, hf⟩ := gd_t hf
        refine va_iald hx hb hK hP 5 0 rfl rfl (inb_t g35) dX7_wouldFetch_35 ?_
        refine lv_goto (tgt := 40) hx hb dX7_wouldFetch_36 (by decide) ?_
        exact J40 y10.2 y19.1 y19.2.1 y19.2.2.1 y19.2.2.2 (y19.1 (Int32.toNatClampNeg x1)) _ _ _ hf hP hD hS (lv_sub hl [] rfl)
    · have hf := if_t c13 hf
      refine lv_iconst (v := 0) hx hb dX7_wouldFetch_16 (by decide) ?_
      obtain rfl := Option.some.inj hf
      exact hret _ _ _ _ _ dX7_wouldFetch_17 rfl hP hD hS
  unfold m_X7_wouldFetch at hf
  refine lv_aload_n hx hb dX7_wouldFetch_0 rfl (lv_at hl 0 rfl) ?_
  refine lv_iload_n hx hb dX7_wouldFetch_1 rfl (lv_at hl 1 rfl) ?_
  refine lv_if_ge (tgt := 9) hx hb dX7_wouldFetch_2 (by decide) (fun c2 => ?_) (fun c2 => ?_)
  · have hf := if_t c2 hf
    refine lv_iconst (v := 0) hx hb dX7_wouldFetch_9 (by decide) ?_
    exact J10 S_thrown S_fetched S_predicted S_fetchedMany S_fetchedWay (0 : Int32) _ _ _ hf hP hD hS (lv_sub hl [0, 1] rfl)
  · have hf := if_f c2 hf
    refine lv_iconst (v := 1) hx hb dX7_wouldFetch_5 (by decide) ?_
    refine lv_goto (tgt := 10) hx hb dX7_wouldFetch_6 (by decide) ?_
    exact J10 S_thrown S_fetched S_predicted S_fetchedMany S_fetchedWay (1 : Int32) _ _ _ hf hP hD hS (lv_sub hl [0, 1] rfl)
