set_option maxHeartbeats 8000000 in
set_option maxRecDepth 100000 in
theorem c_X0_copyFrom (l : Launch) (D : va_G) (cI cZ cII cJ cM : ClassId) (aC : Nat → Nat) (rC : Nat → Nat) (aC2 : Nat → Nat) (rC2 : Nat → Nat) (C_addresses : Nat → Nat → Int32) (C_sizes : Nat → Int32) (C_useNumbers : Nat → Int32) (C_lastUse : Int32) (C_put : Int32) (C_replaced : Int32) (C_dropped : Int32) (C2_addresses : Nat → Nat → Int32) (C2_sizes : Nat → Int32) (C2_useNumbers : Nat → Int32) (C2_lastUse : Int32) (C2_put : Int32) (C2_replaced : Int32) (C2_dropped : Int32) (sz : Nat) (y : (Nat → Nat → Int32) × (Nat → Int32) × (Nat → Int32) × (Int32) × (Int32) × (Int32) × (Int32)) (hf : m_X0_copyFrom C2_addresses C2_sizes C2_useNumbers C2_lastUse C2_put C2_replaced C2_dropped C_addresses C_sizes C_useNumbers C_lastUse C_put C_replaced C_dropped = some y) : Met l yX0_copyFrom wsX0_copyFrom ({ frames := 1, cells := 0, slots := 0, locals := 60 } : Room) (va_Pc [.ref (aC 0), .ref (aC2 0)] (pzPre D (zT cI cZ cII cJ cM) (wX0 cI cZ cII aC rC C_addresses C_sizes C_useNumbers C_lastUse C_put C_replaced C_dropped ++ (wX0 cI cZ cII aC2 rC2 C2_addresses C2_sizes C2_useNumbers C2_lastUse C2_put C2_replaced C2_dropped ++ [])) sz)) (va_Qv (fun (_ : Unit) => True) (fun _ t => pzB D (zT cI cZ cII cJ cM) (va_A (wX0 cI cZ cII aC rC C_addresses C_sizes C_useNumbers C_lastUse C_put C_replaced C_dropped ++ (wX0 cI cZ cII aC2 rC2 C2_addresses C2_sizes C2_useNumbers C2_lastUse C2_put C2_replaced C2_dropped ++ [])) sz) (wX0 cI cZ cII aC rC y.1 y.2.1 y.2.2.1 y.2.2.2.1 y.2.2.2.2.1 y.2.2.2.2.2.1 y.2.2.2.2.2.2 ++ (wX0 cI cZ cII aC2 rC2 C2_addresses C2_sizes C2_useNumbers C2_lastUse C2_put C2_replaced C2_dropped ++ [])) t) (va_A (wX0 cI cZ cII aC rC C_addresses C_sizes C_useNumbers C_lastUse C_put C_replaced C_dropped ++ (wX0 cI cZ cII aC2 rC2 C2_addresses C2_sizes C2_useNumbers C2_lastUse C2_put C2_replaced C2_dropped ++ [])) sz)) 0 0 (va_A (wX0 cI cZ cII aC rC C_addresses C_sizes C_useNumbers C_lastUse C_put C_replaced C_dropped ++ (wX0 cI cZ cII aC2 rC2 C2_addresses C2_sizes C2_useNumbers C2_lastUse C2_put C2_replaced C2_dropped ++ [])) sz) := by
  refine z_metv (cc := cX0_copyFrom) (maxL := 3) (by decide) rfl (Nat.le_of_ble_eq_true rfl) ?_
  intro p e s m args below meth c A ls Q H locs F hP hD hS hl hret
  obtain ⟨hx, hb, hml, hown, hts, hN, hK, hA⟩ := F
  have hown : s.vm.findClass RX0 = some m.cls := hown
  have hl : lv_has ls 3 [(0, .ref (aC 0)), (1, .ref (aC2 0))] := hl
  have inX0 : ∀ w ∈ u_ws RX0 TX0 7, w ∈ wsX0_copyFrom := by decide +kernel
  have kX0_11 := hts (.fieldLink RX0 11 "TraceCache$Cache" "addresses" "[[I") (by decide +kernel)
  have kX0_16 := hts (.fieldLink RX0 16 "TraceCache$Cache" "sizes" "[I") (by decide +kernel)
  have kX0_20 := hts (.fieldLink RX0 20 "TraceCache$Cache" "useNumbers" "[I") (by decide +kernel)
  have kX0_29 := hts (.fieldLink RX0 29 "TraceCache$Cache" "lastUse" "I") (by decide +kernel)
  have kX0_33 := hts (.fieldLink RX0 33 "TraceCache$Cache" "put" "I") (by decide +kernel)
  have kX0_36 := hts (.fieldLink RX0 36 "TraceCache$Cache" "replaced" "I") (by decide +kernel)
  have kX0_39 := hts (.fieldLink RX0 39 "TraceCache$Cache" "dropped" "I") (by decide +kernel)
  have J2 : ∀ (n2 : Nat), ∀ (C_addresses : Nat → Nat → Int32) (C_sizes : Nat → Int32) (C_useNumbers : Nat → Int32) (C_lastUse : Int32) (C_put : Int32) (C_replaced : Int32) (C_dropped : Int32) (x2 : Int32) (H : Heap) (locs : List Loc) (ls : Array Slot), m_X0_copyFrom_2 C2_addresses C2_sizes C2_useNumbers C2_lastUse C2_put C2_replaced C2_dropped n2 C_addresses C_sizes C_useNumbers C_lastUse C_put C_replaced C_dropped x2 = some y → va_P D vwCl (wX0 cI cZ cII aC rC C_addresses C_sizes C_useNumbers C_lastUse C_put C_replaced C_dropped ++ (wX0 cI cZ cII aC2 rC2 C2_addresses C2_sizes C2_useNumbers C2_lastUse C2_put C2_replaced C2_dropped ++ [])) H → va_D A (wX0 cI cZ cII aC rC C_addresses C_sizes C_useNumbers C_lastUse C_put C_replaced C_dropped ++ (wX0 cI cZ cII aC2 rC2 C2_addresses C2_sizes C2_useNumbers C2_lastUse C2_put C2_replaced C2_dropped ++ [])) → va_S A s.heap H locs → lv_has ls 3 [(0, .ref (aC 0)), (1, .ref (aC2 0)), (2, .int x2)] → W p l e ({ frames := 1, cells := 0, slots := 0, locals := 60 } : Room) s m args below meth c H locs 0 0 Q (F0 m 2 ls []) := by
    intro n2
    induction n2 with
    | zero =>
      intro C_addresses C_sizes C_useNumbers C_lastUse C_put C_replaced C_dropped x2 H locs ls hf hP hD hS hl
      rw [m_X0_copyFrom_2] at hf
      cases hf
    | succ n2 ih2 =>
      intro C_addresses C_sizes C_useNumbers C_lastUse C_put C_replaced C_dropped x2 H locs ls hf hP hD hS hl
      rw [m_X0_copyFrom_2] at hf
      refine lv_iload_n hx hb dX0_copyFrom_2 rfl (lv_at hl 2 rfl) ?_
      refine lv_bipush (v := 8) hx hb dX0_copyFrom_3 (by decide) ?_
      refine lv_icmp_ge (tgt := 33) hx hb dX0_copyFrom_5 (by decide) (fun c5 => ?_) (fun c5 => ?_)
      · have hf := if_t c5 hf
        refine lv_aload_n hx hb dX0_copyFrom_33 rfl (lv_at hl 1 rfl) ?_
        refine va_get (D := D) (ci := 0) (v := .ref (aC2 2)) (C := RX0) (T := TX0) (N := 7) hx hb hts inX0 hown hK hP 12 rfl rfl 1 (by decide) kX0_16 (fun _ h9 => h9) rfl dX0_copyFrom_34 ?_
        refine lv_iconst (v := 0) hx hb dX0_copyFrom_37 (by decide) ?_
        refine lv_aload_n hx hb dX0_copyFrom_38 rfl (lv_at hl 0 rfl) ?_
        refine va_get (D := D) (ci := 0) (v := .ref (aC 2)) (C := RX0) (T := TX0) (N := 7) hx hb hts inX0 hown hK hP 0 rfl rfl 1 (by decide) kX0_16 (fun _ h9 => h9) rfl dX0_copyFrom_39 ?_
        refine lv_iconst (v := 0) hx hb dX0_copyFrom_42 (by decide) ?_
        refine lv_bipush (v := 8) hx hb dX0_copyFrom_43 (by decide) ?_
        obtain ⟨g45, hf⟩ := gd_t hf
        obtain ⟨g451, g452, g453, g454, g455⟩ := cpb_t g45
        refine va_copyi hx hb (hml.trans hl.1.symm) hown (hts (.methodLink RX0 23 arraycopyName) (by decide +kernel)) (hts (.native arraycopyName) (by decide +kernel)) (hts (.static arraycopyName) (by decide +kernel)) (hts (.initialized "java/lang/System") (by decide +kernel)) hK hP hD hS 14 2 0 0 rfl rfl rfl rfl rfl g451 g452 g453 g454 g455 (fun _ _ => rfl) (Nat.le_of_ble_eq_true rfl) (Nat.le_of_ble_eq_true rfl) dX0_copyFrom_45 (fun H locs hP hD hS => ?_)
        obtain ⟨C_sizes_45, eC_sizes_45⟩ : ∃ z : Nat → Int32, z = va_cpy C2_sizes C_sizes (Int32.toNatClampNeg (0 : Int32)) (Int32.toNatClampNeg (0 : Int32)) (Int32.toNatClampNeg (8 : Int32)) := ⟨_, rfl⟩
        have hf := bd_t eC_sizes_45 hf
        have hP : va_P D vwCl (wX0 cI cZ cII aC rC C_addresses C_sizes_45 C_useNumbers C_lastUse C_put C_replaced C_dropped ++ (wX0 cI cZ cII aC2 rC2 C2_addresses C2_sizes C2_useNumbers C2_lastUse C2_put C2_replaced C2_dropped ++ [])) H := by rw [eC_sizes_45]; exact hP
        have hD : va_D A (wX0 cI cZ cII aC rC C_addresses C_sizes_45 C_useNumbers C_lastUse C_put C_replaced C_dropped ++ (wX0 cI cZ cII aC2 rC2 C2_addresses C2_sizes C2_useNumbers C2_lastUse C2_put C2_replaced C2_dropped ++ [])) := by rw [eC_sizes_45]; exact hD
        refine lv_aload_n hx hb dX0_copyFrom_48 rfl (lv_at hl 1 rfl) ?_
        refine va_get (D := D) (ci := 0) (v := .ref (aC2 3)) (C := RX0) (T := TX0) (N := 7) hx hb hts inX0 hown hK hP 12 rfl rfl 2 (by decide) kX0_20 (fun _ h9 => h9) rfl dX0_copyFrom_49 ?_
        refine lv_iconst (v := 0) hx hb dX0_copyFrom_52 (by decide) ?_
        refine lv_aload_n hx hb dX0_copyFrom_53 rfl (lv_at hl 0 rfl) ?_
        refine va_get (D := D) (ci := 0) (v := .ref (aC 3)) (C := RX0) (T := TX0) (N := 7) hx hb hts inX0 hown hK hP 0 rfl rfl 2 (by decide) kX0_20 (fun _ h9 => h9) rfl dX0_copyFrom_54 ?_
        refine lv_iconst (v := 0) hx hb dX0_copyFrom_57 (by decide) ?_
        refine lv_bipush (v := 8) hx hb dX0_copyFrom_58 (by decide) ?_
        obtain ⟨g60, hf⟩ := gd_t hf
        obtain ⟨g601, g602, g603, g604, g605⟩ := cpb_t g60
        refine va_copyi hx hb (hml.trans hl.1.symm) hown (hts (.methodLink RX0 23 arraycopyName) (by decide +kernel)) (hts (.native arraycopyName) (by decide +kernel)) (hts (.static arraycopyName) (by decide +kernel)) (hts (.initialized "java/lang/System") (by decide +kernel)) hK hP hD hS 15 3 0 0 rfl rfl rfl rfl rfl g601 g602 g603 g604 g605 (fun _ _ => rfl) (Nat.le_of_ble_eq_true rfl) (Nat.le_of_ble_eq_true rfl) dX0_copyFrom_60 (fun H locs hP hD hS => ?_)
        obtain ⟨C_useNumbers_60, eC_useNumbers_60⟩ : ∃ z : Nat → Int32, z = va_cpy C2_useNumbers C_useNumbers (Int32.toNatClampNeg (0 : Int32)) (Int32.toNatClampNeg (0 : Int32)) (Int32.toNatClampNeg (8 : Int32)) := ⟨_, rfl⟩
        have hf := bd_t eC_useNumbers_60 hf
        have hP : va_P D vwCl (wX0 cI cZ cII aC rC C_addresses C_sizes_45 C_useNumbers_60 C_lastUse C_put C_replaced C_dropped ++ (wX0 cI cZ cII aC2 rC2 C2_addresses C2_sizes C2_useNumbers C2_lastUse C2_put C2_replaced C2_dropped ++ [])) H := by rw [eC_useNumbers_60]; exact hP
        have hD : va_D A (wX0 cI cZ cII aC rC C_addresses C_sizes_45 C_useNumbers_60 C_lastUse C_put C_replaced C_dropped ++ (wX0 cI cZ cII aC2 rC2 C2_addresses C2_sizes C2_useNumbers C2_lastUse C2_put C2_replaced C2_dropped ++ [])) := by rw [eC_useNumbers_60]; exact hD
        refine lv_aload_n hx hb dX0_copyFrom_63 rfl (lv_at hl 0 rfl) ?_
        refine lv_aload_n hx hb dX0_copyFrom_64 rfl (lv_at hl 1 rfl) ?_
        refine va_get (D := D) (ci := 0) (v := .int C2_lastUse) (C := RX0) (T := TX0) (N := 7) hx hb hts inX0 hown hK hP 12 rfl rfl 3 (by decide) kX0_29 (fun _ h9 => h9) rfl dX0_copyFrom_65 ?_
        refine va_put (D := D) (ci := 0) (v := .int C2_lastUse) (ty := .int) (C := RX0) (T := TX0) (N := 7) hx hb hts inX0 tyX0 tyX0_ok nmX0 hown hK hP hD hS 0 rfl rfl 3 (by decide) kX0_29 (fun _ h9 => h9) rfl (by decide +kernel) rfl rfl (Nat.le_of_ble_eq_true rfl) dX0_copyFrom_68 (fun H locs hP hD hS => ?_)
        have hP : va_P D vwCl (wX0 cI cZ cII aC rC C_addresses C_sizes_45 C_useNumbers_60 C2_lastUse C_put C_replaced C_dropped ++ (wX0 cI cZ cII aC2 rC2 C2_addresses C2_sizes C2_useNumbers C2_lastUse C2_put C2_replaced C2_dropped ++ [])) H := hP
        have hD : va_D A (wX0 cI cZ cII aC rC C_addresses C_sizes_45 C_useNumbers_60 C2_lastUse C_put C_replaced C_dropped ++ (wX0 cI cZ cII aC2 rC2 C2_addresses C2_sizes C2_useNumbers C2_lastUse C2_put C2_replaced C2_dropped ++ [])) := hD
        refine lv_aload_n hx hb dX0_copyFrom_71 rfl (lv_at hl 0 rfl) ?_
        refine lv_aload_n hx hb dX0_copyFrom_72 rfl (lv_at hl 1 rfl) ?_
        refine va_get (D := D) (ci := 0) (v := .int C2_put) (C := RX0) (T := TX0) (N := 7) hx hb hts inX0 hown hK hP 12 rfl rfl 4 (by decide) kX0_33 (fun _ h9 => h9) rfl dX0_copyFrom_73 ?_
        refine va_put (D := D) (ci := 0) (v := .int C2_put) (ty := .int) (C := RX0) (T := TX0) (N := 7) hx hb hts inX0 tyX0 tyX0_ok nmX0 hown hK hP hD hS 0 rfl rfl 4 (by decide) kX0_33 (fun _ h9 => h9) rfl (by decide +kernel) rfl rfl (Nat.le_of_ble_eq_true rfl) dX0_copyFrom_76 (fun H locs hP hD hS => ?_)
        have hP : va_P D vwCl (wX0 cI cZ cII aC rC C_addresses C_sizes_45 C_useNumbers_60 C2_lastUse C2_put C_replaced C_dropped ++ (wX0 cI cZ cII aC2 rC2 C2_addresses C2_sizes C2_useNumbers C2_lastUse C2_put C2_replaced C2_dropped ++ [])) H := hP
        have hD : va_D A (wX0 cI cZ cII aC rC C_addresses C_sizes_45 C_useNumbers_60 C2_lastUse C2_put C_replaced C_dropped ++ (wX0 cI cZ cII aC2 rC2 C2_addresses C2_sizes C2_useNumbers C2_lastUse C2_put C2_replaced C2_dropped ++ [])) := hD
        refine lv_aload_n hx hb dX0_copyFrom_79 rfl (lv_at hl 0 rfl) ?_
        refine lv_aload_n hx hb dX0_copyFrom_80 rfl (lv_at hl 1 rfl) ?_
        refine va_get (D := D) (ci := 0) (v := .int C2_replaced) (C := RX0) (T := TX0) (N := 7) hx hb hts inX0 hown hK hP 12 rfl rfl 5 (by decide) kX0_36 (fun _ h9 => h9) rfl dX0_copyFrom_81 ?_
        refine va_put (D := D) (ci := 0) (v := .int C2_replaced) (ty := .int) (C := RX0) (T := TX0) (N := 7) hx hb hts inX0 tyX0 tyX0_ok nmX0 hown hK hP hD hS 0 rfl rfl 5 (by decide) kX0_36 (fun _ h9 => h9) rfl (by decide +kernel) rfl rfl (Nat.le_of_ble_eq_true rfl) dX0_copyFrom_84 (fun H locs hP hD hS => ?_)
        have hP : va_P D vwCl (wX0 cI cZ cII aC rC C_addresses C_sizes_45 C_useNumbers_60 C2_lastUse C2_put C2_replaced C_dropped ++ (wX0 cI cZ cII aC2 rC2 C2_addresses C2_sizes C2_useNumbers C2_lastUse C2_put C2_replaced C2_dropped ++ [])) H := hP
        have hD : va_D A (wX0 cI cZ cII aC rC C_addresses C_sizes_45 C_useNumbers_60 C2_lastUse C2_put C2_replaced C_dropped ++ (wX0 cI cZ cII aC2 rC2 C2_addresses C2_sizes C2_useNumbers C2_lastUse C2_put C2_replaced C2_dropped ++ [])) := hD
        refine lv_aload_n hx hb dX0_copyFrom_87 rfl (lv_at hl 0 rfl) ?_
        refine lv_aload_n hx hb dX0_copyFrom_88 rfl (lv_at hl 1 rfl) ?_
        refine va_get (D := D) (ci := 0) (v := .int C2_dropped) (C := RX0) (T := TX0) (N := 7) hx hb hts inX0 hown hK hP 12 rfl rfl 6 (by decide) kX0_39 (fun _ h9 => h9) rfl dX0_copyFrom_89 ?_
        refine va_put (D := D) (ci := 0) (v := .int C2_dropped) (ty := .int) (C := RX0) (T := TX0) (N := 7) hx hb hts inX0 tyX0 tyX0_ok nmX0 hown hK hP hD hS 0 rfl rfl 6 (by decide) kX0_39 (fun _ h9 => h9) rfl (by decide +kernel) rfl rfl (Nat.le_of_ble_eq_true rfl) dX0_copyFrom_92 (fun H locs hP hD hS => ?_)
        have hP : va_P D vwCl (wX0 cI cZ cII aC rC C_addresses C_sizes_45 C_useNumbers_60 C2_lastUse C2_put C2_replaced C2_dropped ++ (wX0 cI cZ cII aC2 rC2 C2_addresses C2_sizes C2_useNumbers C2_lastUse C2_put C2_replaced C2_dropped ++ [])) H := hP
        have hD : va_D A (wX0 cI cZ cII aC rC C_addresses C_sizes_45 C_useNumbers_60 C2_lastUse C2_put C2_replaced C2_dropped ++ (wX0 cI cZ cII aC2 rC2 C2_addresses C2_sizes C2_useNumbers C2_lastUse C2_put C2_replaced C2_dropped ++ [])) := hD
        obtain rfl := Option.some.inj hf
        exact hret _ _ _ _ dX0_copyFrom_95 hP hD hS
      · have hf := if_f c5 hf
        refine lv_aload_n hx hb dX0_copyFrom_8 rfl (lv_at hl 1 rfl) ?_
        refine va_get (D := D) (ci := 0) (v := .ref (aC2 1)) (C := RX0) (T := TX0) (N := 7) hx hb hts inX0 hown hK hP 12 rfl rfl 0 (by decide) kX0_11 (fun _ h9 => h9) rfl dX0_copyFrom_9 ?_
        refine lv_iload_n hx hb dX0_copyFrom_12 rfl (lv_at hl 2 rfl) ?_
        obtain ⟨g13, hf⟩ := gd_t hf
        refine z_aald8 (rr := rC2) hx hb hK hP 13 2 rfl rfl (inb_t g13) (inb_c g13) dX0_copyFrom_13 ?_
        refine lv_iconst (v := 0) hx hb dX0_copyFrom_14 (by decide) ?_
        refine lv_aload_n hx hb dX0_copyFrom_15 rfl (lv_at hl 0 rfl) ?_
        refine va_get (D := D) (ci := 0) (v := .ref (aC 1)) (C := RX0) (T := TX0) (N := 7) hx hb hts inX0 hown hK hP 0 rfl rfl 0 (by decide) kX0_11 (fun _ h9 => h9) rfl dX0_copyFrom_16 ?_
        refine lv_iload_n hx hb dX0_copyFrom_19 rfl (lv_at hl 2 rfl) ?_
        obtain ⟨g20, hf⟩ := gd_t hf
        refine z_aald8 (rr := rC) hx hb hK hP 1 2 rfl rfl (inb_t g20) (inb_c g20) dX0_copyFrom_20 ?_
        refine lv_iconst (v := 0) hx hb dX0_copyFrom_21 (by decide) ?_
        refine lv_bipush (v := 8) hx hb dX0_copyFrom_22 (by decide) ?_
        obtain ⟨g24, hf⟩ := gd_t hf
        obtain ⟨g241, g242, g243, g244, g245⟩ := cpb_t g24
        refine va_copyi hx hb (hml.trans hl.1.symm) hown (hts (.methodLink RX0 23 arraycopyName) (by decide +kernel)) (hts (.native arraycopyName) (by decide +kernel)) (hts (.static arraycopyName) (by decide +kernel)) (hts (.initialized "java/lang/System") (by decide +kernel)) hK hP hD hS _ _ 0 0 (wX0_row (cZ := cZ) (x := (wX0 cI cZ cII aC rC C_addresses C_sizes C_useNumbers C_lastUse C_put C_replaced C_dropped)) (inb_c g13)) (wX0_row (cZ := cZ) (x := []) (inb_c g20)) rfl rfl rfl g241 g242 g243 g244 g245 (fun _ _ => rfl) (Nat.le_of_ble_eq_true rfl) (Nat.le_of_ble_eq_true rfl) dX0_copyFrom_24 (fun H locs hP hD hS => ?_)
        have hP := Eq.mp (congrArg (fun w => va_P D vwCl w H) (wX0_set (cI := cI) (cZ := cZ) (cII := cII) (a := aC) (rr := rC) (M := C_addresses) (sz := C_sizes) (us := C_useNumbers) (n1 := C_lastUse) (n2 := C_put) (n3 := C_replaced) (n4 := C_dropped) (x := []) (y := wX0 cI cZ cII aC2 rC2 C2_addresses C2_sizes C2_useNumbers C2_lastUse C2_put C2_replaced C2_dropped ++ []) (inb_c g20) (va_cpy (C2_addresses (Int32.toNatClampNeg x2)) (C_addresses (Int32.toNatClampNeg x2)) (Int32.toNatClampNeg (0 : Int32)) (Int32.toNatClampNeg (0 : Int32)) (Int32.toNatClampNeg (8 : Int32))))) hP
        have hD := Eq.mp (congrArg (fun w => va_D A w) (wX0_set (cI := cI) (cZ := cZ) (cII := cII) (a := aC) (rr := rC) (M := C_addresses) (sz := C_sizes) (us := C_useNumbers) (n1 := C_lastUse) (n2 := C_put) (n3 := C_replaced) (n4 := C_dropped) (x := []) (y := wX0 cI cZ cII aC2 rC2 C2_addresses C2_sizes C2_useNumbers C2_lastUse C2_put C2_replaced C2_dropped ++ []) (inb_c g20) (va_cpy (C2_addresses (Int32.toNatClampNeg x2)) (C_addresses (Int32.toNatClampNeg x2)) (Int32.toNatClampNeg (0 : Int32)) (Int32.toNatClampNeg (0 : Int32)) (Int32.toNatClampNeg (8 : Int32))))) hD
        obtain ⟨C_addresses_24, eC_addresses_24⟩ : ∃ z : Nat → Nat → Int32, z = va_up C_addresses (Int32.toNatClampNeg x2) (va_cpy (C2_addresses (Int32.toNatClampNeg x2)) (C_addresses (Int32.toNatClampNeg x2)) (Int32.toNatClampNeg (0 : Int32)) (Int32.toNatClampNeg (0 : Int32)) (Int32.toNatClampNeg (8 : Int32))) := ⟨_, rfl⟩
        have hf := bd_t eC_addresses_24 hf
        have hP : va_P D vwCl (wX0 cI cZ cII aC rC C_addresses_24 C_sizes C_useNumbers C_lastUse C_put C_replaced C_dropped ++ (wX0 cI cZ cII aC2 rC2 C2_addresses C2_sizes C2_useNumbers C2_lastUse C2_put C2_replaced C2_dropped ++ [])) H := by rw [eC_addresses_24]; exact hP
        have hD : va_D A (wX0 cI cZ cII aC rC C_addresses_24 C_sizes C_useNumbers C_lastUse C_put C_replaced C_dropped ++ (wX0 cI cZ cII aC2 rC2 C2_addresses C2_sizes C2_useNumbers C2_lastUse C2_put C2_replaced C2_dropped ++ [])) := by rw [eC_addresses_24]; exact hD
        obtain ⟨v27, ev27⟩ : ∃ z : Int32, z = x2 + (1 : Int32) := ⟨_, rfl⟩
        have hf := bd_t ev27 hf
        refine lv_iinc (v := v27) (lv' := [(2, .int v27), (0, .ref (aC 0)), (1, .ref (aC2 0))]) hx hb dX0_copyFrom_27 hl (k := 2) rfl (by rw [ev27]; rfl) (by decide) rfl (fun ls hl => ?_)
        refine lv_goto (tgt := 2) hx hb dX0_copyFrom_30 (by decide) ?_
        exact ih2 C_addresses_24 C_sizes C_useNumbers C_lastUse C_put C_replaced C_dropped v27 _ _ _ hf hP hD hS (lv_sub hl [1, 2, 0] rfl)
  unfold m_X0_copyFrom at hf
  refine lv_iconst (v := 0) hx hb dX0_copyFrom_0 (by decide) ?_
  refine lv_istore_n (lv' := [(2, .int (0 : Int32)), (0, .ref (aC 0)), (1, .ref (aC2 0))]) hx hb dX0_copyFrom_1 rfl hl (by decide) rfl (fun ls hl => ?_)
  exact J2 4000 C_addresses C_sizes C_useNumbers C_lastUse C_put C_replaced C_dropped (0 : Int32) _ _ _ hf hP hD hS (lv_sub hl [1, 2, 0] rfl)
set_option maxHeartbeats 8000000 in
set_option maxRecDepth 100000 in
theorem c_X0_holds (l : Launch) (D : va_G) (cI cZ cII cJ cM : ClassId) (aC : Nat → Nat) (rC : Nat → Nat) (C_addresses : Nat → Nat → Int32) (C_sizes : Nat → Int32) (C_useNumbers : Nat → Int32) (C_lastUse : Int32) (C_put : Int32) (C_replaced : Int32) (C_dropped : Int32) (x1 : Int32) (x2 : Int32) (sz : Nat) (y : (Int32)) (hf : m_X0_holds C_addresses C_sizes x1 x2 = some y) : Met l yX0_holds wsX0_holds ({ frames := 0, cells := 0, slots := 0, locals := 0 } : Room) (va_Pc [.ref (aC 0), .int x1, .int x2] (pzPre D (zT cI cZ cII cJ cM) (wX0 cI cZ cII aC rC C_addresses C_sizes C_useNumbers C_lastUse C_put C_replaced C_dropped ++ []) sz)) (va_Qi (fun v (_ : Unit) => v = y) (fun _ t => pzB D (zT cI cZ cII cJ cM) (va_A (wX0 cI cZ cII aC rC C_addresses C_sizes C_useNumbers C_lastUse C_put C_replaced C_dropped ++ []) sz) (wX0 cI cZ cII aC rC C_addresses C_sizes C_useNumbers C_lastUse C_put C_replaced C_dropped ++ []) t) (va_A (wX0 cI cZ cII aC rC C_addresses C_sizes C_useNumbers C_lastUse C_put C_replaced C_dropped ++ []) sz)) 0 0 (va_A (wX0 cI cZ cII aC rC C_addresses C_sizes C_useNumbers C_lastUse C_put C_replaced C_dropped ++ []) sz) := by
  refine z_metz (cc := cX0_holds) (maxL := 4) (by decide) rfl (Nat.le_of_ble_eq_true rfl) ?_
  intro p e s m args below meth c A ls Q H locs F hP hD hS hl hret
  obtain ⟨hx, hb, hml, hown, hts, hN, hK, hA⟩ := F
  have hown : s.vm.findClass RX0 = some m.cls := hown
  have hl : lv_has ls 4 [(0, .ref (aC 0)), (1, .int x1), (2, .int x2)] := hl
  have inX0 : ∀ w ∈ u_ws RX0 TX0 7, w ∈ wsX0_holds := by decide +kernel
  have kX0_11 := hts (.fieldLink RX0 11 "TraceCache$Cache" "addresses" "[[I") (by decide +kernel)
  have kX0_16 := hts (.fieldLink RX0 16 "TraceCache$Cache" "sizes" "[I") (by decide +kernel)
  have J2 : ∀ (n2 : Nat), ∀ (x3 : Int32) (H : Heap) (locs : List Loc) (ls : Array Slot), m_X0_holds_2 C_addresses C_sizes x1 x2 n2 x3 = some y → va_P D vwCl (wX0 cI cZ cII aC rC C_addresses C_sizes C_useNumbers C_lastUse C_put C_replaced C_dropped ++ []) H → va_D A (wX0 cI cZ cII aC rC C_addresses C_sizes C_useNumbers C_lastUse C_put C_replaced C_dropped ++ []) → va_S A s.heap H locs → lv_has ls 4 [(0, .ref (aC 0)), (1, .int x1), (2, .int x2), (3, .int x3)] → W p l e ({ frames := 0, cells := 0, slots := 0, locals := 0 } : Room) s m args below meth c H locs 0 0 Q (F0 m 2 ls []) := by
    intro n2
    induction n2 with
    | zero =>
      intro x3 H locs ls hf hP hD hS hl
      rw [m_X0_holds_2] at hf
      cases hf
    | succ n2 ih2 =>
      intro x3 H locs ls hf hP hD hS hl
      rw [m_X0_holds_2] at hf
      refine lv_iload_n hx hb dX0_holds_2 rfl (lv_at hl 3 rfl) ?_
      refine lv_aload_n hx hb dX0_holds_3 rfl (lv_at hl 0 rfl) ?_
      refine va_get (D := D) (ci := 0) (v := .ref (aC 2)) (C := RX0) (T := TX0) (N := 7) hx hb hts inX0 hown hK hP 0 rfl rfl 1 (by decide) kX0_16 (fun _ h9 => h9) rfl dX0_holds_4 ?_
      refine lv_iload_n hx hb dX0_holds_7 rfl (lv_at hl 1 rfl) ?_
      obtain ⟨g8, hf⟩ := gd_t hf
      refine va_iald hx hb hK hP 2 0 rfl rfl (inb_t g8) dX0_holds_8 ?_
      refine lv_icmp_ge (tgt := 32) hx hb dX0_holds_9 (by decide) (fun c9 => ?_) (fun c9 => ?_)
      · have hf := if_t c9 hf
        refine lv_iconst (v := 0) hx hb dX0_holds_32 (by decide) ?_
        obtain rfl := Option.some.inj hf
        exact hret _ _ _ _ _ dX0_holds_33 (by decide) rfl hP hD hS
      · have hf := if_f c9 hf
        refine lv_aload_n hx hb dX0_holds_12 rfl (lv_at hl 0 rfl) ?_
        refine va_get (D := D) (ci := 0) (v := .ref (aC 1)) (C := RX0) (T := TX0) (N := 7) hx hb hts inX0 hown hK hP 0 rfl rfl 0 (by decide) kX0_11 (fun _ h9 => h9) rfl dX0_holds_13 ?_
        refine lv_iload_n hx hb dX0_holds_16 rfl (lv_at hl 1 rfl) ?_
        obtain ⟨g17, hf⟩ := gd_t hf
        refine z_aald8 (rr := rC) hx hb hK hP 1 2 rfl rfl (inb_t g17) (inb_c g17) dX0_holds_17 ?_
        refine lv_iload_n hx hb dX0_holds_18 rfl (lv_at hl 3 rfl) ?_
        obtain ⟨g19, hf⟩ := gd_t hf
        refine va_iald hx hb hK hP _ 0 (wX0_row (cZ := cZ) (x := []) (inb_c g17)) rfl (inb_t g19) dX0_holds_19 ?_
        refine lv_iload_n hx hb dX0_holds_20 rfl (lv_at hl 2 rfl) ?_
        refine lv_icmp_ne (tgt := 26) hx hb dX0_holds_21 (by decide) (fun c21 => ?_) (fun c21 => ?_)
        · have hf := if_f c21 hf
          obtain ⟨v26, ev26⟩ : ∃ z : Int32, z = x3 + (1 : Int32) := ⟨_, rfl⟩
          have hf := bd_t ev26 hf
          refine lv_iinc (v := v26) (lv' := [(3, .int v26), (0, .ref (aC 0)), (1, .int x1), (2, .int x2)]) hx hb dX0_holds_26 hl (k := 3) rfl (by rw [ev26]; rfl) (by decide) rfl (fun ls hl => ?_)
          refine lv_goto (tgt := 2) hx hb dX0_holds_29 (by decide) ?_
          exact ih2 v26 _ _ _ hf hP hD hS (lv_sub hl [1, 2, 3, 0] rfl)
        · have hf := if_t c21 hf
          refine lv_iconst (v := 1) hx hb dX0_holds_24 (by decide) ?_
          obtain rfl := Option.some.inj hf
          exact hret _ _ _ _ _ dX0_holds_25 (by decide) rfl hP hD hS
  unfold m_X0_holds at hf
  refine lv_iconst (v := 0) hx hb dX0_holds_0 (by decide) ?_
  refine lv_istore_n (lv' := [(3, .int (0 : Int32)), (0, .ref (aC 0)), (1, .int x1), (2, .int x2)]) hx hb dX0_holds_1 rfl hl (by decide) rfl (fun ls hl => ?_)
  exact J2 4000 (0 : Int32) _ _ _ hf hP hD hS (lv_sub hl [1, 2, 3, 0] rfl)
set_option maxHeartbeats 8000000 in
set_option maxRecDepth 100000 in
theorem c_X0_dropHolding (l : Launch) (D : va_G) (cI cZ cII cJ cM : ClassId) (aC : Nat → Nat) (rC : Nat → Nat) (C_addresses : Nat → Nat → Int32) (C_sizes : Nat → Int32) (C_useNumbers : Nat → Int32) (C_lastUse : Int32) (C_put : Int32) (C_replaced : Int32) (C_dropped : Int32) (x1 : Int32) (sz : Nat) (y : (Int32) × (Nat → Int32) × (Int32)) (hf : m_X0_dropHolding C_addresses C_sizes C_dropped x1 = some y) : Met l yX0_dropHolding wsX0_dropHolding ({ frames := 1, cells := 0, slots := 0, locals := 23 } : Room) (va_Pc [.ref (aC 0), .int x1] (pzPre D (zT cI cZ cII cJ cM) (wX0 cI cZ cII aC rC C_addresses C_sizes C_useNumbers C_lastUse C_put C_replaced C_dropped ++ []) sz)) (va_Qi (fun v (_ : Unit) => v = y.1) (fun _ t => pzB D (zT cI cZ cII cJ cM) (va_A (wX0 cI cZ cII aC rC C_addresses C_sizes C_useNumbers C_lastUse C_put C_replaced C_dropped ++ []) sz) (wX0 cI cZ cII aC rC C_addresses y.2.1 C_useNumbers C_lastUse C_put C_replaced y.2.2 ++ []) t) (va_A (wX0 cI cZ cII aC rC C_addresses C_sizes C_useNumbers C_lastUse C_put C_replaced C_dropped ++ []) sz)) 0 0 (va_A (wX0 cI cZ cII aC rC C_addresses C_sizes C_useNumbers C_lastUse C_put C_replaced C_dropped ++ []) sz) := by
  refine z_meti (cc := cX0_dropHolding) (maxL := 4) (by decide) rfl (Nat.le_of_ble_eq_true rfl) ?_
  intro p e s m args below meth c A ls Q H locs F hP hD hS hl hret
  obtain ⟨hx, hb, hml, hown, hts, hN, hK, hA⟩ := F
  have hown : s.vm.findClass RX0 = some m.cls := hown
  have hl : lv_has ls 4 [(0, .ref (aC 0)), (1, .int x1)] := hl
  have inX0 : ∀ w ∈ u_ws RX0 TX0 7, w ∈ wsX0_dropHolding := by decide +kernel
  have kX0_16 := hts (.fieldLink RX0 16 "TraceCache$Cache" "sizes" "[I") (by decide +kernel)
  have kX0_39 := hts (.fieldLink RX0 39 "TraceCache$Cache" "dropped" "I") (by decide +kernel)
  have J4 : ∀ (n4 : Nat), ∀ (C_sizes : Nat → Int32) (C_dropped : Int32) (x2 : Int32) (x3 : Int32) (H : Heap) (locs : List Loc) (ls : Array Slot), m_X0_dropHolding_4 C_addresses x1 n4 C_sizes C_dropped x2 x3 = some y → va_P D vwCl (wX0 cI cZ cII aC rC C_addresses C_sizes C_useNumbers C_lastUse C_put C_replaced C_dropped ++ []) H → va_D A (wX0 cI cZ cII aC rC C_addresses C_sizes C_useNumbers C_lastUse C_put C_replaced C_dropped ++ []) → va_S A s.heap H locs → lv_has ls 4 [(0, .ref (aC 0)), (1, .int x1), (2, .int x2), (3, .int x3)] → W p l e ({ frames := 1, cells := 0, slots := 0, locals := 23 } : Room) s m args below meth c H locs 0 0 Q (F0 m 4 ls []) := by
    intro n4
    induction n4 with
    | zero =>
      intro C_sizes C_dropped x2 x3 H locs ls hf hP hD hS hl
      rw [m_X0_dropHolding_4] at hf
      cases hf
    | succ n4 ih4 =>
      have J29 : ∀ (C_sizes : Nat → Int32) (C_dropped : Int32) (x2 : Int32) (x3 : Int32) (H : Heap) (locs : List Loc) (ls : Array Slot), m_X0_dropHolding_29 C_addresses x1 (m_X0_dropHolding_4 C_addresses x1 n4) C_sizes C_dropped x2 x3 = some y → va_P D vwCl (wX0 cI cZ cII aC rC C_addresses C_sizes C_useNumbers C_lastUse C_put C_replaced C_dropped ++ []) H → va_D A (wX0 cI cZ cII aC rC C_addresses C_sizes C_useNumbers C_lastUse C_put C_replaced C_dropped ++ []) → va_S A s.heap H locs → lv_has ls 4 [(0, .ref (aC 0)), (1, .int x1), (2, .int x2), (3, .int x3)] → W p l e ({ frames := 1, cells := 0, slots := 0, locals := 23 } : Room) s m args below meth c H locs 0 0 Q (F0 m 29 ls []) := by
        intro C_sizes C_dropped x2 x3 H locs ls hf hP hD hS hl
        unfold m_X0_dropHolding_29 at hf
        obtain ⟨v29, ev29⟩ : ∃ z : Int32, z = x3 + (1 : Int32) := ⟨_, rfl⟩
        have hf := bd_t ev29 hf
        refine lv_iinc (v := v29) (lv' := [(3, .int v29), (0, .ref (aC 0)), (1, .int x1), (2, .int x2)]) hx hb dX0_dropHolding_29 hl (k := 3) rfl (by rw [ev29]; rfl) (by decide) rfl (fun ls hl => ?_)
        refine lv_goto (tgt := 4) hx hb dX0_dropHolding_32 (by decide) ?_
        exact ih4 C_sizes C_dropped x2 v29 _ _ _ hf hP hD hS (lv_sub hl [1, 2, 3, 0] rfl)
      intro C_sizes C_dropped x2 x3 H locs ls hf hP hD hS hl
      rw [m_X0_dropHolding_4] at hf
      refine lv_iload_n hx hb dX0_dropHolding_4 rfl (lv_at hl 3 rfl) ?_
      refine lv_bipush (v := 8) hx hb dX0_dropHolding_5 (by decide) ?_
      refine lv_icmp_ge (tgt := 35) hx hb dX0_dropHolding_7 (by decide) (fun c7 => ?_) (fun c7 => ?_)
      · have hf := if_t c7 hf
        refine lv_aload_n hx hb dX0_dropHolding_35 rfl (lv_at hl 0 rfl) ?_
        refine lv_dup hx hb dX0_dropHolding_36 rfl ?_
        refine va_get (D := D) (ci := 0) (v := .int C_dropped) (C := RX0) (T := TX0) (N := 7) hx hb hts inX0 hown hK hP 0 rfl rfl 6 (by decide) kX0_39 (fun _ h9 => h9) rfl dX0_dropHolding_37 ?_
        refine lv_iload_n hx hb dX0_dropHolding_40 rfl (lv_at hl 2 rfl) ?_
        refine lv_iadd hx hb dX0_dropHolding_41 ?_
        refine lv_topi (fun v42 ev42 => ?_)
        have hf := bd_t ev42 hf
        refine va_put (D := D) (ci := 0) (v := .int v42) (ty := .int) (C := RX0) (T := TX0) (N := 7) hx hb hts inX0 tyX0 tyX0_ok nmX0 hown hK hP hD hS 0 rfl rfl 6 (by decide) kX0_39 (fun _ h9 => h9) rfl (by decide +kernel) rfl rfl (Nat.le_of_ble_eq_true rfl) dX0_dropHolding_42 (fun H locs hP hD hS => ?_)
        have hP : va_P D vwCl (wX0 cI cZ cII aC rC C_addresses C_sizes C_useNumbers C_lastUse C_put C_replaced v42 ++ []) H := hP
        have hD : va_D A (wX0 cI cZ cII aC rC C_addresses C_sizes C_useNumbers C_lastUse C_put C_replaced v42 ++ []) := hD
        refine lv_iload_n hx hb dX0_dropHolding_45 rfl (lv_at hl 2 rfl) ?_
        obtain rfl := Option.some.inj hf
        exact hret _ _ _ _ _ dX0_dropHolding_46 rfl hP hD hS
      · have hf := if_f c7 hf
        refine lv_aload_n hx hb dX0_dropHolding_10 rfl (lv_at hl 0 rfl) ?_
        refine lv_iload_n hx hb dX0_dropHolding_11 rfl (lv_at hl 3 rfl) ?_
        refine lv_iload_n hx hb dX0_dropHolding_12 rfl (lv_at hl 1 rfl) ?_
        obtain ⟨y13, h13, hf⟩ := bn_t hf
        refine z_ai (x := []) (b := wX0 cI cZ cII aC rC C_addresses C_sizes C_useNumbers C_lastUse C_put C_replaced C_dropped ++ []) (y := ([] : va_W)) (b1 := wX0 cI cZ cII aC rC C_addresses C_sizes C_useNumbers C_lastUse C_put C_replaced C_dropped ++ []) (wsn := wX0 cI cZ cII aC rC C_addresses C_sizes C_useNumbers C_lastUse C_put C_replaced C_dropped ++ []) (va_runV (As := [.int x3, .int x1]) (rest := []) ⟨hx, hb, hml, hown, hts⟩ (c_X0_holds l D cI cZ cII cJ cM aC rC C_addresses C_sizes C_useNumbers C_lastUse C_put C_replaced C_dropped x3 x1 H.size y13 h13) (cwV 2 hts gX0_dropHolding_X0_holds rfl rfl rfl (by decide +kernel) ⟨Nat.le_of_ble_eq_true rfl, Nat.le_of_ble_eq_true rfl⟩) (pz_V (x := []) (b := wX0 cI cZ cII aC rC C_addresses C_sizes C_useNumbers C_lastUse C_put C_replaced C_dropped ++ []) (y := ([] : va_W)) (C := RX0) (T := TX0) (N := 7) (ci := 0) (As := [.int x3, .int x1]) (bi := 0) hK hN hP hD (by simp only [List.append_assoc, List.nil_append, List.append_nil]) rfl rfl) rfl rfl hl.1 rfl (lv_room (Nat.le_of_ble_eq_true rfl)) dX0_dropHolding_13 ⟨Nat.le_of_ble_eq_true rfl, Nat.le_of_ble_eq_true rfl⟩) hP hD hS hA (by simp only [List.append_assoc, List.nil_append, List.append_nil]) (by simp only [List.append_assoc, List.nil_append, List.append_nil]) (fun H locs hP hD hS => ?_)
        refine lv_if_eq (tgt := 29) hx hb dX0_dropHolding_16 (by decide) (fun c16 => ?_) (fun c16 => ?_)
        · have hf := if_t c16 hf
          exact J29 C_sizes C_dropped x2 x3 _ _ _ hf hP hD hS (lv_sub hl [0, 1, 2, 3] rfl)
        · have hf := if_f c16 hf
          refine lv_aload_n hx hb dX0_dropHolding_19 rfl (lv_at hl 0 rfl) ?_
          refine va_get (D := D) (ci := 0) (v := .ref (aC 2)) (C := RX0) (T := TX0) (N := 7) hx hb hts inX0 hown hK hP 0 rfl rfl 1 (by decide) kX0_16 (fun _ h9 => h9) rfl dX0_dropHolding_20 ?_
          refine lv_iload_n hx hb dX0_dropHolding_23 rfl (lv_at hl 3 rfl) ?_
          refine lv_iconst (v := 0) hx hb dX0_dropHolding_24 (by decide) ?_
          obtain ⟨g25, hf⟩ := gd_t hf
          refine va_iast hx hb hK hP hD hS 2 0 rfl rfl (inb_t g25) dX0_dropHolding_25 (fun H locs hP hD hS => ?_)
          obtain ⟨C_sizes_25, eC_sizes_25⟩ : ∃ z : Nat → Int32, z = upd C_sizes (Int32.toNatClampNeg x3) (0 : Int32) := ⟨_, rfl⟩
          have hf := bd_t eC_sizes_25 hf
          have hP : va_P D vwCl (wX0 cI cZ cII aC rC C_addresses C_sizes_25 C_useNumbers C_lastUse C_put C_replaced C_dropped ++ []) H := by rw [eC_sizes_25]; exact hP
          have hD : va_D A (wX0 cI cZ cII aC rC C_addresses C_sizes_25 C_useNumbers C_lastUse C_put C_replaced C_dropped ++ []) := by rw [eC_sizes_25]; exact hD
          obtain ⟨v26, ev26⟩ : ∃ z : Int32, z = x2 + (1 : Int32) := ⟨_, rfl⟩
          have hf := bd_t ev26 hf
          refine lv_iinc (v := v26) (lv' := [(2, .int v26), (0, .ref (aC 0)), (1, .int x1), (3, .int x3)]) hx hb dX0_dropHolding_26 hl (k := 2) rfl (by rw [ev26]; rfl) (by decide) rfl (fun ls hl => ?_)
          exact J29 C_sizes_25 C_dropped v26 x3 _ _ _ hf hP hD hS (lv_sub hl [1, 2, 0, 3] rfl)
  unfold m_X0_dropHolding at hf
  refine lv_iconst (v := 0) hx hb dX0_dropHolding_0 (by decide) ?_
  refine lv_istore_n (lv' := [(2, .int (0 : Int32)), (0, .ref (aC 0)), (1, .int x1)]) hx hb dX0_dropHolding_1 rfl hl (by decide) rfl (fun ls hl => ?_)
  refine lv_iconst (v := 0) hx hb dX0_dropHolding_2 (by decide) ?_
  refine lv_istore_n (lv' := [(3, .int (0 : Int32)), (2, .int (0 : Int32)), (0, .ref (aC 0)), (1, .int x1)]) hx hb dX0_dropHolding_3 rfl hl (by decide) rfl (fun ls hl => ?_)
  exact J4 4000 C_sizes C_dropped (0 : Int32) (0 : Int32) _ _ _ hf hP hD hS (lv_sub hl [2, 3, 1, 0] rfl)
set_option maxHeartbeats 8000000 in
set_option maxRecDepth 100000 in
theorem c_X0_firstPlaceFor (l : Launch) (D : va_G) (cI cZ cII cJ cM : ClassId) (x0 : Int32) (sz : Nat) (y : (Int32)) (hf : m_X0_firstPlaceFor x0 = some y) : Met l yX0_firstPlaceFor wsX0_firstPlaceFor ({ frames := 0, cells := 0, slots := 0, locals := 0 } : Room) (va_Pc [.int x0] (pzPre D (zT cI cZ cII cJ cM) (([] : va_W)) sz)) (va_Qi (fun v (_ : Unit) => v = y) (fun _ t => pzB D (zT cI cZ cII cJ cM) (va_A (([] : va_W)) sz) (([] : va_W)) t) (va_A (([] : va_W)) sz)) 0 0 (va_A (([] : va_W)) sz) := by
  refine z_meti (cc := cX0_firstPlaceFor) (maxL := 1) (by decide) rfl (Nat.le_of_ble_eq_true rfl) ?_
  intro p e s m args below meth c A ls Q H locs F hP hD hS hl hret
  obtain ⟨hx, hb, hml, hown, hts, hN, hK, hA⟩ := F
  have hown : s.vm.findClass RX0 = some m.cls := hown
  have hl : lv_has ls 1 [(0, .int x0)] := hl
  unfold m_X0_firstPlaceFor at hf
  refine lv_iload_n hx hb dX0_firstPlaceFor_0 rfl (lv_at hl 0 rfl) ?_
  refine lv_iconst (v := 4) hx hb dX0_firstPlaceFor_1 (by decide) ?_
  refine lv_irem hx hb dX0_firstPlaceFor_2 (by decide) ?_
  refine lv_iconst (v := 2) hx hb dX0_firstPlaceFor_3 (by decide) ?_
  refine lv_imul hx hb dX0_firstPlaceFor_4 ?_
  refine lv_topi (fun v5 ev5 => ?_)
  have hf := bd_t ev5 hf
  obtain rfl := Option.some.inj hf
  exact hret _ _ _ _ _ dX0_firstPlaceFor_5 rfl hP hD hS
set_option maxHeartbeats 8000000 in
set_option maxRecDepth 100000 in
theorem c_X0_addressAt (l : Launch) (D : va_G) (cI cZ cII cJ cM : ClassId) (aC : Nat → Nat) (rC : Nat → Nat) (C_addresses : Nat → Nat → Int32) (C_sizes : Nat → Int32) (C_useNumbers : Nat → Int32) (C_lastUse : Int32) (C_put : Int32) (C_replaced : Int32) (C_dropped : Int32) (x1 : Int32) (x2 : Int32) (sz : Nat) (y : (Int32)) (hf : m_X0_addressAt C_addresses C_sizes x1 x2 = some y) : Met l yX0_addressAt wsX0_addressAt ({ frames := 0, cells := 0, slots := 0, locals := 0 } : Room) (va_Pc [.ref (aC 0), .int x1, .int x2] (pzPre D (zT cI cZ cII cJ cM) (wX0 cI cZ cII aC rC C_addresses C_sizes C_useNumbers C_lastUse C_put C_replaced C_dropped ++ []) sz)) (va_Qi (fun v (_ : Unit) => v = y) (fun _ t => pzB D (zT cI cZ cII cJ cM) (va_A (wX0 cI cZ cII aC rC C_addresses C_sizes C_useNumbers C_lastUse C_put C_replaced C_dropped ++ []) sz) (wX0 cI cZ cII aC rC C_addresses C_sizes C_useNumbers C_lastUse C_put C_replaced C_dropped ++ []) t) (va_A (wX0 cI cZ cII aC rC C_addresses C_sizes C_useNumbers C_lastUse C_put C_replaced C_dropped ++ []) sz)) 0 0 (va_A (wX0 cI cZ cII aC rC C_addresses C_sizes C_useNumbers C_lastUse C_put C_replaced C_dropped ++ []) sz) := by
  refine z_meti (cc := cX0_addressAt) (maxL := 3) (by decide) rfl (Nat.le_of_ble_eq_true rfl) ?_
  intro p e s m args below meth c A ls Q H locs F hP hD hS hl hret
  obtain ⟨hx, hb, hml, hown, hts, hN, hK, hA⟩ := F
  have hown : s.vm.findClass RX0 = some m.cls := hown
  have hl : lv_has ls 3 [(0, .ref (aC 0)), (1, .int x1), (2, .int x2)] := hl
  have inX0 : ∀ w ∈ u_ws RX0 TX0 7, w ∈ wsX0_addressAt := by decide +kernel
  have kX0_11 := hts (.fieldLink RX0 11 "TraceCache$Cache" "addresses" "[[I") (by decide +kernel)
  have kX0_16 := hts (.fieldLink RX0 16 "TraceCache$Cache" "sizes" "[I") (by decide +kernel)
  have J22 : ∀ (k0 : Int32) (H : Heap) (locs : List Loc) (ls : Array Slot), m_X0_addressAt_22 C_addresses C_sizes x1 x2 k0 = some y → va_P D vwCl (wX0 cI cZ cII aC rC C_addresses C_sizes C_useNumbers C_lastUse C_put C_replaced C_dropped ++ []) H → va_D A (wX0 cI cZ cII aC rC C_addresses C_sizes C_useNumbers C_lastUse C_put C_replaced C_dropped ++ []) → va_S A s.heap H locs → lv_has ls 3 [] → W p l e ({ frames := 0, cells := 0, slots := 0, locals := 0 } : Room) s m args below meth c H locs 0 0 Q (F0 m 22 ls [.int k0]) := by
    intro k0 H locs ls hf hP hD hS hl
    unfold m_X0_addressAt_22 at hf
    obtain rfl := Option.some.inj hf
    exact hret _ _ _ _ _ dX0_addressAt_22 rfl hP hD hS
  unfold m_X0_addressAt at hf
  refine lv_iload_n hx hb dX0_addressAt_0 rfl (lv_at hl 2 rfl) ?_
  refine lv_aload_n hx hb dX0_addressAt_1 rfl (lv_at hl 0 rfl) ?_
  refine va_get (D := D) (ci := 0) (v := .ref (aC 2)) (C := RX0) (T := TX0) (N := 7) hx hb hts inX0 hown hK hP 0 rfl rfl 1 (by decide) kX0_16 (fun _ h9 => h9) rfl dX0_addressAt_2 ?_
  refine lv_iload_n hx hb dX0_addressAt_5 rfl (lv_at hl 1 rfl) ?_
  obtain ⟨g6, hf⟩ := gd_t hf
  refine va_iald hx hb hK hP 2 0 rfl rfl (inb_t g6) dX0_addressAt_6 ?_
  refine lv_icmp_ge (tgt := 21) hx hb dX0_addressAt_7 (by decide) (fun c7 => ?_) (fun c7 => ?_)
  · have hf := if_t c7 hf
    refine lv_iconst (v := -1) hx hb dX0_addressAt_21 (by decide) ?_
    exact J22 (-1 : Int32) _ _ _ hf hP hD hS (lv_sub hl [] rfl)
  · have hf := if_f c7 hf
    refine lv_aload_n hx hb dX0_addressAt_10 rfl (lv_at hl 0 rfl) ?_
    refine va_get (D := D) (ci := 0) (v := .ref (aC 1)) (C := RX0) (T := TX0) (N := 7) hx hb hts inX0 hown hK hP 0 rfl rfl 0 (by decide) kX0_11 (fun _ h9 => h9) rfl dX0_addressAt_11 ?_
    refine lv_iload_n hx hb dX0_addressAt_14 rfl (lv_at hl 1 rfl) ?_
    obtain ⟨g15, hf⟩ := gd_t hf
    refine z_aald8 (rr := rC) hx hb hK hP 1 2 rfl rfl (inb_t g15) (inb_c g15) dX0_addressAt_15 ?_
    refine lv_iload_n hx hb dX0_addressAt_16 rfl (lv_at hl 2 rfl) ?_
    obtain ⟨g17, hf⟩ := gd_t hf
    refine va_iald hx hb hK hP _ 0 (wX0_row (cZ := cZ) (x := []) (inb_c g15)) rfl (inb_t g17) dX0_addressAt_17 ?_
    refine lv_goto (tgt := 22) hx hb dX0_addressAt_18 (by decide) ?_
    exact J22 ((C_addresses (Int32.toNatClampNeg x1)) (Int32.toNatClampNeg x2)) _ _ _ hf hP hD hS (lv_sub hl [] rfl)
set_option maxHeartbeats 8000000 in
set_option maxRecDepth 100000 in
theorem c_X0_usableSize (l : Launch) (D : va_G) (cI cZ cII cJ cM : ClassId) (aC : Nat → Nat) (rC : Nat → Nat) (aP : Nat → Nat) (C_addresses : Nat → Nat → Int32) (C_sizes : Nat → Int32) (C_useNumbers : Nat → Int32) (C_lastUse : Int32) (C_put : Int32) (C_replaced : Int32) (C_dropped : Int32) (P_kinds : Nat → Int32) (P_targets : Nat → Int32) (P_outcomes : Nat → Int32) (P_lengths : Nat → Int32) (P_outcomeCounts : Nat → Int32) (P_counters : Nat → Int32) (P_next : Int32) (x1 : Int32) (sz : Nat) (y : (Int32)) (hf : m_X0_usableSize C_addresses C_sizes P_kinds P_targets P_counters x1 = some y) : Met l yX0_usableSize wsX0_usableSize ({ frames := 2, cells := 0, slots := 0, locals := 45 } : Room) (va_Pc [.ref (aC 0), .int x1, .ref (aP 0)] (pzPre D (zT cI cZ cII cJ cM) (wX0 cI cZ cII aC rC C_addresses C_sizes C_useNumbers C_lastUse C_put C_replaced C_dropped ++ (wX4 cI cZ cII aP P_kinds P_targets P_outcomes P_lengths P_outcomeCounts P_counters P_next ++ [])) sz)) (va_Qi (fun v (_ : Unit) => v = y) (fun _ t => pzB D (zT cI cZ cII cJ cM) (va_A (wX0 cI cZ cII aC rC C_addresses C_sizes C_useNumbers C_lastUse C_put C_replaced C_dropped ++ (wX4 cI cZ cII aP P_kinds P_targets P_outcomes P_lengths P_outcomeCounts P_counters P_next ++ [])) sz) (wX0 cI cZ cII aC rC C_addresses C_sizes C_useNumbers C_lastUse C_put C_replaced C_dropped ++ (wX4 cI cZ cII aP P_kinds P_targets P_outcomes P_lengths P_outcomeCounts P_counters P_next ++ [])) t) (va_A (wX0 cI cZ cII aC rC C_addresses C_sizes C_useNumbers C_lastUse C_put C_replaced C_dropped ++ (wX4 cI cZ cII aP P_kinds P_targets P_outcomes P_lengths P_outcomeCounts P_counters P_next ++ [])) sz)) 0 0 (va_A (wX0 cI cZ cII aC rC C_addresses C_sizes C_useNumbers C_lastUse C_put C_replaced C_dropped ++ (wX4 cI cZ cII aP P_kinds P_targets P_outcomes P_lengths P_outcomeCounts P_counters P_next ++ [])) sz) := by
  refine z_meti (cc := cX0_usableSize) (maxL := 6) (by decide) rfl (Nat.le_of_ble_eq_true rfl) ?_
  intro p e s m args below meth c A ls Q H locs F hP hD hS hl hret
  obtain ⟨hx, hb, hml, hown, hts, hN, hK, hA⟩ := F
  have hown : s.vm.findClass RX0 = some m.cls := hown
  have hl : lv_has ls 6 [(0, .ref (aC 0)), (1, .int x1), (2, .ref (aP 0))] := hl
  have inX0 : ∀ w ∈ u_ws RX0 TX0 7, w ∈ wsX0_usableSize := by decide +kernel
  have kX0_11 := hts (.fieldLink RX0 11 "TraceCache$Cache" "addresses" "[[I") (by decide +kernel)
  have kX0_16 := hts (.fieldLink RX0 16 "TraceCache$Cache" "sizes" "[I") (by decide +kernel)
  have J18 : ∀ (n18 : Nat), ∀ (x4 : Int32) (x5 : Int32) (H : Heap) (locs : List Loc) (ls : Array Slot), m_X0_usableSize_18 C_addresses C_sizes P_kinds P_targets P_counters x1 n18 x4 x5 = some y → va_P D vwCl (wX0 cI cZ cII aC rC C_addresses C_sizes C_useNumbers C_lastUse C_put C_replaced C_dropped ++ (wX4 cI cZ cII aP P_kinds P_targets P_outcomes P_lengths P_outcomeCounts P_counters P_next ++ [])) H → va_D A (wX0 cI cZ cII aC rC C_addresses C_sizes C_useNumbers C_lastUse C_put C_replaced C_dropped ++ (wX4 cI cZ cII aP P_kinds P_targets P_outcomes P_lengths P_outcomeCounts P_counters P_next ++ [])) → va_S A s.heap H locs → lv_has ls 6 [(2, .ref (aP 0)), (3, .ref (rC (Int32.toNatClampNeg x1))), (4, .int x4), (5, .int x5)] → W p l e ({ frames := 2, cells := 0, slots := 0, locals := 45 } : Room) s m args below meth c H locs 0 0 Q (F0 m 18 ls []) := by
    intro n18
    induction n18 with
    | zero =>
      intro x4 x5 H locs ls hf hP hD hS hl
      rw [m_X0_usableSize_18] at hf
      cases hf
    | succ n18 ih18 =>
      intro x4 x5 H locs ls hf hP hD hS hl
      rw [m_X0_usableSize_18] at hf
      obtain ⟨g18r3, hf⟩ := gd_t hf
      refine lv_iload hx hb dX0_usableSize_18 (lv_at hl 3 rfl) ?_
      refine lv_iload hx hb dX0_usableSize_20 (lv_at hl 2 rfl) ?_
      refine lv_icmp_ge (tgt := 51) hx hb dX0_usableSize_22 (by decide) (fun c22 => ?_) (fun c22 => ?_)
      · have hf := if_t c22 hf
        refine lv_iload hx hb dX0_usableSize_51 (lv_at hl 2 rfl) ?_
        obtain rfl := Option.some.inj hf
        exact hret _ _ _ _ _ dX0_usableSize_53 rfl hP hD hS
      · have hf := if_f c22 hf
        refine lv_aload_n hx hb dX0_usableSize_25 rfl (lv_at hl 1 rfl) ?_
        refine lv_iload hx hb dX0_usableSize_26 (lv_at hl 3 rfl) ?_
        obtain ⟨g28, hf⟩ := gd_t hf
        refine va_iald hx hb hK hP _ 0 (wX0_row (cZ := cZ) (x := []) (inb_c g18r3)) rfl (inb_t g28) dX0_usableSize_28 ?_
        refine lv_aload_n hx hb dX0_usableSize_29 rfl (lv_at hl 0 rfl) ?_
        refine lv_aload_n hx hb dX0_usableSize_30 rfl (lv_at hl 1 rfl) ?_
        refine lv_iload hx hb dX0_usableSize_31 (lv_at hl 3 rfl) ?_
        refine lv_iconst (v := 1) hx hb dX0_usableSize_33 (by decide) ?_
        refine lv_isub hx hb dX0_usableSize_34 ?_
        refine lv_topi (fun v35 ev35 => ?_)
        have hf := bd_t ev35 hf
        obtain ⟨g35, hf⟩ := gd_t hf
        refine va_iald hx hb hK hP _ 0 (wX0_row (cZ := cZ) (x := []) (inb_c g18r3)) rfl (inb_t g35) dX0_usableSize_35 ?_
        obtain ⟨y36, h36, hf⟩ := bn_t hf
        refine z_ai (x := (wX0 cI cZ cII aC rC C_addresses C_sizes C_useNumbers C_lastUse C_put C_replaced C_dropped)) (b := wX4 cI cZ cII aP P_kinds P_targets P_outcomes P_lengths P_outcomeCounts P_counters P_next ++ []) (y := ([] : va_W)) (b1 := wX4 cI cZ cII aP P_kinds P_targets P_outcomes P_lengths P_outcomeCounts P_counters P_next ++ []) (wsn := wX0 cI cZ cII aC rC C_addresses C_sizes C_useNumbers C_lastUse C_put C_replaced C_dropped ++ (wX4 cI cZ cII aP P_kinds P_targets P_outcomes P_lengths P_outcomeCounts P_counters P_next ++ [])) (va_runVN (As := [.int ((C_addresses (Int32.toNatClampNeg x1)) (Int32.toNatClampNeg v35))]) (rest := [.int ((C_addresses (Int32.toNatClampNeg x1)) (Int32.toNatClampNeg x5))]) ⟨hx, hb, hml, hown, hts⟩ (c_X4_predictedSuccessor l D cI cZ cII cJ cM aP P_kinds P_targets P_outcomes P_lengths P_outcomeCounts P_counters P_next ((C_addresses (Int32.toNatClampNeg x1)) (Int32.toNatClampNeg v35)) H.size y36 h36) ⟨va_cnB 1 hts gX0_usableSize_X4_predictedSuccessor_n42 rfl rfl rfl (hN.nw 68 rfl) (hts (.initialized RX4) (by decide +kernel)) (by decide +kernel) ⟨Nat.le_of_ble_eq_true rfl, Nat.le_of_ble_eq_true rfl⟩, hts (.instanceMethod yX4_predictedSuccessor) (by decide +kernel), hts (.selects RX4 yX4_predictedSuccessor yX4_predictedSuccessor) (by decide +kernel)⟩ (pz_V (x := (wX0 cI cZ cII aC rC C_addresses C_sizes C_useNumbers C_lastUse C_put C_replaced C_dropped)) (b := wX4 cI cZ cII aP P_kinds P_targets P_outcomes P_lengths P_outcomeCounts P_counters P_next ++ []) (y := ([] : va_W)) (C := RX4) (T := TX4) (N := 7) (ci := 4) (As := [.int ((C_addresses (Int32.toNatClampNeg x1)) (Int32.toNatClampNeg v35))]) (bi := 0) hK hN hP hD (by simp only [List.append_assoc, List.nil_append, List.append_nil]) rfl rfl) rfl rfl hl.1 rfl (lv_room (Nat.le_of_ble_eq_true rfl)) dX0_usableSize_36 ⟨Nat.le_of_ble_eq_true rfl, Nat.le_of_ble_eq_true rfl⟩) hP hD hS hA (by simp only [List.append_assoc, List.nil_append, List.append_nil]) (by simp only [List.append_assoc, List.nil_append, List.append_nil]) (fun H locs hP hD hS => ?_)
        refine lv_icmp_eq (tgt := 45) hx hb dX0_usableSize_39 (by decide) (fun c39 => ?_) (fun c39 => ?_)
        · have hf := if_t c39 hf
          obtain ⟨v45, ev45⟩ : ∃ z : Int32, z = x5 + (1 : Int32) := ⟨_, rfl⟩
          have hf := bd_t ev45 hf
          refine lv_iinc (v := v45) (lv' := [(5, .int v45), (2, .ref (aP 0)), (3, .ref (rC (Int32.toNatClampNeg x1))), (4, .int x4)]) hx hb dX0_usableSize_45 hl (k := 3) rfl (by rw [ev45]; rfl) (by decide) rfl (fun ls hl => ?_)
          refine lv_goto (tgt := 18) hx hb dX0_usableSize_48 (by decide) ?_
          exact ih18 x4 v45 _ _ _ hf hP hD hS (lv_sub hl [1, 2, 3, 0] rfl)
        · have hf := if_f c39 hf
          refine lv_iload hx hb dX0_usableSize_42 (lv_at hl 3 rfl) ?_
          obtain rfl := Option.some.inj hf
          exact hret _ _ _ _ _ dX0_usableSize_44 rfl hP hD hS
  unfold m_X0_usableSize at hf
  refine lv_aload_n hx hb dX0_usableSize_0 rfl (lv_at hl 0 rfl) ?_
  refine va_get (D := D) (ci := 0) (v := .ref (aC 1)) (C := RX0) (T := TX0) (N := 7) hx hb hts inX0 hown hK hP 0 rfl rfl 0 (by decide) kX0_11 (fun _ h9 => h9) rfl dX0_usableSize_1 ?_
  refine lv_iload_n hx hb dX0_usableSize_4 rfl (lv_at hl 1 rfl) ?_
  obtain ⟨g5, hf⟩ := gd_t hf
  refine z_aald8 (rr := rC) hx hb hK hP 1 2 rfl rfl (inb_t g5) (inb_c g5) dX0_usableSize_5 ?_
  refine lv_astore_n (lv' := [(3, .ref (rC (Int32.toNatClampNeg x1))), (0, .ref (aC 0)), (1, .int x1), (2, .ref (aP 0))]) hx hb dX0_usableSize_6 rfl hl (by decide) rfl (fun ls hl => ?_)
  refine lv_aload_n hx hb dX0_usableSize_7 rfl (lv_at hl 1 rfl) ?_
  refine va_get (D := D) (ci := 0) (v := .ref (aC 2)) (C := RX0) (T := TX0) (N := 7) hx hb hts inX0 hown hK hP 0 rfl rfl 1 (by decide) kX0_16 (fun _ h9 => h9) rfl dX0_usableSize_8 ?_
  refine lv_iload_n hx hb dX0_usableSize_11 rfl (lv_at hl 2 rfl) ?_
  obtain ⟨g12, hf⟩ := gd_t hf
  refine va_iald hx hb hK hP 2 0 rfl rfl (inb_t g12) dX0_usableSize_12 ?_
  refine lv_topi (fun v13 ev13 => ?_)
  have hf := bd_t ev13 hf
  refine lv_istore (lv' := [(4, .int v13), (3, .ref (rC (Int32.toNatClampNeg x1))), (0, .ref (aC 0)), (1, .int x1), (2, .ref (aP 0))]) hx hb dX0_usableSize_13 hl (by decide) rfl (fun ls hl => ?_)
  refine lv_iconst (v := 1) hx hb dX0_usableSize_15 (by decide) ?_
  refine lv_istore (lv' := [(5, .int (1 : Int32)), (4, .int v13), (3, .ref (rC (Int32.toNatClampNeg x1))), (0, .ref (aC 0)), (1, .int x1), (2, .ref (aP 0))]) hx hb dX0_usableSize_16 hl (by decide) rfl (fun ls hl => ?_)
  exact J18 4000 v13 (1 : Int32) _ _ _ hf hP hD hS (lv_sub hl [5, 2, 1, 0] rfl)
set_option maxHeartbeats 8000000 in
set_option maxRecDepth 100000 in
theorem c_X0_use (l : Launch) (D : va_G) (cI cZ cII cJ cM : ClassId) (aC : Nat → Nat) (rC : Nat → Nat) (C_addresses : Nat → Nat → Int32) (C_sizes : Nat → Int32) (C_useNumbers : Nat → Int32) (C_lastUse : Int32) (C_put : Int32) (C_replaced : Int32) (C_dropped : Int32) (x1 : Int32) (sz : Nat) (y : (Nat → Int32) × (Int32)) (hf : m_X0_use C_useNumbers C_lastUse x1 = some y) : Met l yX0_use wsX0_use ({ frames := 0, cells := 0, slots := 0, locals := 0 } : Room) (va_Pc [.ref (aC 0), .int x1] (pzPre D (zT cI cZ cII cJ cM) (wX0 cI cZ cII aC rC C_addresses C_sizes C_useNumbers C_lastUse C_put C_replaced C_dropped ++ []) sz)) (va_Qv (fun (_ : Unit) => True) (fun _ t => pzB D (zT cI cZ cII cJ cM) (va_A (wX0 cI cZ cII aC rC C_addresses C_sizes C_useNumbers C_lastUse C_put C_replaced C_dropped ++ []) sz) (wX0 cI cZ cII aC rC C_addresses C_sizes y.1 y.2 C_put C_replaced C_dropped ++ []) t) (va_A (wX0 cI cZ cII aC rC C_addresses C_sizes C_useNumbers C_lastUse C_put C_replaced C_dropped ++ []) sz)) 0 0 (va_A (wX0 cI cZ cII aC rC C_addresses C_sizes C_useNumbers C_lastUse C_put C_replaced C_dropped ++ []) sz) := by
  refine z_metv (cc := cX0_use) (maxL := 2) (by decide) rfl (Nat.le_of_ble_eq_true rfl) ?_
  intro p e s m args below meth c A ls Q H locs F hP hD hS hl hret
  obtain ⟨hx, hb, hml, hown, hts, hN, hK, hA⟩ := F
  have hown : s.vm.findClass RX0 = some m.cls := hown
  have hl : lv_has ls 2 [(0, .ref (aC 0)), (1, .int x1)] := hl
  have inX0 : ∀ w ∈ u_ws RX0 TX0 7, w ∈ wsX0_use := by decide +kernel
  have kX0_20 := hts (.fieldLink RX0 20 "TraceCache$Cache" "useNumbers" "[I") (by decide +kernel)
  have kX0_29 := hts (.fieldLink RX0 29 "TraceCache$Cache" "lastUse" "I") (by decide +kernel)
  unfold m_X0_use at hf
  refine lv_aload_n hx hb dX0_use_0 rfl (lv_at hl 0 rfl) ?_
  refine lv_dup hx hb dX0_use_1 rfl ?_
  refine va_get (D := D) (ci := 0) (v := .int C_lastUse) (C := RX0) (T := TX0) (N := 7) hx hb hts inX0 hown hK hP 0 rfl rfl 3 (by decide) kX0_29 (fun _ h9 => h9) rfl dX0_use_2 ?_
  refine lv_iconst (v := 1) hx hb dX0_use_5 (by decide) ?_
  refine lv_iadd hx hb dX0_use_6 ?_
  refine lv_topi (fun v7 ev7 => ?_)
  have hf := bd_t ev7 hf
  refine va_put (D := D) (ci := 0) (v := .int v7) (ty := .int) (C := RX0) (T := TX0) (N := 7) hx hb hts inX0 tyX0 tyX0_ok nmX0 hown hK hP hD hS 0 rfl rfl 3 (by decide) kX0_29 (fun _ h9 => h9) rfl (by decide +kernel) rfl rfl (Nat.le_of_ble_eq_true rfl) dX0_use_7 (fun H locs hP hD hS => ?_)
  have hP : va_P D vwCl (wX0 cI cZ cII aC rC C_addresses C_sizes C_useNumbers v7 C_put C_replaced C_dropped ++ []) H := hP
  have hD : va_D A (wX0 cI cZ cII aC rC C_addresses C_sizes C_useNumbers v7 C_put C_replaced C_dropped ++ []) := hD
  refine lv_aload_n hx hb dX0_use_10 rfl (lv_at hl 0 rfl) ?_
  refine va_get (D := D) (ci := 0) (v := .ref (aC 3)) (C := RX0) (T := TX0) (N := 7) hx hb hts inX0 hown hK hP 0 rfl rfl 2 (by decide) kX0_20 (fun _ h9 => h9) rfl dX0_use_11 ?_
  refine lv_iload_n hx hb dX0_use_14 rfl (lv_at hl 1 rfl) ?_
  refine lv_aload_n hx hb dX0_use_15 rfl (lv_at hl 0 rfl) ?_
  refine va_get (D := D) (ci := 0) (v := .int v7) (C := RX0) (T := TX0) (N := 7) hx hb hts inX0 hown hK hP 0 rfl rfl 3 (by decide) kX0_29 (fun _ h9 => h9) rfl dX0_use_16 ?_
  obtain ⟨g19, hf⟩ := gd_t hf
  refine va_iast hx hb hK hP hD hS 3 0 rfl rfl (inb_t g19) dX0_use_19 (fun H locs hP hD hS => ?_)
  obtain ⟨C_useNumbers_19, eC_useNumbers_19⟩ : ∃ z : Nat → Int32, z = upd C_useNumbers (Int32.toNatClampNeg x1) v7 := ⟨_, rfl⟩
  have hf := bd_t eC_useNumbers_19 hf
  have hP : va_P D vwCl (wX0 cI cZ cII aC rC C_addresses C_sizes C_useNumbers_19 v7 C_put C_replaced C_dropped ++ []) H := by rw [eC_useNumbers_19]; exact hP
  have hD : va_D A (wX0 cI cZ cII aC rC C_addresses C_sizes C_useNumbers_19 v7 C_put C_replaced C_dropped ++ []) := by rw [eC_useNumbers_19]; exact hD
  obtain rfl := Option.some.inj hf
  exact hret _ _ _ _ dX0_use_20 hP hD hS
set_option maxHeartbeats 8000000 in
set_option maxRecDepth 100000 in
theorem c_X0_isSame (l : Launch) (D : va_G) (cI cZ cII cJ cM : ClassId) (aL : Nat → Nat) (aC : Nat → Nat) (rC : Nat → Nat) (L_row : Nat → Int32) (C_addresses : Nat → Nat → Int32) (C_sizes : Nat → Int32) (C_useNumbers : Nat → Int32) (C_lastUse : Int32) (C_put : Int32) (C_replaced : Int32) (C_dropped : Int32) (x1 : Int32) (x3 : Int32) (sz : Nat) (y : (Int32)) (hf : m_X0_isSame L_row C_addresses C_sizes x1 x3 = some y) : Met l yX0_isSame wsX0_isSame ({ frames := 0, cells := 0, slots := 0, locals := 0 } : Room) (va_Pc [.ref (aC 0), .int x1, .ref (aL 0), .int x3] (pzPre D (zT cI cZ cII cJ cM) (zA cI aL 8 L_row ++ (wX0 cI cZ cII aC rC C_addresses C_sizes C_useNumbers C_lastUse C_put C_replaced C_dropped ++ [])) sz)) (va_Qi (fun v (_ : Unit) => v = y) (fun _ t => pzB D (zT cI cZ cII cJ cM) (va_A (zA cI aL 8 L_row ++ (wX0 cI cZ cII aC rC C_addresses C_sizes C_useNumbers C_lastUse C_put C_replaced C_dropped ++ [])) sz) (zA cI aL 8 L_row ++ (wX0 cI cZ cII aC rC C_addresses C_sizes C_useNumbers C_lastUse C_put C_replaced C_dropped ++ [])) t) (va_A (zA cI aL 8 L_row ++ (wX0 cI cZ cII aC rC C_addresses C_sizes C_useNumbers C_lastUse C_put C_replaced C_dropped ++ [])) sz)) 0 0 (va_A (zA cI aL 8 L_row ++ (wX0 cI cZ cII aC rC C_addresses C_sizes C_useNumbers C_lastUse C_put C_replaced C_dropped ++ [])) sz) := by
  refine z_metz (cc := cX0_isSame) (maxL := 5) (by decide) rfl (Nat.le_of_ble_eq_true rfl) ?_
  intro p e s m args below meth c A ls Q H locs F hP hD hS hl hret
  obtain ⟨hx, hb, hml, hown, hts, hN, hK, hA⟩ := F
  have hown : s.vm.findClass RX0 = some m.cls := hown
  have hl : lv_has ls 5 [(0, .ref (aC 0)), (1, .int x1), (2, .ref (aL 0)), (3, .int x3)] := hl
  have inX0 : ∀ w ∈ u_ws RX0 TX0 7, w ∈ wsX0_isSame := by decide +kernel
  have kX0_11 := hts (.fieldLink RX0 11 "TraceCache$Cache" "addresses" "[[I") (by decide +kernel)
  have kX0_16 := hts (.fieldLink RX0 16 "TraceCache$Cache" "sizes" "[I") (by decide +kernel)
  have J15 : ∀ (n15 : Nat), ∀ (x4 : Int32) (H : Heap) (locs : List Loc) (ls : Array Slot), m_X0_isSame_15 L_row C_addresses C_sizes x1 x3 n15 x4 = some y → va_P D vwCl (zA cI aL 8 L_row ++ (wX0 cI cZ cII aC rC C_addresses C_sizes C_useNumbers C_lastUse C_put C_replaced C_dropped ++ [])) H → va_D A (zA cI aL 8 L_row ++ (wX0 cI cZ cII aC rC C_addresses C_sizes C_useNumbers C_lastUse C_put C_replaced C_dropped ++ [])) → va_S A s.heap H locs → lv_has ls 5 [(0, .ref (aC 0)), (1, .int x1), (2, .ref (aL 0)), (3, .int x3), (4, .int x4)] → W p l e ({ frames := 0, cells := 0, slots := 0, locals := 0 } : Room) s m args below meth c H locs 0 0 Q (F0 m 15 ls []) := by
    intro n15
    induction n15 with
    | zero =>
      intro x4 H locs ls hf hP hD hS hl
      rw [m_X0_isSame_15] at hf
      cases hf
    | succ n15 ih15 =>
      intro x4 H locs ls hf hP hD hS hl
      rw [m_X0_isSame_15] at hf
      refine lv_iload hx hb dX0_isSame_15 (lv_at hl 4 rfl) ?_
      refine lv_iload_n hx hb dX0_isSame_17 rfl (lv_at hl 3 rfl) ?_
      refine lv_icmp_ge (tgt := 45) hx hb dX0_isSame_18 (by decide) (fun c18 => ?_) (fun c18 => ?_)
      · have hf := if_t c18 hf
        refine lv_iconst (v := 1) hx hb dX0_isSame_45 (by decide) ?_
        obtain rfl := Option.some.inj hf
        exact hret _ _ _ _ _ dX0_isSame_46 (by decide) rfl hP hD hS
      · have hf := if_f c18 hf
        refine lv_aload_n hx hb dX0_isSame_21 rfl (lv_at hl 0 rfl) ?_
        refine va_get (D := D) (ci := 0) (v := .ref (aC 1)) (C := RX0) (T := TX0) (N := 7) hx hb hts inX0 hown hK hP 1 rfl rfl 0 (by decide) kX0_11 (fun _ h9 => h9) rfl dX0_isSame_22 ?_
        refine lv_iload_n hx hb dX0_isSame_25 rfl (lv_at hl 1 rfl) ?_
        obtain ⟨g26, hf⟩ := gd_t hf
        refine z_aald8 (rr := rC) hx hb hK hP 2 2 rfl rfl (inb_t g26) (inb_c g26) dX0_isSame_26 ?_
        refine lv_iload hx hb dX0_isSame_27 (lv_at hl 4 rfl) ?_
        obtain ⟨g29, hf⟩ := gd_t hf
        refine va_iald hx hb hK hP _ 0 (wX0_row (cZ := cZ) (x := (zA cI aL 8 L_row)) (inb_c g26)) rfl (inb_t g29) dX0_isSame_29 ?_
        refine lv_aload_n hx hb dX0_isSame_30 rfl (lv_at hl 2 rfl) ?_
        refine lv_iload hx hb dX0_isSame_31 (lv_at hl 4 rfl) ?_
        obtain ⟨g33, hf⟩ := gd_t hf
        refine va_iald hx hb hK hP 0 0 rfl rfl (inb_t g33) dX0_isSame_33 ?_
        refine lv_icmp_eq (tgt := 39) hx hb dX0_isSame_34 (by decide) (fun c34 => ?_) (fun c34 => ?_)
        · have hf := if_t c34 hf
          obtain ⟨v39, ev39⟩ : ∃ z : Int32, z = x4 + (1 : Int32) := ⟨_, rfl⟩
          have hf := bd_t ev39 hf
          refine lv_iinc (v := v39) (lv' := [(4, .int v39), (0, .ref (aC 0)), (1, .int x1), (2, .ref (aL 0)), (3, .int x3)]) hx hb dX0_isSame_39 hl (k := 4) rfl (by rw [ev39]; rfl) (by decide) rfl (fun ls hl => ?_)
          refine lv_goto (tgt := 15) hx hb dX0_isSame_42 (by decide) ?_
          exact ih15 v39 _ _ _ hf hP hD hS (lv_sub hl [1, 2, 3, 4, 0] rfl)
        · have hf := if_f c34 hf
          refine lv_iconst (v := 0) hx hb dX0_isSame_37 (by decide) ?_
          obtain rfl := Option.some.inj hf
          exact hret _ _ _ _ _ dX0_isSame_38 (by decide) rfl hP hD hS
  unfold m_X0_isSame at hf
  refine lv_aload_n hx hb dX0_isSame_0 rfl (lv_at hl 0 rfl) ?_
  refine va_get (D := D) (ci := 0) (v := .ref (aC 2)) (C := RX0) (T := TX0) (N := 7) hx hb hts inX0 hown hK hP 1 rfl rfl 1 (by decide) kX0_16 (fun _ h9 => h9) rfl dX0_isSame_1 ?_
  refine lv_iload_n hx hb dX0_isSame_4 rfl (lv_at hl 1 rfl) ?_
  obtain ⟨g5, hf⟩ := gd_t hf
  refine va_iald hx hb hK hP 3 0 rfl rfl (inb_t g5) dX0_isSame_5 ?_
  refine lv_iload_n hx hb dX0_isSame_6 rfl (lv_at hl 3 rfl) ?_
  refine lv_icmp_eq (tgt := 12) hx hb dX0_isSame_7 (by decide) (fun c7 => ?_) (fun c7 => ?_)
  · have hf := if_t c7 hf
    refine lv_iconst (v := 0) hx hb dX0_isSame_12 (by decide) ?_
    refine lv_istore (lv' := [(4, .int (0 : Int32)), (0, .ref (aC 0)), (1, .int x1), (2, .ref (aL 0)), (3, .int x3)]) hx hb dX0_isSame_13 hl (by decide) rfl (fun ls hl => ?_)
    exact J15 4000 (0 : Int32) _ _ _ hf hP hD hS (lv_sub hl [1, 2, 3, 4, 0] rfl)
  · have hf := if_f c7 hf
    refine lv_iconst (v := 0) hx hb dX0_isSame_10 (by decide) ?_
    obtain rfl := Option.some.inj hf
    exact hret _ _ _ _ _ dX0_isSame_11 (by decide) rfl hP hD hS
set_option maxHeartbeats 8000000 in
set_option maxRecDepth 100000 in
theorem c_X0_placeToFill (l : Launch) (D : va_G) (cI cZ cII cJ cM : ClassId) (aC : Nat → Nat) (rC : Nat → Nat) (C_addresses : Nat → Nat → Int32) (C_sizes : Nat → Int32) (C_useNumbers : Nat → Int32) (C_lastUse : Int32) (C_put : Int32) (C_replaced : Int32) (C_dropped : Int32) (x1 : Int32) (sz : Nat) (y : (Int32)) (hf : m_X0_placeToFill C_sizes C_useNumbers x1 = some y) : Met l yX0_placeToFill wsX0_placeToFill ({ frames := 0, cells := 0, slots := 0, locals := 0 } : Room) (va_Pc [.ref (aC 0), .int x1] (pzPre D (zT cI cZ cII cJ cM) (wX0 cI cZ cII aC rC C_addresses C_sizes C_useNumbers C_lastUse C_put C_replaced C_dropped ++ []) sz)) (va_Qi (fun v (_ : Unit) => v = y) (fun _ t => pzB D (zT cI cZ cII cJ cM) (va_A (wX0 cI cZ cII aC rC C_addresses C_sizes C_useNumbers C_lastUse C_put C_replaced C_dropped ++ []) sz) (wX0 cI cZ cII aC rC C_addresses C_sizes C_useNumbers C_lastUse C_put C_replaced C_dropped ++ []) t) (va_A (wX0 cI cZ cII aC rC C_addresses C_sizes C_useNumbers C_lastUse C_put C_replaced C_dropped ++ []) sz)) 0 0 (va_A (wX0 cI cZ cII aC rC C_addresses C_sizes C_useNumbers C_lastUse C_put C_replaced C_dropped ++ []) sz) := by
  refine z_meti (cc := cX0_placeToFill) (maxL := 4) (by decide) rfl (Nat.le_of_ble_eq_true rfl) ?_
  intro p e s m args below meth c A ls Q H locs F hP hD hS hl hret
  obtain ⟨hx, hb, hml, hown, hts, hN, hK, hA⟩ := F
  have hown : s.vm.findClass RX0 = some m.cls := hown
  have hl : lv_has ls 4 [(0, .ref (aC 0)), (1, .int x1)] := hl
  have inX0 : ∀ w ∈ u_ws RX0 TX0 7, w ∈ wsX0_placeToFill := by decide +kernel
  have kX0_16 := hts (.fieldLink RX0 16 "TraceCache$Cache" "sizes" "[I") (by decide +kernel)
  have kX0_20 := hts (.fieldLink RX0 20 "TraceCache$Cache" "useNumbers" "[I") (by decide +kernel)
  have J4 : ∀ (n4 : Nat), ∀ (x2 : Int32) (x3 : Int32) (H : Heap) (locs : List Loc) (ls : Array Slot), m_X0_placeToFill_4 C_sizes C_useNumbers x1 n4 x2 x3 = some y → va_P D vwCl (wX0 cI cZ cII aC rC C_addresses C_sizes C_useNumbers C_lastUse C_put C_replaced C_dropped ++ []) H → va_D A (wX0 cI cZ cII aC rC C_addresses C_sizes C_useNumbers C_lastUse C_put C_replaced C_dropped ++ []) → va_S A s.heap H locs → lv_has ls 4 [(0, .ref (aC 0)), (1, .int x1), (2, .int x2), (3, .int x3)] → W p l e ({ frames := 0, cells := 0, slots := 0, locals := 0 } : Room) s m args below meth c H locs 0 0 Q (F0 m 4 ls []) := by
    intro n4
    induction n4 with
    | zero =>
      intro x2 x3 H locs ls hf hP hD hS hl
      rw [m_X0_placeToFill_4] at hf
      cases hf
    | succ n4 ih4 =>
      have J39 : ∀ (x2 : Int32) (x3 : Int32) (H : Heap) (locs : List Loc) (ls : Array Slot), m_X0_placeToFill_39 C_sizes C_useNumbers x1 (m_X0_placeToFill_4 C_sizes C_useNumbers x1 n4) x2 x3 = some y → va_P D vwCl (wX0 cI cZ cII aC rC C_addresses C_sizes C_useNumbers C_lastUse C_put C_replaced C_dropped ++ []) H → va_D A (wX0 cI cZ cII aC rC C_addresses C_sizes C_useNumbers C_lastUse C_put C_replaced C_dropped ++ []) → va_S A s.heap H locs → lv_has ls 4 [(0, .ref (aC 0)), (1, .int x1), (2, .int x2), (3, .int x3)] → W p l e ({ frames := 0, cells := 0, slots := 0, locals := 0 } : Room) s m args below meth c H locs 0 0 Q (F0 m 39 ls []) := by
        intro x2 x3 H locs ls hf hP hD hS hl
        unfold m_X0_placeToFill_39 at hf
        obtain ⟨v39, ev39⟩ : ∃ z : Int32, z = x3 + (1 : Int32) := ⟨_, rfl⟩
        have hf := bd_t ev39 hf
        refine lv_iinc (v := v39) (lv' := [(3, .int v39), (0, .ref (aC 0)), (1, .int x1), (2, .int x2)]) hx hb dX0_placeToFill_39 hl (k := 3) rfl (by rw [ev39]; rfl) (by decide) rfl (fun ls hl => ?_)
        refine lv_goto (tgt := 4) hx hb dX0_placeToFill_42 (by decide) ?_
        exact ih4 x2 v39 _ _ _ hf hP hD hS (lv_sub hl [1, 2, 3, 0] rfl)
      intro x2 x3 H locs ls hf hP hD hS hl
      rw [m_X0_placeToFill_4] at hf
      refine lv_iload_n hx hb dX0_placeToFill_4 rfl (lv_at hl 3 rfl) ?_
      refine lv_iload_n hx hb dX0_placeToFill_5 rfl (lv_at hl 1 rfl) ?_
      refine lv_iconst (v := 2) hx hb dX0_placeToFill_6 (by decide) ?_
      refine lv_iadd hx hb dX0_placeToFill_7 ?_
      refine lv_icmp_ge (tgt := 45) hx hb dX0_placeToFill_8 (by decide) (fun c8 => ?_) (fun c8 => ?_)
      · have hf := if_t c8 hf
        refine lv_iload_n hx hb dX0_placeToFill_45 rfl (lv_at hl 2 rfl) ?_
        obtain rfl := Option.some.inj hf
        exact hret _ _ _ _ _ dX0_placeToFill_46 rfl hP hD hS
      · have hf := if_f c8 hf
        refine lv_aload_n hx hb dX0_placeToFill_11 rfl (lv_at hl 0 rfl) ?_
        refine va_get (D := D) (ci := 0) (v := .ref (aC 2)) (C := RX0) (T := TX0) (N := 7) hx hb hts inX0 hown hK hP 0 rfl rfl 1 (by decide) kX0_16 (fun _ h9 => h9) rfl dX0_placeToFill_12 ?_
        refine lv_iload_n hx hb dX0_placeToFill_15 rfl (lv_at hl 3 rfl) ?_
        obtain ⟨g16, hf⟩ := gd_t hf
        refine va_iald hx hb hK hP 2 0 rfl rfl (inb_t g16) dX0_placeToFill_16 ?_
        refine lv_if_ne (tgt := 22) hx hb dX0_placeToFill_17 (by decide) (fun c17 => ?_) (fun c17 => ?_)
        · have hf := if_f c17 hf
          refine lv_aload_n hx hb dX0_placeToFill_22 rfl (lv_at hl 0 rfl) ?_
          refine va_get (D := D) (ci := 0) (v := .ref (aC 3)) (C := RX0) (T := TX0) (N := 7) hx hb hts inX0 hown hK hP 0 rfl rfl 2 (by decide) kX0_20 (fun _ h9 => h9) rfl dX0_placeToFill_23 ?_
          refine lv_iload_n hx hb dX0_placeToFill_26 rfl (lv_at hl 3 rfl) ?_
          obtain ⟨g27, hf⟩ := gd_t hf
          refine va_iald hx hb hK hP 3 0 rfl rfl (inb_t g27) dX0_placeToFill_27 ?_
          refine lv_aload_n hx hb dX0_placeToFill_28 rfl (lv_at hl 0 rfl) ?_
          refine va_get (D := D) (ci := 0) (v := .ref (aC 3)) (C := RX0) (T := TX0) (N := 7) hx hb hts inX0 hown hK hP 0 rfl rfl 2 (by decide) kX0_20 (fun _ h9 => h9) rfl dX0_placeToFill_29 ?_
          refine lv_iload_n hx hb dX0_placeToFill_32 rfl (lv_at hl 2 rfl) ?_
          obtain ⟨g33, hf⟩ := gd_t hf
          refine va_iald hx hb hK hP 3 0 rfl rfl (inb_t g33) dX0_placeToFill_33 ?_
          refine lv_icmp_ge (tgt := 39) hx hb dX0_placeToFill_34 (by decide) (fun c34 => ?_) (fun c34 => ?_)
          · have hf := if_t c34 hf
            exact J39 x2 x3 _ _ _ hf hP hD hS (lv_sub hl [0, 1, 2, 3] rfl)
          · have hf := if_f c34 hf
            refine lv_iload_n hx hb dX0_placeToFill_37 rfl (lv_at hl 3 rfl) ?_
            refine lv_istore_n (lv' := [(2, .int x3), (0, .ref (aC 0)), (1, .int x1), (3, .int x3)]) hx hb dX0_placeToFill_38 rfl hl (by decide) rfl (fun ls hl => ?_)
            exact J39 x3 x3 _ _ _ hf hP hD hS (lv_sub hl [1, 2, 0, 3] rfl)
        · have hf := if_t c17 hf
          refine lv_iload_n hx hb dX0_placeToFill_20 rfl (lv_at hl 3 rfl) ?_
          obtain rfl := Option.some.inj hf
          exact hret _ _ _ _ _ dX0_placeToFill_21 rfl hP hD hS
  unfold m_X0_placeToFill at hf
  refine lv_iload_n hx hb dX0_placeToFill_0 rfl (lv_at hl 1 rfl) ?_
  refine lv_istore_n (lv' := [(2, .int x1), (0, .ref (aC 0)), (1, .int x1)]) hx hb dX0_placeToFill_1 rfl hl (by decide) rfl (fun ls hl => ?_)
  refine lv_iload_n hx hb dX0_placeToFill_2 rfl (lv_at hl 2 rfl) ?_
  refine lv_istore_n (lv' := [(3, .int x1), (2, .int x1), (0, .ref (aC 0)), (1, .int x1)]) hx hb dX0_placeToFill_3 rfl hl (by decide) rfl (fun ls hl => ?_)
  exact J4 4000 x1 x1 _ _ _ hf hP hD hS (lv_sub hl [2, 3, 1, 0] rfl)
set_option maxHeartbeats 8000000 in
set_option maxRecDepth 100000 in
theorem c_X0_store (l : Launch) (D : va_G) (cI cZ cII cJ cM : ClassId) (aL : Nat → Nat) (aC : Nat → Nat) (rC : Nat → Nat) (L_row : Nat → Int32) (C_addresses : Nat → Nat → Int32) (C_sizes : Nat → Int32) (C_useNumbers : Nat → Int32) (C_lastUse : Int32) (C_put : Int32) (C_replaced : Int32) (C_dropped : Int32) (x2 : Int32) (sz : Nat) (y : (Nat → Nat → Int32) × (Nat → Int32) × (Nat → Int32) × (Int32) × (Int32) × (Int32)) (hf : m_X0_store L_row C_addresses C_sizes C_useNumbers C_lastUse C_put C_replaced x2 = some y) : Met l yX0_store wsX0_store ({ frames := 1, cells := 0, slots := 0, locals := 60 } : Room) (va_Pc [.ref (aC 0), .ref (aL 0), .int x2] (pzPre D (zT cI cZ cII cJ cM) (zA cI aL 8 L_row ++ (wX0 cI cZ cII aC rC C_addresses C_sizes C_useNumbers C_lastUse C_put C_replaced C_dropped ++ [])) sz)) (va_Qv (fun (_ : Unit) => True) (fun _ t => pzB D (zT cI cZ cII cJ cM) (va_A (zA cI aL 8 L_row ++ (wX0 cI cZ cII aC rC C_addresses C_sizes C_useNumbers C_lastUse C_put C_replaced C_dropped ++ [])) sz) (zA cI aL 8 L_row ++ (wX0 cI cZ cII aC rC y.1 y.2.1 y.2.2.1 y.2.2.2.1 y.2.2.2.2.1 y.2.2.2.2.2 C_dropped ++ [])) t) (va_A (zA cI aL 8 L_row ++ (wX0 cI cZ cII aC rC C_addresses C_sizes C_useNumbers C_lastUse C_put C_replaced C_dropped ++ [])) sz)) 0 0 (va_A (zA cI aL 8 L_row ++ (wX0 cI cZ cII aC rC C_addresses C_sizes C_useNumbers C_lastUse C_put C_replaced C_dropped ++ [])) sz) := by
  refine z_metv (cc := cX0_store) (maxL := 5) (by decide) rfl (Nat.le_of_ble_eq_true rfl) ?_
  intro p e s m args below meth c A ls Q H locs F hP hD hS hl hret
  obtain ⟨hx, hb, hml, hown, hts, hN, hK, hA⟩ := F
  have hown : s.vm.findClass RX0 = some m.cls := hown
  have hl : lv_has ls 5 [(0, .ref (aC 0)), (1, .ref (aL 0)), (2, .int x2)] := hl
  have inX0 : ∀ w ∈ u_ws RX0 TX0 7, w ∈ wsX0_store := by decide +kernel
  have kX0_11 := hts (.fieldLink RX0 11 "TraceCache$Cache" "addresses" "[[I") (by decide +kernel)
  have kX0_16 := hts (.fieldLink RX0 16 "TraceCache$Cache" "sizes" "[I") (by decide +kernel)
  have kX0_33 := hts (.fieldLink RX0 33 "TraceCache$Cache" "put" "I") (by decide +kernel)
  have kX0_36 := hts (.fieldLink RX0 36 "TraceCache$Cache" "replaced" "I") (by decide +kernel)
  have J69 : ∀ (C_addresses : Nat → Nat → Int32) (C_sizes : Nat → Int32) (C_useNumbers : Nat → Int32) (C_lastUse : Int32) (C_put : Int32) (C_replaced : Int32) (x4 : Int32) (H : Heap) (locs : List Loc) (ls : Array Slot), m_X0_store_69 L_row x2 C_addresses C_sizes C_useNumbers C_lastUse C_put C_replaced x4 = some y → va_P D vwCl (zA cI aL 8 L_row ++ (wX0 cI cZ cII aC rC C_addresses C_sizes C_useNumbers C_lastUse C_put C_replaced C_dropped ++ [])) H → va_D A (zA cI aL 8 L_row ++ (wX0 cI cZ cII aC rC C_addresses C_sizes C_useNumbers C_lastUse C_put C_replaced C_dropped ++ [])) → va_S A s.heap H locs → lv_has ls 5 [(0, .ref (aC 0)), (1, .ref (aL 0)), (2, .int x2), (4, .int x4)] → W p l e ({ frames := 1, cells := 0, slots := 0, locals := 60 } : Room) s m args below meth c H locs 0 0 Q (F0 m 69 ls []) := by
    intro C_addresses C_sizes C_useNumbers C_lastUse C_put C_replaced x4 H locs ls hf hP hD hS hl
    unfold m_X0_store_69 at hf
    refine lv_aload_n hx hb dX0_store_69 rfl (lv_at hl 1 rfl) ?_
    refine lv_iconst (v := 0) hx hb dX0_store_70 (by decide) ?_
    refine lv_aload_n hx hb dX0_store_71 rfl (lv_at hl 0 rfl) ?_
    refine va_get (D := D) (ci := 0) (v := .ref (aC 1)) (C := RX0) (T := TX0) (N := 7) hx hb hts inX0 hown hK hP 1 rfl rfl 0 (by decide) kX0_11 (fun _ h9 => h9) rfl dX0_store_72 ?_
    refine lv_iload hx hb dX0_store_75 (lv_at hl 3 rfl) ?_
    obtain ⟨g77, hf⟩ := gd_t hf
    refine z_aald8 (rr := rC) hx hb hK hP 2 2 rfl rfl (inb_t g77) (inb_c g77) dX0_store_77 ?_
    refine lv_iconst (v := 0) hx hb dX0_store_78 (by decide) ?_
    refine lv_iload_n hx hb dX0_store_79 rfl (lv_at hl 2 rfl) ?_
    obtain ⟨g80, hf⟩ := gd_t hf
    obtain ⟨g801, g802, g803, g804, g805⟩ := cpb_t g80
    refine va_copyi hx hb (hml.trans hl.1.symm) hown (hts (.methodLink RX0 23 arraycopyName) (by decide +kernel)) (hts (.native arraycopyName) (by decide +kernel)) (hts (.static arraycopyName) (by decide +kernel)) (hts (.initialized "java/lang/System") (by decide +kernel)) hK hP hD hS 0 _ 0 0 rfl (wX0_row (cZ := cZ) (x := (zA cI aL 8 L_row)) (inb_c g77)) rfl rfl rfl g801 g802 g803 g804 g805 (fun _ _ => rfl) (Nat.le_of_ble_eq_true rfl) (Nat.le_of_ble_eq_true rfl) dX0_store_80 (fun H locs hP hD hS => ?_)
    have hP := Eq.mp (congrArg (fun w => va_P D vwCl w H) (wX0_set (cI := cI) (cZ := cZ) (cII := cII) (a := aC) (rr := rC) (M := C_addresses) (sz := C_sizes) (us := C_useNumbers) (n1 := C_lastUse) (n2 := C_put) (n3 := C_replaced) (n4 := C_dropped) (x := (zA cI aL 8 L_row)) (y := ([] : va_W)) (inb_c g77) (va_cpy L_row (C_addresses (Int32.toNatClampNeg x4)) (Int32.toNatClampNeg (0 : Int32)) (Int32.toNatClampNeg (0 : Int32)) (Int32.toNatClampNeg x2)))) hP
    have hD := Eq.mp (congrArg (fun w => va_D A w) (wX0_set (cI := cI) (cZ := cZ) (cII := cII) (a := aC) (rr := rC) (M := C_addresses) (sz := C_sizes) (us := C_useNumbers) (n1 := C_lastUse) (n2 := C_put) (n3 := C_replaced) (n4 := C_dropped) (x := (zA cI aL 8 L_row)) (y := ([] : va_W)) (inb_c g77) (va_cpy L_row (C_addresses (Int32.toNatClampNeg x4)) (Int32.toNatClampNeg (0 : Int32)) (Int32.toNatClampNeg (0 : Int32)) (Int32.toNatClampNeg x2)))) hD
    obtain ⟨C_addresses_80, eC_addresses_80⟩ : ∃ z : Nat → Nat → Int32, z = va_up C_addresses (Int32.toNatClampNeg x4) (va_cpy L_row (C_addresses (Int32.toNatClampNeg x4)) (Int32.toNatClampNeg (0 : Int32)) (Int32.toNatClampNeg (0 : Int32)) (Int32.toNatClampNeg x2)) := ⟨_, rfl⟩
    have hf := bd_t eC_addresses_80 hf
    have hP : va_P D vwCl (zA cI aL 8 L_row ++ (wX0 cI cZ cII aC rC C_addresses_80 C_sizes C_useNumbers C_lastUse C_put C_replaced C_dropped ++ [])) H := by rw [eC_addresses_80]; exact hP
    have hD : va_D A (zA cI aL 8 L_row ++ (wX0 cI cZ cII aC rC C_addresses_80 C_sizes C_useNumbers C_lastUse C_put C_replaced C_dropped ++ [])) := by rw [eC_addresses_80]; exact hD
    refine lv_aload_n hx hb dX0_store_83 rfl (lv_at hl 0 rfl) ?_
    refine va_get (D := D) (ci := 0) (v := .ref (aC 2)) (C := RX0) (T := TX0) (N := 7) hx hb hts inX0 hown hK hP 1 rfl rfl 1 (by decide) kX0_16 (fun _ h9 => h9) rfl dX0_store_84 ?_
    refine lv_iload hx hb dX0_store_87 (lv_at hl 3 rfl) ?_
    refine lv_iload_n hx hb dX0_store_89 rfl (lv_at hl 2 rfl) ?_
    obtain ⟨g90, hf⟩ := gd_t hf
    refine va_iast hx hb hK hP hD hS 3 0 rfl rfl (inb_t g90) dX0_store_90 (fun H locs hP hD hS => ?_)
    obtain ⟨C_sizes_90, eC_sizes_90⟩ : ∃ z : Nat → Int32, z = upd C_sizes (Int32.toNatClampNeg x4) x2 := ⟨_, rfl⟩
    have hf := bd_t eC_sizes_90 hf
    have hP : va_P D vwCl (zA cI aL 8 L_row ++ (wX0 cI cZ cII aC rC C_addresses_80 C_sizes_90 C_useNumbers C_lastUse C_put C_replaced C_dropped ++ [])) H := by rw [eC_sizes_90]; exact hP
    have hD : va_D A (zA cI aL 8 L_row ++ (wX0 cI cZ cII aC rC C_addresses_80 C_sizes_90 C_useNumbers C_lastUse C_put C_replaced C_dropped ++ [])) := by rw [eC_sizes_90]; exact hD
    refine lv_aload_n hx hb dX0_store_91 rfl (lv_at hl 0 rfl) ?_
    refine lv_dup hx hb dX0_store_92 rfl ?_
    refine va_get (D := D) (ci := 0) (v := .int C_put) (C := RX0) (T := TX0) (N := 7) hx hb hts inX0 hown hK hP 1 rfl rfl 4 (by decide) kX0_33 (fun _ h9 => h9) rfl dX0_store_93 ?_
    refine lv_iconst (v := 1) hx hb dX0_store_96 (by decide) ?_
    refine lv_iadd hx hb dX0_store_97 ?_
    refine lv_topi (fun v98 ev98 => ?_)
    have hf := bd_t ev98 hf
    refine va_put (D := D) (ci := 0) (v := .int v98) (ty := .int) (C := RX0) (T := TX0) (N := 7) hx hb hts inX0 tyX0 tyX0_ok nmX0 hown hK hP hD hS 1 rfl rfl 4 (by decide) kX0_33 (fun _ h9 => h9) rfl (by decide +kernel) rfl rfl (Nat.le_of_ble_eq_true rfl) dX0_store_98 (fun H locs hP hD hS => ?_)
    have hP : va_P D vwCl (zA cI aL 8 L_row ++ (wX0 cI cZ cII aC rC C_addresses_80 C_sizes_90 C_useNumbers C_lastUse v98 C_replaced C_dropped ++ [])) H := hP
    have hD : va_D A (zA cI aL 8 L_row ++ (wX0 cI cZ cII aC rC C_addresses_80 C_sizes_90 C_useNumbers C_lastUse v98 C_replaced C_dropped ++ [])) := hD
    refine lv_aload_n hx hb dX0_store_101 rfl (lv_at hl 0 rfl) ?_
    refine lv_iload hx hb dX0_store_102 (lv_at hl 3 rfl) ?_
    obtain ⟨y104, h104, hf⟩ := bn_t hf
    refine z_av (x := (zA cI aL 8 L_row)) (b := wX0 cI cZ cII aC rC C_addresses_80 C_sizes_90 C_useNumbers C_lastUse v98 C_replaced C_dropped ++ []) (y := ([] : va_W)) (b1 := wX0 cI cZ cII aC rC C_addresses_80 C_sizes_90 y104.1 y104.2 v98 C_replaced C_dropped ++ []) (wsn := zA cI aL 8 L_row ++ (wX0 cI cZ cII aC rC C_addresses_80 C_sizes_90 y104.1 y104.2 v98 C_replaced C_dropped ++ [])) (va_runV (As := [.int x4]) (rest := []) ⟨hx, hb, hml, hown, hts⟩ (c_X0_use l D cI cZ cII cJ cM aC rC C_addresses_80 C_sizes_90 C_useNumbers C_lastUse v98 C_replaced C_dropped x4 H.size y104 h104) (cwV 1 hts gX0_store_X0_use rfl rfl rfl (by decide +kernel) ⟨Nat.le_of_ble_eq_true rfl, Nat.le_of_ble_eq_true rfl⟩) (pz_V (x := (zA cI aL 8 L_row)) (b := wX0 cI cZ cII aC rC C_addresses_80 C_sizes_90 C_useNumbers C_lastUse v98 C_replaced C_dropped ++ []) (y := ([] : va_W)) (C := RX0) (T := TX0) (N := 7) (ci := 0) (As := [.int x4]) (bi := 0) hK hN hP hD (by simp only [List.append_assoc, List.nil_append, List.append_nil]) rfl rfl) rfl rfl hl.1 rfl (lv_room (Nat.le_of_ble_eq_true rfl)) dX0_store_104 ⟨Nat.le_of_ble_eq_true rfl, Nat.le_of_ble_eq_true rfl⟩) hP hD hS hA (by simp only [List.append_assoc, List.nil_append, List.append_nil]) (by simp only [List.append_assoc, List.nil_append, List.append_nil]) (fun H locs hP hD hS => ?_)
    obtain rfl := Option.some.inj hf
    exact hret _ _ _ _ dX0_store_107 hP hD hS
  have J10 : ∀ (n10 : Nat), ∀ (C_addresses : Nat → Nat → Int32) (C_sizes : Nat → Int32) (C_useNumbers : Nat → Int32) (C_lastUse : Int32) (C_put : Int32) (C_replaced : Int32) (x3 : Int32) (x4 : Int32) (H : Heap) (locs : List Loc) (ls : Array Slot), m_X0_store_10 L_row x2 n10 C_addresses C_sizes C_useNumbers C_lastUse C_put C_replaced x3 x4 = some y → va_P D vwCl (zA cI aL 8 L_row ++ (wX0 cI cZ cII aC rC C_addresses C_sizes C_useNumbers C_lastUse C_put C_replaced C_dropped ++ [])) H → va_D A (zA cI aL 8 L_row ++ (wX0 cI cZ cII aC rC C_addresses C_sizes C_useNumbers C_lastUse C_put C_replaced C_dropped ++ [])) → va_S A s.heap H locs → lv_has ls 5 [(0, .ref (aC 0)), (1, .ref (aL 0)), (2, .int x2), (3, .int x3), (4, .int x4)] → W p l e ({ frames := 1, cells := 0, slots := 0, locals := 60 } : Room) s m args below meth c H locs 0 0 Q (F0 m 10 ls []) := by
    intro n10
    induction n10 with
    | zero =>
      intro C_addresses C_sizes C_useNumbers C_lastUse C_put C_replaced x3 x4 H locs ls hf hP hD hS hl
      rw [m_X0_store_10] at hf
      cases hf
    | succ n10 ih10 =>
      intro C_addresses C_sizes C_useNumbers C_lastUse C_put C_replaced x3 x4 H locs ls hf hP hD hS hl
      rw [m_X0_store_10] at hf
      refine lv_iload hx hb dX0_store_10 (lv_at hl 4 rfl) ?_
      refine lv_iload_n hx hb dX0_store_12 rfl (lv_at hl 3 rfl) ?_
      refine lv_iconst (v := 2) hx hb dX0_store_13 (by decide) ?_
      refine lv_iadd hx hb dX0_store_14 ?_
      refine lv_icmp_ge (tgt := 42) hx hb dX0_store_15 (by decide) (fun c15 => ?_) (fun c15 => ?_)
      · have hf := if_t c15 hf
        refine lv_aload_n hx hb dX0_store_42 rfl (lv_at hl 0 rfl) ?_
        refine lv_iload_n hx hb dX0_store_43 rfl (lv_at hl 3 rfl) ?_
        obtain ⟨y44, h44, hf⟩ := bn_t hf
        refine z_ai (x := (zA cI aL 8 L_row)) (b := wX0 cI cZ cII aC rC C_addresses C_sizes C_useNumbers C_lastUse C_put C_replaced C_dropped ++ []) (y := ([] : va_W)) (b1 := wX0 cI cZ cII aC rC C_addresses C_sizes C_useNumbers C_lastUse C_put C_replaced C_dropped ++ []) (wsn := zA cI aL 8 L_row ++ (wX0 cI cZ cII aC rC C_addresses C_sizes C_useNumbers C_lastUse C_put C_replaced C_dropped ++ [])) (va_runV (As := [.int x3]) (rest := []) ⟨hx, hb, hml, hown, hts⟩ (c_X0_placeToFill l D cI cZ cII cJ cM aC rC C_addresses C_sizes C_useNumbers C_lastUse C_put C_replaced C_dropped x3 H.size y44 h44) (cwV 1 hts gX0_store_X0_placeToFill rfl rfl rfl (by decide +kernel) ⟨Nat.le_of_ble_eq_true rfl, Nat.le_of_ble_eq_true rfl⟩) (pz_V (x := (zA cI aL 8 L_row)) (b := wX0 cI cZ cII aC rC C_addresses C_sizes C_useNumbers C_lastUse C_put C_replaced C_dropped ++ []) (y := ([] : va_W)) (C := RX0) (T := TX0) (N := 7) (ci := 0) (As := [.int x3]) (bi := 0) hK hN hP hD (by simp only [List.append_assoc, List.nil_append, List.append_nil]) rfl rfl) rfl rfl hl.1 rfl (lv_room (Nat.le_of_ble_eq_true rfl)) dX0_store_44 ⟨Nat.le_of_ble_eq_true rfl, Nat.le_of_ble_eq_true rfl⟩) hP hD hS hA (by simp only [List.append_assoc, List.nil_append, List.append_nil]) (by simp only [List.append_assoc, List.nil_append, List.append_nil]) (fun H locs hP hD hS => ?_)
        refine lv_istore (lv' := [(4, .int y44), (0, .ref (aC 0)), (1, .ref (aL 0)), (2, .int x2), (3, .int x3)]) hx hb dX0_store_47 hl (by decide) rfl (fun ls hl => ?_)
        refine lv_aload_n hx hb dX0_store_49 rfl (lv_at hl 1 rfl) ?_
        refine va_get (D := D) (ci := 0) (v := .ref (aC 2)) (C := RX0) (T := TX0) (N := 7) hx hb hts inX0 hown hK hP 1 rfl rfl 1 (by decide) kX0_16 (fun _ h9 => h9) rfl dX0_store_50 ?_
        refine lv_iload hx hb dX0_store_53 (lv_at hl 0 rfl) ?_
        obtain ⟨g55, hf⟩ := gd_t hf
        refine va_iald hx hb hK hP 3 0 rfl rfl (inb_t g55) dX0_store_55 ?_
        refine lv_if_le (tgt := 69) hx hb dX0_store_56 (by decide) (fun c56 => ?_) (fun c56 => ?_)
        · have hf := if_t c56 hf
          exact J69 C_addresses C_sizes C_useNumbers C_lastUse C_put C_replaced y44 _ _ _ hf hP hD hS (lv_sub hl [1, 2, 3, 0] rfl)
        · have hf := if_f c56 hf
          refine lv_aload_n hx hb dX0_store_59 rfl (lv_at hl 1 rfl) ?_
          refine lv_dup hx hb dX0_store_60 rfl ?_
          refine va_get (D := D) (ci := 0) (v := .int C_replaced) (C := RX0) (T := TX0) (N := 7) hx hb hts inX0 hown hK hP 1 rfl rfl 5 (by decide) kX0_36 (fun _ h9 => h9) rfl dX0_store_61 ?_
          refine lv_iconst (v := 1) hx hb dX0_store_64 (by decide) ?_
          refine lv_iadd hx hb dX0_store_65 ?_
          refine lv_topi (fun v66 ev66 => ?_)
          have hf := bd_t ev66 hf
          refine va_put (D := D) (ci := 0) (v := .int v66) (ty := .int) (C := RX0) (T := TX0) (N := 7) hx hb hts inX0 tyX0 tyX0_ok nmX0 hown hK hP hD hS 1 rfl rfl 5 (by decide) kX0_36 (fun _ h9 => h9) rfl (by decide +kernel) rfl rfl (Nat.le_of_ble_eq_true rfl) dX0_store_66 (fun H locs hP hD hS => ?_)
          have hP : va_P D vwCl (zA cI aL 8 L_row ++ (wX0 cI cZ cII aC rC C_addresses C_sizes C_useNumbers C_lastUse C_put v66 C_dropped ++ [])) H := hP
          have hD : va_D A (zA cI aL 8 L_row ++ (wX0 cI cZ cII aC rC C_addresses C_sizes C_useNumbers C_lastUse C_put v66 C_dropped ++ [])) := hD
          exact J69 C_addresses C_sizes C_useNumbers C_lastUse C_put v66 y44 _ _ _ hf hP hD hS (lv_sub hl [1, 2, 3, 0] rfl)
      · have hf := if_f c15 hf
        refine lv_aload_n hx hb dX0_store_18 rfl (lv_at hl 0 rfl) ?_
        refine lv_iload hx hb dX0_store_19 (lv_at hl 4 rfl) ?_
        refine lv_aload_n hx hb dX0_store_21 rfl (lv_at hl 1 rfl) ?_
        refine lv_iload_n hx hb dX0_store_22 rfl (lv_at hl 2 rfl) ?_
        obtain ⟨y23, h23, hf⟩ := bn_t hf
        refine z_ai (x := []) (b := zA cI aL 8 L_row ++ (wX0 cI cZ cII aC rC C_addresses C_sizes C_useNumbers C_lastUse C_put C_replaced C_dropped ++ [])) (y := ([] : va_W)) (b1 := zA cI aL 8 L_row ++ (wX0 cI cZ cII aC rC C_addresses C_sizes C_useNumbers C_lastUse C_put C_replaced C_dropped ++ [])) (wsn := zA cI aL 8 L_row ++ (wX0 cI cZ cII aC rC C_addresses C_sizes C_useNumbers C_lastUse C_put C_replaced C_dropped ++ [])) (va_runV (As := [.int x4, .ref (aL 0), .int x2]) (rest := []) ⟨hx, hb, hml, hown, hts⟩ (c_X0_isSame l D cI cZ cII cJ cM aL aC rC L_row C_addresses C_sizes C_useNumbers C_lastUse C_put C_replaced C_dropped x4 x2 H.size y23 h23) (cwV 3 hts gX0_store_X0_isSame rfl rfl rfl (by decide +kernel) ⟨Nat.le_of_ble_eq_true rfl, Nat.le_of_ble_eq_true rfl⟩) (pz_V (x := []) (b := zA cI aL 8 L_row ++ (wX0 cI cZ cII aC rC C_addresses C_sizes C_useNumbers C_lastUse C_put C_replaced C_dropped ++ [])) (y := ([] : va_W)) (C := RX0) (T := TX0) (N := 7) (ci := 0) (As := [.int x4, .ref (aL 0), .int x2]) (bi := 1) hK hN hP hD (by simp only [List.append_assoc, List.nil_append, List.append_nil]) rfl rfl) rfl rfl hl.1 rfl (lv_room (Nat.le_of_ble_eq_true rfl)) dX0_store_23 ⟨Nat.le_of_ble_eq_true rfl, Nat.le_of_ble_eq_true rfl⟩) hP hD hS hA (by simp only [List.append_assoc, List.nil_append, List.append_nil]) (by simp only [List.append_assoc, List.nil_append, List.append_nil]) (fun H locs hP hD hS => ?_)
        refine lv_if_eq (tgt := 36) hx hb dX0_store_26 (by decide) (fun c26 => ?_) (fun c26 => ?_)
        · have hf := if_t c26 hf
          obtain ⟨v36, ev36⟩ : ∃ z : Int32, z = x4 + (1 : Int32) := ⟨_, rfl⟩
          have hf := bd_t ev36 hf
          refine lv_iinc (v := v36) (lv' := [(4, .int v36), (0, .ref (aC 0)), (1, .ref (aL 0)), (2, .int x2), (3, .int x3)]) hx hb dX0_store_36 hl (k := 4) rfl (by rw [ev36]; rfl) (by decide) rfl (fun ls hl => ?_)
          refine lv_goto (tgt := 10) hx hb dX0_store_39 (by decide) ?_
          exact ih10 C_addresses C_sizes C_useNumbers C_lastUse C_put C_replaced x3 v36 _ _ _ hf hP hD hS (lv_sub hl [1, 2, 3, 4, 0] rfl)
        · have hf := if_f c26 hf
          refine lv_aload_n hx hb dX0_store_29 rfl (lv_at hl 0 rfl) ?_
          refine lv_iload hx hb dX0_store_30 (lv_at hl 4 rfl) ?_
          obtain ⟨y32, h32, hf⟩ := bn_t hf
          refine z_av (x := (zA cI aL 8 L_row)) (b := wX0 cI cZ cII aC rC C_addresses C_sizes C_useNumbers C_lastUse C_put C_replaced C_dropped ++ []) (y := ([] : va_W)) (b1 := wX0 cI cZ cII aC rC C_addresses C_sizes y32.1 y32.2 C_put C_replaced C_dropped ++ []) (wsn := zA cI aL 8 L_row ++ (wX0 cI cZ cII aC rC C_addresses C_sizes y32.1 y32.2 C_put C_replaced C_dropped ++ [])) (va_runV (As := [.int x4]) (rest := []) ⟨hx, hb, hml, hown, hts⟩ (c_X0_use l D cI cZ cII cJ cM aC rC C_addresses C_sizes C_useNumbers C_lastUse C_put C_replaced C_dropped x4 H.size y32 h32) (cwV 1 hts gX0_store_X0_use rfl rfl rfl (by decide +kernel) ⟨Nat.le_of_ble_eq_true rfl, Nat.le_of_ble_eq_true rfl⟩) (pz_V (x := (zA cI aL 8 L_row)) (b := wX0 cI cZ cII aC rC C_addresses C_sizes C_useNumbers C_lastUse C_put C_replaced C_dropped ++ []) (y := ([] : va_W)) (C := RX0) (T := TX0) (N := 7) (ci := 0) (As := [.int x4]) (bi := 0) hK hN hP hD (by simp only [List.append_assoc, List.nil_append, List.append_nil]) rfl rfl) rfl rfl hl.1 rfl (lv_room (Nat.le_of_ble_eq_true rfl)) dX0_store_32 ⟨Nat.le_of_ble_eq_true rfl, Nat.le_of_ble_eq_true rfl⟩) hP hD hS hA (by simp only [List.append_assoc, List.nil_append, List.append_nil]) (by simp only [List.append_assoc, List.nil_append, List.append_nil]) (fun H locs hP hD hS => ?_)
          obtain rfl := Option.some.inj hf
          exact hret _ _ _ _ dX0_store_35 hP hD hS
  unfold m_X0_store at hf
  refine lv_aload_n hx hb dX0_store_0 rfl (lv_at hl 1 rfl) ?_
  refine lv_iconst (v := 0) hx hb dX0_store_1 (by decide) ?_
  obtain ⟨g2, hf⟩ := gd_t hf
  refine va_iald hx hb hK hP 0 0 rfl rfl (inb_t g2) dX0_store_2 ?_
  obtain ⟨y3, h3, hf⟩ := bn_t hf
  refine z_ai (x := []) (b := ([] : va_W)) (y := zA cI aL 8 L_row ++ (wX0 cI cZ cII aC rC C_addresses C_sizes C_useNumbers C_lastUse C_put C_replaced C_dropped ++ [])) (b1 := ([] : va_W)) (wsn := zA cI aL 8 L_row ++ (wX0 cI cZ cII aC rC C_addresses C_sizes C_useNumbers C_lastUse C_put C_replaced C_dropped ++ [])) (va_runS (As := [.int (L_row (Int32.toNatClampNeg (0 : Int32)))]) (rest := []) ⟨hx, hb, hml, hown, hts⟩ (c_X0_firstPlaceFor l D cI cZ cII cJ cM (L_row (Int32.toNatClampNeg (0 : Int32))) H.size y3 h3) (va_cwS 1 hts gX0_store_X0_firstPlaceFor rfl rfl rfl (by decide +kernel) ⟨Nat.le_of_ble_eq_true rfl, Nat.le_of_ble_eq_true rfl⟩) (pz_S (x := []) (b := ([] : va_W)) (y := zA cI aL 8 L_row ++ (wX0 cI cZ cII aC rC C_addresses C_sizes C_useNumbers C_lastUse C_put C_replaced C_dropped ++ [])) hK hN hP hD (by simp only [List.append_assoc, List.nil_append, List.append_nil])) rfl rfl hl.1 rfl (lv_room (Nat.le_of_ble_eq_true rfl)) dX0_store_3 ⟨Nat.le_of_ble_eq_true rfl, Nat.le_of_ble_eq_true rfl⟩) hP hD hS hA (by simp only [List.append_assoc, List.nil_append, List.append_nil]) (by simp only [List.append_assoc, List.nil_append, List.append_nil]) (fun H locs hP hD hS => ?_)
  refine lv_istore_n (lv' := [(3, .int y3), (0, .ref (aC 0)), (1, .ref (aL 0)), (2, .int x2)]) hx hb dX0_store_6 rfl hl (by decide) rfl (fun ls hl => ?_)
  refine lv_iload_n hx hb dX0_store_7 rfl (lv_at hl 0 rfl) ?_
  refine lv_istore (lv' := [(4, .int y3), (3, .int y3), (0, .ref (aC 0)), (1, .ref (aL 0)), (2, .int x2)]) hx hb dX0_store_8 hl (by decide) rfl (fun ls hl => ?_)
  exact J10 4000 C_addresses C_sizes C_useNumbers C_lastUse C_put C_replaced y3 y3 _ _ _ hf hP hD hS (lv_sub hl [2, 3, 4, 1, 0] rfl)
set_option maxHeartbeats 8000000 in
set_option maxRecDepth 100000 in
theorem c_X0_filled (l : Launch) (D : va_G) (cI cZ cII cJ cM : ClassId) (aC : Nat → Nat) (rC : Nat → Nat) (C_addresses : Nat → Nat → Int32) (C_sizes : Nat → Int32) (C_useNumbers : Nat → Int32) (C_lastUse : Int32) (C_put : Int32) (C_replaced : Int32) (C_dropped : Int32) (sz : Nat) (y : (Int32)) (hf : m_X0_filled C_sizes = some y) : Met l yX0_filled wsX0_filled ({ frames := 0, cells := 0, slots := 0, locals := 0 } : Room) (va_Pc [.ref (aC 0)] (pzPre D (zT cI cZ cII cJ cM) (wX0 cI cZ cII aC rC C_addresses C_sizes C_useNumbers C_lastUse C_put C_replaced C_dropped ++ []) sz)) (va_Qi (fun v (_ : Unit) => v = y) (fun _ t => pzB D (zT cI cZ cII cJ cM) (va_A (wX0 cI cZ cII aC rC C_addresses C_sizes C_useNumbers C_lastUse C_put C_replaced C_dropped ++ []) sz) (wX0 cI cZ cII aC rC C_addresses C_sizes C_useNumbers C_lastUse C_put C_replaced C_dropped ++ []) t) (va_A (wX0 cI cZ cII aC rC C_addresses C_sizes C_useNumbers C_lastUse C_put C_replaced C_dropped ++ []) sz)) 0 0 (va_A (wX0 cI cZ cII aC rC C_addresses C_sizes C_useNumbers C_lastUse C_put C_replaced C_dropped ++ []) sz) := by
  refine z_meti (cc := cX0_filled) (maxL := 3) (by decide) rfl (Nat.le_of_ble_eq_true rfl) ?_
  intro p e s m args below meth c A ls Q H locs F hP hD hS hl hret
  obtain ⟨hx, hb, hml, hown, hts, hN, hK, hA⟩ := F
  have hown : s.vm.findClass RX0 = some m.cls := hown
  have hl : lv_has ls 3 [(0, .ref (aC 0))] := hl
  have inX0 : ∀ w ∈ u_ws RX0 TX0 7, w ∈ wsX0_filled := by decide +kernel
  have kX0_16 := hts (.fieldLink RX0 16 "TraceCache$Cache" "sizes" "[I") (by decide +kernel)
  have J4 : ∀ (n4 : Nat), ∀ (x1 : Int32) (x2 : Int32) (H : Heap) (locs : List Loc) (ls : Array Slot), m_X0_filled_4 C_sizes n4 x1 x2 = some y → va_P D vwCl (wX0 cI cZ cII aC rC C_addresses C_sizes C_useNumbers C_lastUse C_put C_replaced C_dropped ++ []) H → va_D A (wX0 cI cZ cII aC rC C_addresses C_sizes C_useNumbers C_lastUse C_put C_replaced C_dropped ++ []) → va_S A s.heap H locs → lv_has ls 3 [(0, .ref (aC 0)), (1, .int x1), (2, .int x2)] → W p l e ({ frames := 0, cells := 0, slots := 0, locals := 0 } : Room) s m args below meth c H locs 0 0 Q (F0 m 4 ls []) := by
    intro n4
    induction n4 with
    | zero =>
      intro x1 x2 H locs ls hf hP hD hS hl
      rw [m_X0_filled_4] at hf
      cases hf
    | succ n4 ih4 =>
      have J22 : ∀ (x1 : Int32) (x2 : Int32) (H : Heap) (locs : List Loc) (ls : Array Slot), m_X0_filled_22 C_sizes (m_X0_filled_4 C_sizes n4) x1 x2 = some y → va_P D vwCl (wX0 cI cZ cII aC rC C_addresses C_sizes C_useNumbers C_lastUse C_put C_replaced C_dropped ++ []) H → va_D A (wX0 cI cZ cII aC rC C_addresses C_sizes C_useNumbers C_lastUse C_put C_replaced C_dropped ++ []) → va_S A s.heap H locs → lv_has ls 3 [(0, .ref (aC 0)), (1, .int x1), (2, .int x2)] → W p l e ({ frames := 0, cells := 0, slots := 0, locals := 0 } : Room) s m args below meth c H locs 0 0 Q (F0 m 22 ls []) := by
        intro x1 x2 H locs ls hf hP hD hS hl
        unfold m_X0_filled_22 at hf
        obtain ⟨v22, ev22⟩ : ∃ z : Int32, z = x2 + (1 : Int32) := ⟨_, rfl⟩
        have hf := bd_t ev22 hf
        refine lv_iinc (v := v22) (lv' := [(2, .int v22), (0, .ref (aC 0)), (1, .int x1)]) hx hb dX0_filled_22 hl (k := 2) rfl (by rw [ev22]; rfl) (by decide) rfl (fun ls hl => ?_)
        refine lv_goto (tgt := 4) hx hb dX0_filled_25 (by decide) ?_
        exact ih4 x1 v22 _ _ _ hf hP hD hS (lv_sub hl [1, 2, 0] rfl)
      intro x1 x2 H locs ls hf hP hD hS hl
      rw [m_X0_filled_4] at hf
      refine lv_iload_n hx hb dX0_filled_4 rfl (lv_at hl 2 rfl) ?_
      refine lv_bipush (v := 8) hx hb dX0_filled_5 (by decide) ?_
      refine lv_icmp_ge (tgt := 28) hx hb dX0_filled_7 (by decide) (fun c7 => ?_) (fun c7 => ?_)
      · have hf := if_t c7 hf
        refine lv_iload_n hx hb dX0_filled_28 rfl (lv_at hl 1 rfl) ?_
        obtain rfl := Option.some.inj hf
        exact hret _ _ _ _ _ dX0_filled_29 rfl hP hD hS
      · have hf := if_f c7 hf
        refine lv_aload_n hx hb dX0_filled_10 rfl (lv_at hl 0 rfl) ?_
        refine va_get (D := D) (ci := 0) (v := .ref (aC 2)) (C := RX0) (T := TX0) (N := 7) hx hb hts inX0 hown hK hP 0 rfl rfl 1 (by decide) kX0_16 (fun _ h9 => h9) rfl dX0_filled_11 ?_
        refine lv_iload_n hx hb dX0_filled_14 rfl (lv_at hl 2 rfl) ?_
        obtain ⟨g15, hf⟩ := gd_t hf
        refine va_iald hx hb hK hP 2 0 rfl rfl (inb_t g15) dX0_filled_15 ?_
        refine lv_if_le (tgt := 22) hx hb dX0_filled_16 (by decide) (fun c16 => ?_) (fun c16 => ?_)
        · have hf := if_t c16 hf
          exact J22 x1 x2 _ _ _ hf hP hD hS (lv_sub hl [0, 1, 2] rfl)
        · have hf := if_f c16 hf
          obtain ⟨v19, ev19⟩ : ∃ z : Int32, z = x1 + (1 : Int32) := ⟨_, rfl⟩
          have hf := bd_t ev19 hf
          refine lv_iinc (v := v19) (lv' := [(1, .int v19), (0, .ref (aC 0)), (2, .int x2)]) hx hb dX0_filled_19 hl (k := 1) rfl (by rw [ev19]; rfl) (by decide) rfl (fun ls hl => ?_)
          exact J22 v19 x2 _ _ _ hf hP hD hS (lv_sub hl [1, 0, 2] rfl)
  unfold m_X0_filled at hf
  refine lv_iconst (v := 0) hx hb dX0_filled_0 (by decide) ?_
  refine lv_istore_n (lv' := [(1, .int (0 : Int32)), (0, .ref (aC 0))]) hx hb dX0_filled_1 rfl hl (by decide) rfl (fun ls hl => ?_)
  refine lv_iconst (v := 0) hx hb dX0_filled_2 (by decide) ?_
  refine lv_istore_n (lv' := [(2, .int (0 : Int32)), (1, .int (0 : Int32)), (0, .ref (aC 0))]) hx hb dX0_filled_3 rfl hl (by decide) rfl (fun ls hl => ?_)
  exact J4 4000 (0 : Int32) (0 : Int32) _ _ _ hf hP hD hS (lv_sub hl [2, 1, 0] rfl)
set_option maxHeartbeats 8000000 in
set_option maxRecDepth 100000 in
theorem c_X0_dropEvery (l : Launch) (D : va_G) (cI cZ cII cJ cM : ClassId) (aC : Nat → Nat) (rC : Nat → Nat) (C_addresses : Nat → Nat → Int32) (C_sizes : Nat → Int32) (C_useNumbers : Nat → Int32) (C_lastUse : Int32) (C_put : Int32) (C_replaced : Int32) (C_dropped : Int32) (sz : Nat) (y : (Int32) × (Nat → Int32) × (Int32)) (hf : m_X0_dropEvery C_sizes C_dropped = some y) : Met l yX0_dropEvery wsX0_dropEvery ({ frames := 1, cells := 0, slots := 0, locals := 22 } : Room) (va_Pc [.ref (aC 0)] (pzPre D (zT cI cZ cII cJ cM) (wX0 cI cZ cII aC rC C_addresses C_sizes C_useNumbers C_lastUse C_put C_replaced C_dropped ++ []) sz)) (va_Qi (fun v (_ : Unit) => v = y.1) (fun _ t => pzB D (zT cI cZ cII cJ cM) (va_A (wX0 cI cZ cII aC rC C_addresses C_sizes C_useNumbers C_lastUse C_put C_replaced C_dropped ++ []) sz) (wX0 cI cZ cII aC rC C_addresses y.2.1 C_useNumbers C_lastUse C_put C_replaced y.2.2 ++ []) t) (va_A (wX0 cI cZ cII aC rC C_addresses C_sizes C_useNumbers C_lastUse C_put C_replaced C_dropped ++ []) sz)) 0 0 (va_A (wX0 cI cZ cII aC rC C_addresses C_sizes C_useNumbers C_lastUse C_put C_replaced C_dropped ++ []) sz) := by
  refine z_meti (cc := cX0_dropEvery) (maxL := 3) (by decide) rfl (Nat.le_of_ble_eq_true rfl) ?_
  intro p e s m args below meth c A ls Q H locs F hP hD hS hl hret
  obtain ⟨hx, hb, hml, hown, hts, hN, hK, hA⟩ := F
  have hown : s.vm.findClass RX0 = some m.cls := hown
  have hl : lv_has ls 3 [(0, .ref (aC 0))] := hl
  have inX0 : ∀ w ∈ u_ws RX0 TX0 7, w ∈ wsX0_dropEvery := by decide +kernel
  have kX0_16 := hts (.fieldLink RX0 16 "TraceCache$Cache" "sizes" "[I") (by decide +kernel)
  have kX0_39 := hts (.fieldLink RX0 39 "TraceCache$Cache" "dropped" "I") (by decide +kernel)
  have J7 : ∀ (n7 : Nat), ∀ (C_sizes : Nat → Int32) (C_dropped : Int32) (x1 : Int32) (x2 : Int32) (H : Heap) (locs : List Loc) (ls : Array Slot), m_X0_dropEvery_7 n7 C_sizes C_dropped x1 x2 = some y → va_P D vwCl (wX0 cI cZ cII aC rC C_addresses C_sizes C_useNumbers C_lastUse C_put C_replaced C_dropped ++ []) H → va_D A (wX0 cI cZ cII aC rC C_addresses C_sizes C_useNumbers C_lastUse C_put C_replaced C_dropped ++ []) → va_S A s.heap H locs → lv_has ls 3 [(0, .ref (aC 0)), (1, .int x1), (2, .int x2)] → W p l e ({ frames := 1, cells := 0, slots := 0, locals := 22 } : Room) s m args below meth c H locs 0 0 Q (F0 m 7 ls []) := by
    intro n7
    induction n7 with
    | zero =>
      intro C_sizes C_dropped x1 x2 H locs ls hf hP hD hS hl
      rw [m_X0_dropEvery_7] at hf
      cases hf
    | succ n7 ih7 =>
      intro C_sizes C_dropped x1 x2 H locs ls hf hP hD hS hl
      rw [m_X0_dropEvery_7] at hf
      refine lv_iload_n hx hb dX0_dropEvery_7 rfl (lv_at hl 2 rfl) ?_
      refine lv_bipush (v := 8) hx hb dX0_dropEvery_8 (by decide) ?_
      refine lv_icmp_ge (tgt := 26) hx hb dX0_dropEvery_10 (by decide) (fun c10 => ?_) (fun c10 => ?_)
      · have hf := if_t c10 hf
        refine lv_aload_n hx hb dX0_dropEvery_26 rfl (lv_at hl 0 rfl) ?_
        refine lv_dup hx hb dX0_dropEvery_27 rfl ?_
        refine va_get (D := D) (ci := 0) (v := .int C_dropped) (C := RX0) (T := TX0) (N := 7) hx hb hts inX0 hown hK hP 0 rfl rfl 6 (by decide) kX0_39 (fun _ h9 => h9) rfl dX0_dropEvery_28 ?_
        refine lv_iload_n hx hb dX0_dropEvery_31 rfl (lv_at hl 1 rfl) ?_
        refine lv_iadd hx hb dX0_dropEvery_32 ?_
        refine lv_topi (fun v33 ev33 => ?_)
        have hf := bd_t ev33 hf
        refine va_put (D := D) (ci := 0) (v := .int v33) (ty := .int) (C := RX0) (T := TX0) (N := 7) hx hb hts inX0 tyX0 tyX0_ok nmX0 hown hK hP hD hS 0 rfl rfl 6 (by decide) kX0_39 (fun _ h9 => h9) rfl (by decide +kernel) rfl rfl (Nat.le_of_ble_eq_true rfl) dX0_dropEvery_33 (fun H locs hP hD hS => ?_)
        have hP : va_P D vwCl (wX0 cI cZ cII aC rC C_addresses C_sizes C_useNumbers C_lastUse C_put C_replaced v33 ++ []) H := hP
        have hD : va_D A (wX0 cI cZ cII aC rC C_addresses C_sizes C_useNumbers C_lastUse C_put C_replaced v33 ++ []) := hD
        refine lv_iload_n hx hb dX0_dropEvery_36 rfl (lv_at hl 1 rfl) ?_
        obtain rfl := Option.some.inj hf
        exact hret _ _ _ _ _ dX0_dropEvery_37 rfl hP hD hS
      · have hf := if_f c10 hf
        refine lv_aload_n hx hb dX0_dropEvery_13 rfl (lv_at hl 0 rfl) ?_
        refine va_get (D := D) (ci := 0) (v := .ref (aC 2)) (C := RX0) (T := TX0) (N := 7) hx hb hts inX0 hown hK hP 0 rfl rfl 1 (by decide) kX0_16 (fun _ h9 => h9) rfl dX0_dropEvery_14 ?_
        refine lv_iload_n hx hb dX0_dropEvery_17 rfl (lv_at hl 2 rfl) ?_
        refine lv_iconst (v := 0) hx hb dX0_dropEvery_18 (by decide) ?_
        obtain ⟨g19, hf⟩ := gd_t hf
        refine va_iast hx hb hK hP hD hS 2 0 rfl rfl (inb_t g19) dX0_dropEvery_19 (fun H locs hP hD hS => ?_)
        obtain ⟨C_sizes_19, eC_sizes_19⟩ : ∃ z : Nat → Int32, z = upd C_sizes (Int32.toNatClampNeg x2) (0 : Int32) := ⟨_, rfl⟩
        have hf := bd_t eC_sizes_19 hf
        have hP : va_P D vwCl (wX0 cI cZ cII aC rC C_addresses C_sizes_19 C_useNumbers C_lastUse C_put C_replaced C_dropped ++ []) H := by rw [eC_sizes_19]; exact hP
        have hD : va_D A (wX0 cI cZ cII aC rC C_addresses C_sizes_19 C_useNumbers C_lastUse C_put C_replaced C_dropped ++ []) := by rw [eC_sizes_19]; exact hD
        obtain ⟨v20, ev20⟩ : ∃ z : Int32, z = x2 + (1 : Int32) := ⟨_, rfl⟩
        have hf := bd_t ev20 hf
        refine lv_iinc (v := v20) (lv' := [(2, .int v20), (0, .ref (aC 0)), (1, .int x1)]) hx hb dX0_dropEvery_20 hl (k := 2) rfl (by rw [ev20]; rfl) (by decide) rfl (fun ls hl => ?_)
        refine lv_goto (tgt := 7) hx hb dX0_dropEvery_23 (by decide) ?_
        exact ih7 C_sizes_19 C_dropped x1 v20 _ _ _ hf hP hD hS (lv_sub hl [1, 2, 0] rfl)
  unfold m_X0_dropEvery at hf
  refine lv_aload_n hx hb dX0_dropEvery_0 rfl (lv_at hl 0 rfl) ?_
  obtain ⟨y1, h1, hf⟩ := bn_t hf
  refine z_ai (x := []) (b := wX0 cI cZ cII aC rC C_addresses C_sizes C_useNumbers C_lastUse C_put C_replaced C_dropped ++ []) (y := ([] : va_W)) (b1 := wX0 cI cZ cII aC rC C_addresses C_sizes C_useNumbers C_lastUse C_put C_replaced C_dropped ++ []) (wsn := wX0 cI cZ cII aC rC C_addresses C_sizes C_useNumbers C_lastUse C_put C_replaced C_dropped ++ []) (va_runV (As := []) (rest := []) ⟨hx, hb, hml, hown, hts⟩ (c_X0_filled l D cI cZ cII cJ cM aC rC C_addresses C_sizes C_useNumbers C_lastUse C_put C_replaced C_dropped H.size y1 h1) (cwV 0 hts gX0_dropEvery_X0_filled rfl rfl rfl (by decide +kernel) ⟨Nat.le_of_ble_eq_true rfl, Nat.le_of_ble_eq_true rfl⟩) (pz_V (x := []) (b := wX0 cI cZ cII aC rC C_addresses C_sizes C_useNumbers C_lastUse C_put C_replaced C_dropped ++ []) (y := ([] : va_W)) (C := RX0) (T := TX0) (N := 7) (ci := 0) (As := []) (bi := 0) hK hN hP hD (by simp only [List.append_assoc, List.nil_append, List.append_nil]) rfl rfl) rfl rfl hl.1 rfl (lv_room (Nat.le_of_ble_eq_true rfl)) dX0_dropEvery_1 ⟨Nat.le_of_ble_eq_true rfl, Nat.le_of_ble_eq_true rfl⟩) hP hD hS hA (by simp only [List.append_assoc, List.nil_append, List.append_nil]) (by simp only [List.append_assoc, List.nil_append, List.append_nil]) (fun H locs hP hD hS => ?_)
  refine lv_istore_n (lv' := [(1, .int y1), (0, .ref (aC 0))]) hx hb dX0_dropEvery_4 rfl hl (by decide) rfl (fun ls hl => ?_)
  refine lv_iconst (v := 0) hx hb dX0_dropEvery_5 (by decide) ?_
  refine lv_istore_n (lv' := [(2, .int (0 : Int32)), (1, .int y1), (0, .ref (aC 0))]) hx hb dX0_dropEvery_6 rfl hl (by decide) rfl (fun ls hl => ?_)
  exact J7 4000 C_sizes C_dropped y1 (0 : Int32) _ _ _ hf hP hD hS (lv_sub hl [2, 1, 0] rfl)
set_option maxHeartbeats 8000000 in
set_option maxRecDepth 100000 in
theorem c_X0_holding (l : Launch) (D : va_G) (cI cZ cII cJ cM : ClassId) (aC : Nat → Nat) (rC : Nat → Nat) (C_addresses : Nat → Nat → Int32) (C_sizes : Nat → Int32) (C_useNumbers : Nat → Int32) (C_lastUse : Int32) (C_put : Int32) (C_replaced : Int32) (C_dropped : Int32) (x1 : Int32) (sz : Nat) (y : (Int32)) (hf : m_X0_holding C_addresses C_sizes x1 = some y) : Met l yX0_holding wsX0_holding ({ frames := 1, cells := 0, slots := 0, locals := 23 } : Room) (va_Pc [.ref (aC 0), .int x1] (pzPre D (zT cI cZ cII cJ cM) (wX0 cI cZ cII aC rC C_addresses C_sizes C_useNumbers C_lastUse C_put C_replaced C_dropped ++ []) sz)) (va_Qi (fun v (_ : Unit) => v = y) (fun _ t => pzB D (zT cI cZ cII cJ cM) (va_A (wX0 cI cZ cII aC rC C_addresses C_sizes C_useNumbers C_lastUse C_put C_replaced C_dropped ++ []) sz) (wX0 cI cZ cII aC rC C_addresses C_sizes C_useNumbers C_lastUse C_put C_replaced C_dropped ++ []) t) (va_A (wX0 cI cZ cII aC rC C_addresses C_sizes C_useNumbers C_lastUse C_put C_replaced C_dropped ++ []) sz)) 0 0 (va_A (wX0 cI cZ cII aC rC C_addresses C_sizes C_useNumbers C_lastUse C_put C_replaced C_dropped ++ []) sz) := by
  refine z_meti (cc := cX0_holding) (maxL := 4) (by decide) rfl (Nat.le_of_ble_eq_true rfl) ?_
  intro p e s m args below meth c A ls Q H locs F hP hD hS hl hret
  obtain ⟨hx, hb, hml, hown, hts, hN, hK, hA⟩ := F
  have hown : s.vm.findClass RX0 = some m.cls := hown
  have hl : lv_has ls 4 [(0, .ref (aC 0)), (1, .int x1)] := hl
  have J4 : ∀ (n4 : Nat), ∀ (x2 : Int32) (x3 : Int32) (H : Heap) (locs : List Loc) (ls : Array Slot), m_X0_holding_4 C_addresses C_sizes x1 n4 x2 x3 = some y → va_P D vwCl (wX0 cI cZ cII aC rC C_addresses C_sizes C_useNumbers C_lastUse C_put C_replaced C_dropped ++ []) H → va_D A (wX0 cI cZ cII aC rC C_addresses C_sizes C_useNumbers C_lastUse C_put C_replaced C_dropped ++ []) → va_S A s.heap H locs → lv_has ls 4 [(0, .ref (aC 0)), (1, .int x1), (2, .int x2), (3, .int x3)] → W p l e ({ frames := 1, cells := 0, slots := 0, locals := 23 } : Room) s m args below meth c H locs 0 0 Q (F0 m 4 ls []) := by
    intro n4
    induction n4 with
    | zero =>
      intro x2 x3 H locs ls hf hP hD hS hl
      rw [m_X0_holding_4] at hf
      cases hf
    | succ n4 ih4 =>
      have J22 : ∀ (x2 : Int32) (x3 : Int32) (H : Heap) (locs : List Loc) (ls : Array Slot), m_X0_holding_22 C_addresses C_sizes x1 (m_X0_holding_4 C_addresses C_sizes x1 n4) x2 x3 = some y → va_P D vwCl (wX0 cI cZ cII aC rC C_addresses C_sizes C_useNumbers C_lastUse C_put C_replaced C_dropped ++ []) H → va_D A (wX0 cI cZ cII aC rC C_addresses C_sizes C_useNumbers C_lastUse C_put C_replaced C_dropped ++ []) → va_S A s.heap H locs → lv_has ls 4 [(0, .ref (aC 0)), (1, .int x1), (2, .int x2), (3, .int x3)] → W p l e ({ frames := 1, cells := 0, slots := 0, locals := 23 } : Room) s m args below meth c H locs 0 0 Q (F0 m 22 ls []) := by
        intro x2 x3 H locs ls hf hP hD hS hl
        unfold m_X0_holding_22 at hf
        obtain ⟨v22, ev22⟩ : ∃ z : Int32, z = x3 + (1 : Int32) := ⟨_, rfl⟩
        have hf := bd_t ev22 hf
        refine lv_iinc (v := v22) (lv' := [(3, .int v22), (0, .ref (aC 0)), (1, .int x1), (2, .int x2)]) hx hb dX0_holding_22 hl (k := 3) rfl (by rw [ev22]; rfl) (by decide) rfl (fun ls hl => ?_)
        refine lv_goto (tgt := 4) hx hb dX0_holding_25 (by decide) ?_
        exact ih4 x2 v22 _ _ _ hf hP hD hS (lv_sub hl [1, 2, 3, 0] rfl)
      intro x2 x3 H locs ls hf hP hD hS hl
      rw [m_X0_holding_4] at hf
      refine lv_iload_n hx hb dX0_holding_4 rfl (lv_at hl 3 rfl) ?_
      refine lv_bipush (v := 8) hx hb dX0_holding_5 (by decide) ?_
      refine lv_icmp_ge (tgt := 28) hx hb dX0_holding_7 (by decide) (fun c7 => ?_) (fun c7 => ?_)
      · have hf := if_t c7 hf
        refine lv_iload_n hx hb dX0_holding_28 rfl (lv_at hl 2 rfl) ?_
        obtain rfl := Option.some.inj hf
        exact hret _ _ _ _ _ dX0_holding_29 rfl hP hD hS
      · have hf := if_f c7 hf
        refine lv_aload_n hx hb dX0_holding_10 rfl (lv_at hl 0 rfl) ?_
        refine lv_iload_n hx hb dX0_holding_11 rfl (lv_at hl 3 rfl) ?_
        refine lv_iload_n hx hb dX0_holding_12 rfl (lv_at hl 1 rfl) ?_
        obtain ⟨y13, h13, hf⟩ := bn_t hf
        refine z_ai (x := []) (b := wX0 cI cZ cII aC rC C_addresses C_sizes C_useNumbers C_lastUse C_put C_replaced C_dropped ++ []) (y := ([] : va_W)) (b1 := wX0 cI cZ cII aC rC C_addresses C_sizes C_useNumbers C_lastUse C_put C_replaced C_dropped ++ []) (wsn := wX0 cI cZ cII aC rC C_addresses C_sizes C_useNumbers C_lastUse C_put C_replaced C_dropped ++ []) (va_runV (As := [.int x3, .int x1]) (rest := []) ⟨hx, hb, hml, hown, hts⟩ (c_X0_holds l D cI cZ cII cJ cM aC rC C_addresses C_sizes C_useNumbers C_lastUse C_put C_replaced C_dropped x3 x1 H.size y13 h13) (cwV 2 hts gX0_holding_X0_holds rfl rfl rfl (by decide +kernel) ⟨Nat.le_of_ble_eq_true rfl, Nat.le_of_ble_eq_true rfl⟩) (pz_V (x := []) (b := wX0 cI cZ cII aC rC C_addresses C_sizes C_useNumbers C_lastUse C_put C_replaced C_dropped ++ []) (y := ([] : va_W)) (C := RX0) (T := TX0) (N := 7) (ci := 0) (As := [.int x3, .int x1]) (bi := 0) hK hN hP hD (by simp only [List.append_assoc, List.nil_append, List.append_nil]) rfl rfl) rfl rfl hl.1 rfl (lv_room (Nat.le_of_ble_eq_true rfl)) dX0_holding_13 ⟨Nat.le_of_ble_eq_true rfl, Nat.le_of_ble_eq_true rfl⟩) hP hD hS hA (by simp only [List.append_assoc, List.nil_append, List.append_nil]) (by simp only [List.append_assoc, List.nil_append, List.append_nil]) (fun H locs hP hD hS => ?_)
        refine lv_if_eq (tgt := 22) hx hb dX0_holding_16 (by decide) (fun c16 => ?_) (fun c16 => ?_)
        · have hf := if_t c16 hf
          exact J22 x2 x3 _ _ _ hf hP hD hS (lv_sub hl [0, 1, 2, 3] rfl)
        · have hf := if_f c16 hf
          obtain ⟨v19, ev19⟩ : ∃ z : Int32, z = x2 + (1 : Int32) := ⟨_, rfl⟩
          have hf := bd_t ev19 hf
          refine lv_iinc (v := v19) (lv' := [(2, .int v19), (0, .ref (aC 0)), (1, .int x1), (3, .int x3)]) hx hb dX0_holding_19 hl (k := 2) rfl (by rw [ev19]; rfl) (by decide) rfl (fun ls hl => ?_)
          exact J22 v19 x3 _ _ _ hf hP hD hS (lv_sub hl [1, 2, 0, 3] rfl)
  unfold m_X0_holding at hf
  refine lv_iconst (v := 0) hx hb dX0_holding_0 (by decide) ?_
  refine lv_istore_n (lv' := [(2, .int (0 : Int32)), (0, .ref (aC 0)), (1, .int x1)]) hx hb dX0_holding_1 rfl hl (by decide) rfl (fun ls hl => ?_)
  refine lv_iconst (v := 0) hx hb dX0_holding_2 (by decide) ?_
  refine lv_istore_n (lv' := [(3, .int (0 : Int32)), (2, .int (0 : Int32)), (0, .ref (aC 0)), (1, .int x1)]) hx hb dX0_holding_3 rfl hl (by decide) rfl (fun ls hl => ?_)
  exact J4 4000 (0 : Int32) (0 : Int32) _ _ _ hf hP hD hS (lv_sub hl [2, 3, 1, 0] rfl)
