abbrev rm_c_Mo_init : Room := { frames := 1, cells := 14, slots := 5400, locals := 13 }
set_option maxHeartbeats 4000000 in
set_option maxRecDepth 100000 in
theorem c_Mo_init (l : Launch) (D : va_G) (cI cZ : ClassId) (hm : Nat)  : MV l yX5_init wsX5_init rm_c_Mo_init D (kT cI cZ) [.ref hm] [(hm, .inr (5, [.int 0, .null, .null, .null, .null, .null, .null, .null, .int 0, .int 0, .int 0, .int 0, .int 0, .int 0, .null, .null, .null, .null, .null, .null, .null, .int 0, .int 0, .int 0, .int 0, .int 0]))] (fun (_ : Nat × Nat × Nat × Nat × Nat × Nat × Nat × Nat × Nat × Nat × Nat × Nat × Nat × Nat) => True) (fun (u : Nat × Nat × Nat × Nat × Nat × Nat × Nat × Nat × Nat × Nat × Nat × Nat × Nat × Nat) => match u with | ⟨x1, x2, x3, x4, x5, x6, x7, y1, y2, y3, y4, y5, y6, y7⟩ => [(hm, .inr (5, [.int (iI (0 : Int)), .ref x1, .ref x2, .ref x3, .ref x4, .ref x5, .ref x6, .ref x7, .int (iI ((0 : Nat) : Int)), .int (iI ((0 : Nat) : Int)), .int (iI ((0 : Nat) : Int)), .int (iI ((0 : Nat) : Int)), .int (iI ((0 : Nat) : Int)), .int (iI ((0 : Nat) : Int)), .ref y1, .ref y2, .ref y3, .ref y4, .ref y5, .ref y6, .ref y7, .int (iI ((0 : Nat) : Int)), .int (iI ((0 : Nat) : Int)), .int (iI ((0 : Nat) : Int)), .int (iI ((0 : Nat) : Int)), .int (iI (0 : Int))])), (x1, .inl (cI, 900, .inl (fun _ => (0 : Int32)))), (x2, .inl (cI, 300, .inl (fun _ => (0 : Int32)))), (x3, .inl (cI, 300, .inl (fun _ => (0 : Int32)))), (x4, .inl (cI, 900, .inl (fun _ => (0 : Int32)))), (x5, .inl (cI, 300, .inl (fun _ => (0 : Int32)))), (x6, .inl (cI, 300, .inl (fun _ => (0 : Int32)))), (x7, .inl (cI, 300, .inl (fun _ => (0 : Int32)))), (y1, .inl (cI, 300, .inl (fun _ => (0 : Int32)))), (y2, .inl (cI, 300, .inl (fun _ => (0 : Int32)))), (y3, .inl (cI, 300, .inl (fun _ => (0 : Int32)))), (y4, .inl (cI, 300, .inl (fun _ => (0 : Int32)))), (y5, .inl (cI, 300, .inl (fun _ => (0 : Int32)))), (y6, .inl (cI, 300, .inl (fun _ => (0 : Int32)))), (y7, .inl (cI, 300, .inl (fun _ => (0 : Int32))))]) 14 5400 := by
  intro sz
  refine k_of (cc := cX5_init) (maxL := 1) (ret := none) (by decide) rfl (Nat.le_of_ble_eq_true rfl) ?_
  intro p e s m args below meth c A Q hAe hQ hx hb hr hml hts hown hlocks hnm hP hK hD hS hA ls hl
  have hl : lv_has ls 1 [(0, .ref hm)] := hl
  have hi_X5 : ∀ w ∈ u_ws RX5 TX5 26, w ∈ wsX5_init := fun w h => km (ikX5 w h)
  have fl7 := hts _ (km wm476)
  have fl13 := hts _ (km wm477)
  have fl16 := hts _ (km wm478)
  have fl19 := hts _ (km wm479)
  have fl22 := hts _ (km wm480)
  have fl25 := hts _ (km wm481)
  have fl28 := hts _ (km wm482)
  have fl31 := hts _ (km wm489)
  have fl34 := hts _ (km wm490)
  have fl37 := hts _ (km wm491)
  have fl40 := hts _ (km wm492)
  have fl43 := hts _ (km wm493)
  have fl46 := hts _ (km wm494)
  have fl49 := hts _ (km wm495)
  refine lv_aload_n hx hb dX5_init_0 rfl (lv_at hl 0 rfl) ?_
  refine W.objInit hx hb hown (hts _ (km wm474)) (hts _ (km wm51)) (hts _ (km wm52)) rfl (by rw [hml]; exact hl.1) rfl dX5_init_1 (Nat.le_of_ble_eq_true rfl) (Nat.le_of_ble_eq_true rfl) ?_
  refine W.eq (g2 := F0 m 4 ls []) rfl ?_
  refine lv_aload_n hx hb dX5_init_4 rfl (lv_at hl 0 rfl) ?_
  refine lv_sipush (v := iI ((900 : Nat) : Int)) hx hb dX5_init_5 (by decide) ?_
  refine k_newa (atype := .int) (N' := 900) hx hb (hts _ (km wm69)) rfl hK 0 rfl (fun _ => rfl) hP hD hS hA (fun _ => rfl) (by omega) (Nat.le_of_ble_eq_true rfl) (Nat.le_of_ble_eq_true rfl) (Nat.le_of_ble_eq_true rfl) dX5_init_8 (fun q8 H hP hD hS => ?_)
  have hP : va_P D vwCl [(hm, .inr (5, [.int 0, .null, .null, .null, .null, .null, .null, .null, .int 0, .int 0, .int 0, .int 0, .int 0, .int 0, .null, .null, .null, .null, .null, .null, .null, .int 0, .int 0, .int 0, .int 0, .int 0])), (q8, .inl (cI, 900, .inl (fun _ => (0 : Int32))))] H := hP
  have hD : va_D A [(hm, .inr (5, [.int 0, .null, .null, .null, .null, .null, .null, .null, .int 0, .int 0, .int 0, .int 0, .int 0, .int 0, .null, .null, .null, .null, .null, .null, .null, .int 0, .int 0, .int 0, .int 0, .int 0])), (q8, .inl (cI, 900, .inl (fun _ => (0 : Int32))))] := hD
  refine W.widen (k := 1) (n := 900) (Nat.le_of_ble_eq_true rfl) (Nat.le_of_ble_eq_true rfl) ?_
  refine va_putF (D := D) (ci := 5) (v := .ref q8) (ty := (.array .int)) (C := RX5) (T := TX5) (N := 26) hx hb hts hi_X5 tyX5 tyX5_ok nmX5 hown hK hP hD hS 0 rfl rfl 1 (by decide) fl7 (fun _ h9 => h9) rfl hnm rfl (by decide +kernel) rfl rfl (Nat.le_of_ble_eq_true rfl) dX5_init_10 (fun H locs hP hD hS => ?_)
  have hP : va_P D vwCl [(hm, .inr (5, [.int 0, .ref q8, .null, .null, .null, .null, .null, .null, .int 0, .int 0, .int 0, .int 0, .int 0, .int 0, .null, .null, .null, .null, .null, .null, .null, .int 0, .int 0, .int 0, .int 0, .int 0])), (q8, .inl (cI, 900, .inl (fun _ => (0 : Int32))))] H := hP
  have hD : va_D A [(hm, .inr (5, [.int 0, .ref q8, .null, .null, .null, .null, .null, .null, .int 0, .int 0, .int 0, .int 0, .int 0, .int 0, .null, .null, .null, .null, .null, .null, .null, .int 0, .int 0, .int 0, .int 0, .int 0])), (q8, .inl (cI, 900, .inl (fun _ => (0 : Int32))))] := hD
  refine lv_aload_n hx hb dX5_init_13 rfl (lv_at hl 0 rfl) ?_
  refine lv_sipush (v := iI ((300 : Nat) : Int)) hx hb dX5_init_14 (by decide) ?_
  refine k_newa (atype := .int) (N' := 300) hx hb (hts _ (km wm69)) rfl hK 0 rfl (fun _ => rfl) hP hD hS hA (fun _ => rfl) (by omega) (Nat.le_of_ble_eq_true rfl) (Nat.le_of_ble_eq_true rfl) (Nat.le_of_ble_eq_true rfl) dX5_init_17 (fun q17 H hP hD hS => ?_)
  have hP : va_P D vwCl [(hm, .inr (5, [.int 0, .ref q8, .null, .null, .null, .null, .null, .null, .int 0, .int 0, .int 0, .int 0, .int 0, .int 0, .null, .null, .null, .null, .null, .null, .null, .int 0, .int 0, .int 0, .int 0, .int 0])), (q8, .inl (cI, 900, .inl (fun _ => (0 : Int32)))), (q17, .inl (cI, 300, .inl (fun _ => (0 : Int32))))] H := hP
  have hD : va_D A [(hm, .inr (5, [.int 0, .ref q8, .null, .null, .null, .null, .null, .null, .int 0, .int 0, .int 0, .int 0, .int 0, .int 0, .null, .null, .null, .null, .null, .null, .null, .int 0, .int 0, .int 0, .int 0, .int 0])), (q8, .inl (cI, 900, .inl (fun _ => (0 : Int32)))), (q17, .inl (cI, 300, .inl (fun _ => (0 : Int32))))] := hD
  refine W.widen (k := 2) (n := 1200) (Nat.le_of_ble_eq_true rfl) (Nat.le_of_ble_eq_true rfl) ?_
  refine va_putF (D := D) (ci := 5) (v := .ref q17) (ty := (.array .int)) (C := RX5) (T := TX5) (N := 26) hx hb hts hi_X5 tyX5 tyX5_ok nmX5 hown hK hP hD hS 0 rfl rfl 2 (by decide) fl13 (fun _ h9 => h9) rfl hnm rfl (by decide +kernel) rfl rfl (Nat.le_of_ble_eq_true rfl) dX5_init_19 (fun H locs hP hD hS => ?_)
  have hP : va_P D vwCl [(hm, .inr (5, [.int 0, .ref q8, .ref q17, .null, .null, .null, .null, .null, .int 0, .int 0, .int 0, .int 0, .int 0, .int 0, .null, .null, .null, .null, .null, .null, .null, .int 0, .int 0, .int 0, .int 0, .int 0])), (q8, .inl (cI, 900, .inl (fun _ => (0 : Int32)))), (q17, .inl (cI, 300, .inl (fun _ => (0 : Int32))))] H := hP
  have hD : va_D A [(hm, .inr (5, [.int 0, .ref q8, .ref q17, .null, .null, .null, .null, .null, .int 0, .int 0, .int 0, .int 0, .int 0, .int 0, .null, .null, .null, .null, .null, .null, .null, .int 0, .int 0, .int 0, .int 0, .int 0])), (q8, .inl (cI, 900, .inl (fun _ => (0 : Int32)))), (q17, .inl (cI, 300, .inl (fun _ => (0 : Int32))))] := hD
  refine lv_aload_n hx hb dX5_init_22 rfl (lv_at hl 0 rfl) ?_
  refine lv_sipush (v := iI ((300 : Nat) : Int)) hx hb dX5_init_23 (by decide) ?_
  refine k_newa (atype := .int) (N' := 300) hx hb (hts _ (km wm69)) rfl hK 0 rfl (fun _ => rfl) hP hD hS hA (fun _ => rfl) (by omega) (Nat.le_of_ble_eq_true rfl) (Nat.le_of_ble_eq_true rfl) (Nat.le_of_ble_eq_true rfl) dX5_init_26 (fun q26 H hP hD hS => ?_)
  have hP : va_P D vwCl [(hm, .inr (5, [.int 0, .ref q8, .ref q17, .null, .null, .null, .null, .null, .int 0, .int 0, .int 0, .int 0, .int 0, .int 0, .null, .null, .null, .null, .null, .null, .null, .int 0, .int 0, .int 0, .int 0, .int 0])), (q8, .inl (cI, 900, .inl (fun _ => (0 : Int32)))), (q17, .inl (cI, 300, .inl (fun _ => (0 : Int32)))), (q26, .inl (cI, 300, .inl (fun _ => (0 : Int32))))] H := hP
  have hD : va_D A [(hm, .inr (5, [.int 0, .ref q8, .ref q17, .null, .null, .null, .null, .null, .int 0, .int 0, .int 0, .int 0, .int 0, .int 0, .null, .null, .null, .null, .null, .null, .null, .int 0, .int 0, .int 0, .int 0, .int 0])), (q8, .inl (cI, 900, .inl (fun _ => (0 : Int32)))), (q17, .inl (cI, 300, .inl (fun _ => (0 : Int32)))), (q26, .inl (cI, 300, .inl (fun _ => (0 : Int32))))] := hD
  refine W.widen (k := 3) (n := 1500) (Nat.le_of_ble_eq_true rfl) (Nat.le_of_ble_eq_true rfl) ?_
  refine va_putF (D := D) (ci := 5) (v := .ref q26) (ty := (.array .int)) (C := RX5) (T := TX5) (N := 26) hx hb hts hi_X5 tyX5 tyX5_ok nmX5 hown hK hP hD hS 0 rfl rfl 3 (by decide) fl16 (fun _ h9 => h9) rfl hnm rfl (by decide +kernel) rfl rfl (Nat.le_of_ble_eq_true rfl) dX5_init_28 (fun H locs hP hD hS => ?_)
  have hP : va_P D vwCl [(hm, .inr (5, [.int 0, .ref q8, .ref q17, .ref q26, .null, .null, .null, .null, .int 0, .int 0, .int 0, .int 0, .int 0, .int 0, .null, .null, .null, .null, .null, .null, .null, .int 0, .int 0, .int 0, .int 0, .int 0])), (q8, .inl (cI, 900, .inl (fun _ => (0 : Int32)))), (q17, .inl (cI, 300, .inl (fun _ => (0 : Int32)))), (q26, .inl (cI, 300, .inl (fun _ => (0 : Int32))))] H := hP
  have hD : va_D A [(hm, .inr (5, [.int 0, .ref q8, .ref q17, .ref q26, .null, .null, .null, .null, .int 0, .int 0, .int 0, .int 0, .int 0, .int 0, .null, .null, .null, .null, .null, .null, .null, .int 0, .int 0, .int 0, .int 0, .int 0])), (q8, .inl (cI, 900, .inl (fun _ => (0 : Int32)))), (q17, .inl (cI, 300, .inl (fun _ => (0 : Int32)))), (q26, .inl (cI, 300, .inl (fun _ => (0 : Int32))))] := hD
  refine lv_aload_n hx hb dX5_init_31 rfl (lv_at hl 0 rfl) ?_
  refine lv_sipush (v := iI ((900 : Nat) : Int)) hx hb dX5_init_32 (by decide) ?_
  refine k_newa (atype := .int) (N' := 900) hx hb (hts _ (km wm69)) rfl hK 0 rfl (fun _ => rfl) hP hD hS hA (fun _ => rfl) (by omega) (Nat.le_of_ble_eq_true rfl) (Nat.le_of_ble_eq_true rfl) (Nat.le_of_ble_eq_true rfl) dX5_init_35 (fun q35 H hP hD hS => ?_)
  have hP : va_P D vwCl [(hm, .inr (5, [.int 0, .ref q8, .ref q17, .ref q26, .null, .null, .null, .null, .int 0, .int 0, .int 0, .int 0, .int 0, .int 0, .null, .null, .null, .null, .null, .null, .null, .int 0, .int 0, .int 0, .int 0, .int 0])), (q8, .inl (cI, 900, .inl (fun _ => (0 : Int32)))), (q17, .inl (cI, 300, .inl (fun _ => (0 : Int32)))), (q26, .inl (cI, 300, .inl (fun _ => (0 : Int32)))), (q35, .inl (cI, 900, .inl (fun _ => (0 : Int32))))] H := hP
  have hD : va_D A [(hm, .inr (5, [.int 0, .ref q8, .ref q17, .ref q26, .null, .null, .null, .null, .int 0, .int 0, .int 0, .int 0, .int 0, .int 0, .null, .null, .null, .null, .null, .null, .null, .int 0, .int 0, .int 0, .int 0, .int 0])), (q8, .inl (cI, 900, .inl (fun _ => (0 : Int32)))), (q17, .inl (cI, 300, .inl (fun _ => (0 : Int32)))), (q26, .inl (cI, 300, .inl (fun _ => (0 : Int32)))), (q35, .inl (cI, 900, .inl (fun _ => (0 : Int32))))] := hD
  refine W.widen (k := 4) (n := 2400) (Nat.le_of_ble_eq_true rfl) (Nat.le_of_ble_eq_true rfl) ?_
  refine va_putF (D := D) (ci := 5) (v := .ref q35) (ty := (.array .int)) (C := RX5) (T := TX5) (N := 26) hx hb hts hi_X5 tyX5 tyX5_ok nmX5 hown hK hP hD hS 0 rfl rfl 4 (by decide) fl19 (fun _ h9 => h9) rfl hnm rfl (by decide +kernel) rfl rfl (Nat.le_of_ble_eq_true rfl) dX5_init_37 (fun H locs hP hD hS => ?_)
  have hP : va_P D vwCl [(hm, .inr (5, [.int 0, .ref q8, .ref q17, .ref q26, .ref q35, .null, .null, .null, .int 0, .int 0, .int 0, .int 0, .int 0, .int 0, .null, .null, .null, .null, .null, .null, .null, .int 0, .int 0, .int 0, .int 0, .int 0])), (q8, .inl (cI, 900, .inl (fun _ => (0 : Int32)))), (q17, .inl (cI, 300, .inl (fun _ => (0 : Int32)))), (q26, .inl (cI, 300, .inl (fun _ => (0 : Int32)))), (q35, .inl (cI, 900, .inl (fun _ => (0 : Int32))))] H := hP
  have hD : va_D A [(hm, .inr (5, [.int 0, .ref q8, .ref q17, .ref q26, .ref q35, .null, .null, .null, .int 0, .int 0, .int 0, .int 0, .int 0, .int 0, .null, .null, .null, .null, .null, .null, .null, .int 0, .int 0, .int 0, .int 0, .int 0])), (q8, .inl (cI, 900, .inl (fun _ => (0 : Int32)))), (q17, .inl (cI, 300, .inl (fun _ => (0 : Int32)))), (q26, .inl (cI, 300, .inl (fun _ => (0 : Int32)))), (q35, .inl (cI, 900, .inl (fun _ => (0 : Int32))))] := hD
  refine lv_aload_n hx hb dX5_init_40 rfl (lv_at hl 0 rfl) ?_
  refine lv_sipush (v := iI ((300 : Nat) : Int)) hx hb dX5_init_41 (by decide) ?_
  refine k_newa (atype := .int) (N' := 300) hx hb (hts _ (km wm69)) rfl hK 0 rfl (fun _ => rfl) hP hD hS hA (fun _ => rfl) (by omega) (Nat.le_of_ble_eq_true rfl) (Nat.le_of_ble_eq_true rfl) (Nat.le_of_ble_eq_true rfl) dX5_init_44 (fun q44 H hP hD hS => ?_)
  have hP : va_P D vwCl [(hm, .inr (5, [.int 0, .ref q8, .ref q17, .ref q26, .ref q35, .null, .null, .null, .int 0, .int 0, .int 0, .int 0, .int 0, .int 0, .null, .null, .null, .null, .null, .null, .null, .int 0, .int 0, .int 0, .int 0, .int 0])), (q8, .inl (cI, 900, .inl (fun _ => (0 : Int32)))), (q17, .inl (cI, 300, .inl (fun _ => (0 : Int32)))), (q26, .inl (cI, 300, .inl (fun _ => (0 : Int32)))), (q35, .inl (cI, 900, .inl (fun _ => (0 : Int32)))), (q44, .inl (cI, 300, .inl (fun _ => (0 : Int32))))] H := hP
  have hD : va_D A [(hm, .inr (5, [.int 0, .ref q8, .ref q17, .ref q26, .ref q35, .null, .null, .null, .int 0, .int 0, .int 0, .int 0, .int 0, .int 0, .null, .null, .null, .null, .null, .null, .null, .int 0, .int 0, .int 0, .int 0, .int 0])), (q8, .inl (cI, 900, .inl (fun _ => (0 : Int32)))), (q17, .inl (cI, 300, .inl (fun _ => (0 : Int32)))), (q26, .inl (cI, 300, .inl (fun _ => (0 : Int32)))), (q35, .inl (cI, 900, .inl (fun _ => (0 : Int32)))), (q44, .inl (cI, 300, .inl (fun _ => (0 : Int32))))] := hD
  refine W.widen (k := 5) (n := 2700) (Nat.le_of_ble_eq_true rfl) (Nat.le_of_ble_eq_true rfl) ?_
  refine va_putF (D := D) (ci := 5) (v := .ref q44) (ty := (.array .int)) (C := RX5) (T := TX5) (N := 26) hx hb hts hi_X5 tyX5 tyX5_ok nmX5 hown hK hP hD hS 0 rfl rfl 5 (by decide) fl22 (fun _ h9 => h9) rfl hnm rfl (by decide +kernel) rfl rfl (Nat.le_of_ble_eq_true rfl) dX5_init_46 (fun H locs hP hD hS => ?_)
  have hP : va_P D vwCl [(hm, .inr (5, [.int 0, .ref q8, .ref q17, .ref q26, .ref q35, .ref q44, .null, .null, .int 0, .int 0, .int 0, .int 0, .int 0, .int 0, .null, .null, .null, .null, .null, .null, .null, .int 0, .int 0, .int 0, .int 0, .int 0])), (q8, .inl (cI, 900, .inl (fun _ => (0 : Int32)))), (q17, .inl (cI, 300, .inl (fun _ => (0 : Int32)))), (q26, .inl (cI, 300, .inl (fun _ => (0 : Int32)))), (q35, .inl (cI, 900, .inl (fun _ => (0 : Int32)))), (q44, .inl (cI, 300, .inl (fun _ => (0 : Int32))))] H := hP
  have hD : va_D A [(hm, .inr (5, [.int 0, .ref q8, .ref q17, .ref q26, .ref q35, .ref q44, .null, .null, .int 0, .int 0, .int 0, .int 0, .int 0, .int 0, .null, .null, .null, .null, .null, .null, .null, .int 0, .int 0, .int 0, .int 0, .int 0])), (q8, .inl (cI, 900, .inl (fun _ => (0 : Int32)))), (q17, .inl (cI, 300, .inl (fun _ => (0 : Int32)))), (q26, .inl (cI, 300, .inl (fun _ => (0 : Int32)))), (q35, .inl (cI, 900, .inl (fun _ => (0 : Int32)))), (q44, .inl (cI, 300, .inl (fun _ => (0 : Int32))))] := hD
  refine lv_aload_n hx hb dX5_init_49 rfl (lv_at hl 0 rfl) ?_
  refine lv_sipush (v := iI ((300 : Nat) : Int)) hx hb dX5_init_50 (by decide) ?_
  refine k_newa (atype := .int) (N' := 300) hx hb (hts _ (km wm69)) rfl hK 0 rfl (fun _ => rfl) hP hD hS hA (fun _ => rfl) (by omega) (Nat.le_of_ble_eq_true rfl) (Nat.le_of_ble_eq_true rfl) (Nat.le_of_ble_eq_true rfl) dX5_init_53 (fun q53 H hP hD hS => ?_)
  have hP : va_P D vwCl [(hm, .inr (5, [.int 0, .ref q8, .ref q17, .ref q26, .ref q35, .ref q44, .null, .null, .int 0, .int 0, .int 0, .int 0, .int 0, .int 0, .null, .null, .null, .null, .null, .null, .null, .int 0, .int 0, .int 0, .int 0, .int 0])), (q8, .inl (cI, 900, .inl (fun _ => (0 : Int32)))), (q17, .inl (cI, 300, .inl (fun _ => (0 : Int32)))), (q26, .inl (cI, 300, .inl (fun _ => (0 : Int32)))), (q35, .inl (cI, 900, .inl (fun _ => (0 : Int32)))), (q44, .inl (cI, 300, .inl (fun _ => (0 : Int32)))), (q53, .inl (cI, 300, .inl (fun _ => (0 : Int32))))] H := hP
  have hD : va_D A [(hm, .inr (5, [.int 0, .ref q8, .ref q17, .ref q26, .ref q35, .ref q44, .null, .null, .int 0, .int 0, .int 0, .int 0, .int 0, .int 0, .null, .null, .null, .null, .null, .null, .null, .int 0, .int 0, .int 0, .int 0, .int 0])), (q8, .inl (cI, 900, .inl (fun _ => (0 : Int32)))), (q17, .inl (cI, 300, .inl (fun _ => (0 : Int32)))), (q26, .inl (cI, 300, .inl (fun _ => (0 : Int32)))), (q35, .inl (cI, 900, .inl (fun _ => (0 : Int32)))), (q44, .inl (cI, 300, .inl (fun _ => (0 : Int32)))), (q53, .inl (cI, 300, .inl (fun _ => (0 : Int32))))] := hD
  refine W.widen (k := 6) (n := 3000) (Nat.le_of_ble_eq_true rfl) (Nat.le_of_ble_eq_true rfl) ?_
  refine va_putF (D := D) (ci := 5) (v := .ref q53) (ty := (.array .int)) (C := RX5) (T := TX5) (N := 26) hx hb hts hi_X5 tyX5 tyX5_ok nmX5 hown hK hP hD hS 0 rfl rfl 6 (by decide) fl25 (fun _ h9 => h9) rfl hnm rfl (by decide +kernel) rfl rfl (Nat.le_of_ble_eq_true rfl) dX5_init_55 (fun H locs hP hD hS => ?_)
  have hP : va_P D vwCl [(hm, .inr (5, [.int 0, .ref q8, .ref q17, .ref q26, .ref q35, .ref q44, .ref q53, .null, .int 0, .int 0, .int 0, .int 0, .int 0, .int 0, .null, .null, .null, .null, .null, .null, .null, .int 0, .int 0, .int 0, .int 0, .int 0])), (q8, .inl (cI, 900, .inl (fun _ => (0 : Int32)))), (q17, .inl (cI, 300, .inl (fun _ => (0 : Int32)))), (q26, .inl (cI, 300, .inl (fun _ => (0 : Int32)))), (q35, .inl (cI, 900, .inl (fun _ => (0 : Int32)))), (q44, .inl (cI, 300, .inl (fun _ => (0 : Int32)))), (q53, .inl (cI, 300, .inl (fun _ => (0 : Int32))))] H := hP
  have hD : va_D A [(hm, .inr (5, [.int 0, .ref q8, .ref q17, .ref q26, .ref q35, .ref q44, .ref q53, .null, .int 0, .int 0, .int 0, .int 0, .int 0, .int 0, .null, .null, .null, .null, .null, .null, .null, .int 0, .int 0, .int 0, .int 0, .int 0])), (q8, .inl (cI, 900, .inl (fun _ => (0 : Int32)))), (q17, .inl (cI, 300, .inl (fun _ => (0 : Int32)))), (q26, .inl (cI, 300, .inl (fun _ => (0 : Int32)))), (q35, .inl (cI, 900, .inl (fun _ => (0 : Int32)))), (q44, .inl (cI, 300, .inl (fun _ => (0 : Int32)))), (q53, .inl (cI, 300, .inl (fun _ => (0 : Int32))))] := hD
  refine lv_aload_n hx hb dX5_init_58 rfl (lv_at hl 0 rfl) ?_
  refine lv_sipush (v := iI ((300 : Nat) : Int)) hx hb dX5_init_59 (by decide) ?_
  refine k_newa (atype := .int) (N' := 300) hx hb (hts _ (km wm69)) rfl hK 0 rfl (fun _ => rfl) hP hD hS hA (fun _ => rfl) (by omega) (Nat.le_of_ble_eq_true rfl) (Nat.le_of_ble_eq_true rfl) (Nat.le_of_ble_eq_true rfl) dX5_init_62 (fun q62 H hP hD hS => ?_)
  have hP : va_P D vwCl [(hm, .inr (5, [.int 0, .ref q8, .ref q17, .ref q26, .ref q35, .ref q44, .ref q53, .null, .int 0, .int 0, .int 0, .int 0, .int 0, .int 0, .null, .null, .null, .null, .null, .null, .null, .int 0, .int 0, .int 0, .int 0, .int 0])), (q8, .inl (cI, 900, .inl (fun _ => (0 : Int32)))), (q17, .inl (cI, 300, .inl (fun _ => (0 : Int32)))), (q26, .inl (cI, 300, .inl (fun _ => (0 : Int32)))), (q35, .inl (cI, 900, .inl (fun _ => (0 : Int32)))), (q44, .inl (cI, 300, .inl (fun _ => (0 : Int32)))), (q53, .inl (cI, 300, .inl (fun _ => (0 : Int32)))), (q62, .inl (cI, 300, .inl (fun _ => (0 : Int32))))] H := hP
  have hD : va_D A [(hm, .inr (5, [.int 0, .ref q8, .ref q17, .ref q26, .ref q35, .ref q44, .ref q53, .null, .int 0, .int 0, .int 0, .int 0, .int 0, .int 0, .null, .null, .null, .null, .null, .null, .null, .int 0, .int 0, .int 0, .int 0, .int 0])), (q8, .inl (cI, 900, .inl (fun _ => (0 : Int32)))), (q17, .inl (cI, 300, .inl (fun _ => (0 : Int32)))), (q26, .inl (cI, 300, .inl (fun _ => (0 : Int32)))), (q35, .inl (cI, 900, .inl (fun _ => (0 : Int32)))), (q44, .inl (cI, 300, .inl (fun _ => (0 : Int32)))), (q53, .inl (cI, 300, .inl (fun _ => (0 : Int32)))), (q62, .inl (cI, 300, .inl (fun _ => (0 : Int32))))] := hD
  refine W.widen (k := 7) (n := 3300) (Nat.le_of_ble_eq_true rfl) (Nat.le_of_ble_eq_true rfl) ?_
  refine va_putF (D := D) (ci := 5) (v := .ref q62) (ty := (.array .int)) (C := RX5) (T := TX5) (N := 26) hx hb hts hi_X5 tyX5 tyX5_ok nmX5 hown hK hP hD hS 0 rfl rfl 7 (by decide) fl28 (fun _ h9 => h9) rfl hnm rfl (by decide +kernel) rfl rfl (Nat.le_of_ble_eq_true rfl) dX5_init_64 (fun H locs hP hD hS => ?_)
  have hP : va_P D vwCl [(hm, .inr (5, [.int 0, .ref q8, .ref q17, .ref q26, .ref q35, .ref q44, .ref q53, .ref q62, .int 0, .int 0, .int 0, .int 0, .int 0, .int 0, .null, .null, .null, .null, .null, .null, .null, .int 0, .int 0, .int 0, .int 0, .int 0])), (q8, .inl (cI, 900, .inl (fun _ => (0 : Int32)))), (q17, .inl (cI, 300, .inl (fun _ => (0 : Int32)))), (q26, .inl (cI, 300, .inl (fun _ => (0 : Int32)))), (q35, .inl (cI, 900, .inl (fun _ => (0 : Int32)))), (q44, .inl (cI, 300, .inl (fun _ => (0 : Int32)))), (q53, .inl (cI, 300, .inl (fun _ => (0 : Int32)))), (q62, .inl (cI, 300, .inl (fun _ => (0 : Int32))))] H := hP
  have hD : va_D A [(hm, .inr (5, [.int 0, .ref q8, .ref q17, .ref q26, .ref q35, .ref q44, .ref q53, .ref q62, .int 0, .int 0, .int 0, .int 0, .int 0, .int 0, .null, .null, .null, .null, .null, .null, .null, .int 0, .int 0, .int 0, .int 0, .int 0])), (q8, .inl (cI, 900, .inl (fun _ => (0 : Int32)))), (q17, .inl (cI, 300, .inl (fun _ => (0 : Int32)))), (q26, .inl (cI, 300, .inl (fun _ => (0 : Int32)))), (q35, .inl (cI, 900, .inl (fun _ => (0 : Int32)))), (q44, .inl (cI, 300, .inl (fun _ => (0 : Int32)))), (q53, .inl (cI, 300, .inl (fun _ => (0 : Int32)))), (q62, .inl (cI, 300, .inl (fun _ => (0 : Int32))))] := hD
  refine lv_aload_n hx hb dX5_init_67 rfl (lv_at hl 0 rfl) ?_
  refine lv_sipush (v := iI ((300 : Nat) : Int)) hx hb dX5_init_68 (by decide) ?_
  refine k_newa (atype := .int) (N' := 300) hx hb (hts _ (km wm69)) rfl hK 0 rfl (fun _ => rfl) hP hD hS hA (fun _ => rfl) (by omega) (Nat.le_of_ble_eq_true rfl) (Nat.le_of_ble_eq_true rfl) (Nat.le_of_ble_eq_true rfl) dX5_init_71 (fun q71 H hP hD hS => ?_)
  have hP : va_P D vwCl [(hm, .inr (5, [.int 0, .ref q8, .ref q17, .ref q26, .ref q35, .ref q44, .ref q53, .ref q62, .int 0, .int 0, .int 0, .int 0, .int 0, .int 0, .null, .null, .null, .null, .null, .null, .null, .int 0, .int 0, .int 0, .int 0, .int 0])), (q8, .inl (cI, 900, .inl (fun _ => (0 : Int32)))), (q17, .inl (cI, 300, .inl (fun _ => (0 : Int32)))), (q26, .inl (cI, 300, .inl (fun _ => (0 : Int32)))), (q35, .inl (cI, 900, .inl (fun _ => (0 : Int32)))), (q44, .inl (cI, 300, .inl (fun _ => (0 : Int32)))), (q53, .inl (cI, 300, .inl (fun _ => (0 : Int32)))), (q62, .inl (cI, 300, .inl (fun _ => (0 : Int32)))), (q71, .inl (cI, 300, .inl (fun _ => (0 : Int32))))] H := hP
  have hD : va_D A [(hm, .inr (5, [.int 0, .ref q8, .ref q17, .ref q26, .ref q35, .ref q44, .ref q53, .ref q62, .int 0, .int 0, .int 0, .int 0, .int 0, .int 0, .null, .null, .null, .null, .null, .null, .null, .int 0, .int 0, .int 0, .int 0, .int 0])), (q8, .inl (cI, 900, .inl (fun _ => (0 : Int32)))), (q17, .inl (cI, 300, .inl (fun _ => (0 : Int32)))), (q26, .inl (cI, 300, .inl (fun _ => (0 : Int32)))), (q35, .inl (cI, 900, .inl (fun _ => (0 : Int32)))), (q44, .inl (cI, 300, .inl (fun _ => (0 : Int32)))), (q53, .inl (cI, 300, .inl (fun _ => (0 : Int32)))), (q62, .inl (cI, 300, .inl (fun _ => (0 : Int32)))), (q71, .inl (cI, 300, .inl (fun _ => (0 : Int32))))] := hD
  refine W.widen (k := 8) (n := 3600) (Nat.le_of_ble_eq_true rfl) (Nat.le_of_ble_eq_true rfl) ?_
  refine va_putF (D := D) (ci := 5) (v := .ref q71) (ty := (.array .int)) (C := RX5) (T := TX5) (N := 26) hx hb hts hi_X5 tyX5 tyX5_ok nmX5 hown hK hP hD hS 0 rfl rfl 14 (by decide) fl31 (fun _ h9 => h9) rfl hnm rfl (by decide +kernel) rfl rfl (Nat.le_of_ble_eq_true rfl) dX5_init_73 (fun H locs hP hD hS => ?_)
  have hP : va_P D vwCl [(hm, .inr (5, [.int 0, .ref q8, .ref q17, .ref q26, .ref q35, .ref q44, .ref q53, .ref q62, .int 0, .int 0, .int 0, .int 0, .int 0, .int 0, .ref q71, .null, .null, .null, .null, .null, .null, .int 0, .int 0, .int 0, .int 0, .int 0])), (q8, .inl (cI, 900, .inl (fun _ => (0 : Int32)))), (q17, .inl (cI, 300, .inl (fun _ => (0 : Int32)))), (q26, .inl (cI, 300, .inl (fun _ => (0 : Int32)))), (q35, .inl (cI, 900, .inl (fun _ => (0 : Int32)))), (q44, .inl (cI, 300, .inl (fun _ => (0 : Int32)))), (q53, .inl (cI, 300, .inl (fun _ => (0 : Int32)))), (q62, .inl (cI, 300, .inl (fun _ => (0 : Int32)))), (q71, .inl (cI, 300, .inl (fun _ => (0 : Int32))))] H := hP
  have hD : va_D A [(hm, .inr (5, [.int 0, .ref q8, .ref q17, .ref q26, .ref q35, .ref q44, .ref q53, .ref q62, .int 0, .int 0, .int 0, .int 0, .int 0, .int 0, .ref q71, .null, .null, .null, .null, .null, .null, .int 0, .int 0, .int 0, .int 0, .int 0])), (q8, .inl (cI, 900, .inl (fun _ => (0 : Int32)))), (q17, .inl (cI, 300, .inl (fun _ => (0 : Int32)))), (q26, .inl (cI, 300, .inl (fun _ => (0 : Int32)))), (q35, .inl (cI, 900, .inl (fun _ => (0 : Int32)))), (q44, .inl (cI, 300, .inl (fun _ => (0 : Int32)))), (q53, .inl (cI, 300, .inl (fun _ => (0 : Int32)))), (q62, .inl (cI, 300, .inl (fun _ => (0 : Int32)))), (q71, .inl (cI, 300, .inl (fun _ => (0 : Int32))))] := hD
  refine lv_aload_n hx hb dX5_init_76 rfl (lv_at hl 0 rfl) ?_
  refine lv_sipush (v := iI ((300 : Nat) : Int)) hx hb dX5_init_77 (by decide) ?_
  refine k_newa (atype := .int) (N' := 300) hx hb (hts _ (km wm69)) rfl hK 0 rfl (fun _ => rfl) hP hD hS hA (fun _ => rfl) (by omega) (Nat.le_of_ble_eq_true rfl) (Nat.le_of_ble_eq_true rfl) (Nat.le_of_ble_eq_true rfl) dX5_init_80 (fun q80 H hP hD hS => ?_)
  have hP : va_P D vwCl [(hm, .inr (5, [.int 0, .ref q8, .ref q17, .ref q26, .ref q35, .ref q44, .ref q53, .ref q62, .int 0, .int 0, .int 0, .int 0, .int 0, .int 0, .ref q71, .null, .null, .null, .null, .null, .null, .int 0, .int 0, .int 0, .int 0, .int 0])), (q8, .inl (cI, 900, .inl (fun _ => (0 : Int32)))), (q17, .inl (cI, 300, .inl (fun _ => (0 : Int32)))), (q26, .inl (cI, 300, .inl (fun _ => (0 : Int32)))), (q35, .inl (cI, 900, .inl (fun _ => (0 : Int32)))), (q44, .inl (cI, 300, .inl (fun _ => (0 : Int32)))), (q53, .inl (cI, 300, .inl (fun _ => (0 : Int32)))), (q62, .inl (cI, 300, .inl (fun _ => (0 : Int32)))), (q71, .inl (cI, 300, .inl (fun _ => (0 : Int32)))), (q80, .inl (cI, 300, .inl (fun _ => (0 : Int32))))] H := hP
  have hD : va_D A [(hm, .inr (5, [.int 0, .ref q8, .ref q17, .ref q26, .ref q35, .ref q44, .ref q53, .ref q62, .int 0, .int 0, .int 0, .int 0, .int 0, .int 0, .ref q71, .null, .null, .null, .null, .null, .null, .int 0, .int 0, .int 0, .int 0, .int 0])), (q8, .inl (cI, 900, .inl (fun _ => (0 : Int32)))), (q17, .inl (cI, 300, .inl (fun _ => (0 : Int32)))), (q26, .inl (cI, 300, .inl (fun _ => (0 : Int32)))), (q35, .inl (cI, 900, .inl (fun _ => (0 : Int32)))), (q44, .inl (cI, 300, .inl (fun _ => (0 : Int32)))), (q53, .inl (cI, 300, .inl (fun _ => (0 : Int32)))), (q62, .inl (cI, 300, .inl (fun _ => (0 : Int32)))), (q71, .inl (cI, 300, .inl (fun _ => (0 : Int32)))), (q80, .inl (cI, 300, .inl (fun _ => (0 : Int32))))] := hD
  refine W.widen (k := 9) (n := 3900) (Nat.le_of_ble_eq_true rfl) (Nat.le_of_ble_eq_true rfl) ?_
  refine va_putF (D := D) (ci := 5) (v := .ref q80) (ty := (.array .int)) (C := RX5) (T := TX5) (N := 26) hx hb hts hi_X5 tyX5 tyX5_ok nmX5 hown hK hP hD hS 0 rfl rfl 15 (by decide) fl34 (fun _ h9 => h9) rfl hnm rfl (by decide +kernel) rfl rfl (Nat.le_of_ble_eq_true rfl) dX5_init_82 (fun H locs hP hD hS => ?_)
  have hP : va_P D vwCl [(hm, .inr (5, [.int 0, .ref q8, .ref q17, .ref q26, .ref q35, .ref q44, .ref q53, .ref q62, .int 0, .int 0, .int 0, .int 0, .int 0, .int 0, .ref q71, .ref q80, .null, .null, .null, .null, .null, .int 0, .int 0, .int 0, .int 0, .int 0])), (q8, .inl (cI, 900, .inl (fun _ => (0 : Int32)))), (q17, .inl (cI, 300, .inl (fun _ => (0 : Int32)))), (q26, .inl (cI, 300, .inl (fun _ => (0 : Int32)))), (q35, .inl (cI, 900, .inl (fun _ => (0 : Int32)))), (q44, .inl (cI, 300, .inl (fun _ => (0 : Int32)))), (q53, .inl (cI, 300, .inl (fun _ => (0 : Int32)))), (q62, .inl (cI, 300, .inl (fun _ => (0 : Int32)))), (q71, .inl (cI, 300, .inl (fun _ => (0 : Int32)))), (q80, .inl (cI, 300, .inl (fun _ => (0 : Int32))))] H := hP
  have hD : va_D A [(hm, .inr (5, [.int 0, .ref q8, .ref q17, .ref q26, .ref q35, .ref q44, .ref q53, .ref q62, .int 0, .int 0, .int 0, .int 0, .int 0, .int 0, .ref q71, .ref q80, .null, .null, .null, .null, .null, .int 0, .int 0, .int 0, .int 0, .int 0])), (q8, .inl (cI, 900, .inl (fun _ => (0 : Int32)))), (q17, .inl (cI, 300, .inl (fun _ => (0 : Int32)))), (q26, .inl (cI, 300, .inl (fun _ => (0 : Int32)))), (q35, .inl (cI, 900, .inl (fun _ => (0 : Int32)))), (q44, .inl (cI, 300, .inl (fun _ => (0 : Int32)))), (q53, .inl (cI, 300, .inl (fun _ => (0 : Int32)))), (q62, .inl (cI, 300, .inl (fun _ => (0 : Int32)))), (q71, .inl (cI, 300, .inl (fun _ => (0 : Int32)))), (q80, .inl (cI, 300, .inl (fun _ => (0 : Int32))))] := hD
  refine lv_aload_n hx hb dX5_init_85 rfl (lv_at hl 0 rfl) ?_
  refine lv_sipush (v := iI ((300 : Nat) : Int)) hx hb dX5_init_86 (by decide) ?_
  refine k_newa (atype := .int) (N' := 300) hx hb (hts _ (km wm69)) rfl hK 0 rfl (fun _ => rfl) hP hD hS hA (fun _ => rfl) (by omega) (Nat.le_of_ble_eq_true rfl) (Nat.le_of_ble_eq_true rfl) (Nat.le_of_ble_eq_true rfl) dX5_init_89 (fun q89 H hP hD hS => ?_)
  have hP : va_P D vwCl [(hm, .inr (5, [.int 0, .ref q8, .ref q17, .ref q26, .ref q35, .ref q44, .ref q53, .ref q62, .int 0, .int 0, .int 0, .int 0, .int 0, .int 0, .ref q71, .ref q80, .null, .null, .null, .null, .null, .int 0, .int 0, .int 0, .int 0, .int 0])), (q8, .inl (cI, 900, .inl (fun _ => (0 : Int32)))), (q17, .inl (cI, 300, .inl (fun _ => (0 : Int32)))), (q26, .inl (cI, 300, .inl (fun _ => (0 : Int32)))), (q35, .inl (cI, 900, .inl (fun _ => (0 : Int32)))), (q44, .inl (cI, 300, .inl (fun _ => (0 : Int32)))), (q53, .inl (cI, 300, .inl (fun _ => (0 : Int32)))), (q62, .inl (cI, 300, .inl (fun _ => (0 : Int32)))), (q71, .inl (cI, 300, .inl (fun _ => (0 : Int32)))), (q80, .inl (cI, 300, .inl (fun _ => (0 : Int32)))), (q89, .inl (cI, 300, .inl (fun _ => (0 : Int32))))] H := hP
  have hD : va_D A [(hm, .inr (5, [.int 0, .ref q8, .ref q17, .ref q26, .ref q35, .ref q44, .ref q53, .ref q62, .int 0, .int 0, .int 0, .int 0, .int 0, .int 0, .ref q71, .ref q80, .null, .null, .null, .null, .null, .int 0, .int 0, .int 0, .int 0, .int 0])), (q8, .inl (cI, 900, .inl (fun _ => (0 : Int32)))), (q17, .inl (cI, 300, .inl (fun _ => (0 : Int32)))), (q26, .inl (cI, 300, .inl (fun _ => (0 : Int32)))), (q35, .inl (cI, 900, .inl (fun _ => (0 : Int32)))), (q44, .inl (cI, 300, .inl (fun _ => (0 : Int32)))), (q53, .inl (cI, 300, .inl (fun _ => (0 : Int32)))), (q62, .inl (cI, 300, .inl (fun _ => (0 : Int32)))), (q71, .inl (cI, 300, .inl (fun _ => (0 : Int32)))), (q80, .inl (cI, 300, .inl (fun _ => (0 : Int32)))), (q89, .inl (cI, 300, .inl (fun _ => (0 : Int32))))] := hD
  refine W.widen (k := 10) (n := 4200) (Nat.le_of_ble_eq_true rfl) (Nat.le_of_ble_eq_true rfl) ?_
  refine va_putF (D := D) (ci := 5) (v := .ref q89) (ty := (.array .int)) (C := RX5) (T := TX5) (N := 26) hx hb hts hi_X5 tyX5 tyX5_ok nmX5 hown hK hP hD hS 0 rfl rfl 16 (by decide) fl37 (fun _ h9 => h9) rfl hnm rfl (by decide +kernel) rfl rfl (Nat.le_of_ble_eq_true rfl) dX5_init_91 (fun H locs hP hD hS => ?_)
  have hP : va_P D vwCl [(hm, .inr (5, [.int 0, .ref q8, .ref q17, .ref q26, .ref q35, .ref q44, .ref q53, .ref q62, .int 0, .int 0, .int 0, .int 0, .int 0, .int 0, .ref q71, .ref q80, .ref q89, .null, .null, .null, .null, .int 0, .int 0, .int 0, .int 0, .int 0])), (q8, .inl (cI, 900, .inl (fun _ => (0 : Int32)))), (q17, .inl (cI, 300, .inl (fun _ => (0 : Int32)))), (q26, .inl (cI, 300, .inl (fun _ => (0 : Int32)))), (q35, .inl (cI, 900, .inl (fun _ => (0 : Int32)))), (q44, .inl (cI, 300, .inl (fun _ => (0 : Int32)))), (q53, .inl (cI, 300, .inl (fun _ => (0 : Int32)))), (q62, .inl (cI, 300, .inl (fun _ => (0 : Int32)))), (q71, .inl (cI, 300, .inl (fun _ => (0 : Int32)))), (q80, .inl (cI, 300, .inl (fun _ => (0 : Int32)))), (q89, .inl (cI, 300, .inl (fun _ => (0 : Int32))))] H := hP
  have hD : va_D A [(hm, .inr (5, [.int 0, .ref q8, .ref q17, .ref q26, .ref q35, .ref q44, .ref q53, .ref q62, .int 0, .int 0, .int 0, .int 0, .int 0, .int 0, .ref q71, .ref q80, .ref q89, .null, .null, .null, .null, .int 0, .int 0, .int 0, .int 0, .int 0])), (q8, .inl (cI, 900, .inl (fun _ => (0 : Int32)))), (q17, .inl (cI, 300, .inl (fun _ => (0 : Int32)))), (q26, .inl (cI, 300, .inl (fun _ => (0 : Int32)))), (q35, .inl (cI, 900, .inl (fun _ => (0 : Int32)))), (q44, .inl (cI, 300, .inl (fun _ => (0 : Int32)))), (q53, .inl (cI, 300, .inl (fun _ => (0 : Int32)))), (q62, .inl (cI, 300, .inl (fun _ => (0 : Int32)))), (q71, .inl (cI, 300, .inl (fun _ => (0 : Int32)))), (q80, .inl (cI, 300, .inl (fun _ => (0 : Int32)))), (q89, .inl (cI, 300, .inl (fun _ => (0 : Int32))))] := hD
  refine lv_aload_n hx hb dX5_init_94 rfl (lv_at hl 0 rfl) ?_
  refine lv_sipush (v := iI ((300 : Nat) : Int)) hx hb dX5_init_95 (by decide) ?_
  refine k_newa (atype := .int) (N' := 300) hx hb (hts _ (km wm69)) rfl hK 0 rfl (fun _ => rfl) hP hD hS hA (fun _ => rfl) (by omega) (Nat.le_of_ble_eq_true rfl) (Nat.le_of_ble_eq_true rfl) (Nat.le_of_ble_eq_true rfl) dX5_init_98 (fun q98 H hP hD hS => ?_)
  have hP : va_P D vwCl [(hm, .inr (5, [.int 0, .ref q8, .ref q17, .ref q26, .ref q35, .ref q44, .ref q53, .ref q62, .int 0, .int 0, .int 0, .int 0, .int 0, .int 0, .ref q71, .ref q80, .ref q89, .null, .null, .null, .null, .int 0, .int 0, .int 0, .int 0, .int 0])), (q8, .inl (cI, 900, .inl (fun _ => (0 : Int32)))), (q17, .inl (cI, 300, .inl (fun _ => (0 : Int32)))), (q26, .inl (cI, 300, .inl (fun _ => (0 : Int32)))), (q35, .inl (cI, 900, .inl (fun _ => (0 : Int32)))), (q44, .inl (cI, 300, .inl (fun _ => (0 : Int32)))), (q53, .inl (cI, 300, .inl (fun _ => (0 : Int32)))), (q62, .inl (cI, 300, .inl (fun _ => (0 : Int32)))), (q71, .inl (cI, 300, .inl (fun _ => (0 : Int32)))), (q80, .inl (cI, 300, .inl (fun _ => (0 : Int32)))), (q89, .inl (cI, 300, .inl (fun _ => (0 : Int32)))), (q98, .inl (cI, 300, .inl (fun _ => (0 : Int32))))] H := hP
  have hD : va_D A [(hm, .inr (5, [.int 0, .ref q8, .ref q17, .ref q26, .ref q35, .ref q44, .ref q53, .ref q62, .int 0, .int 0, .int 0, .int 0, .int 0, .int 0, .ref q71, .ref q80, .ref q89, .null, .null, .null, .null, .int 0, .int 0, .int 0, .int 0, .int 0])), (q8, .inl (cI, 900, .inl (fun _ => (0 : Int32)))), (q17, .inl (cI, 300, .inl (fun _ => (0 : Int32)))), (q26, .inl (cI, 300, .inl (fun _ => (0 : Int32)))), (q35, .inl (cI, 900, .inl (fun _ => (0 : Int32)))), (q44, .inl (cI, 300, .inl (fun _ => (0 : Int32)))), (q53, .inl (cI, 300, .inl (fun _ => (0 : Int32)))), (q62, .inl (cI, 300, .inl (fun _ => (0 : Int32)))), (q71, .inl (cI, 300, .inl (fun _ => (0 : Int32)))), (q80, .inl (cI, 300, .inl (fun _ => (0 : Int32)))), (q89, .inl (cI, 300, .inl (fun _ => (0 : Int32)))), (q98, .inl (cI, 300, .inl (fun _ => (0 : Int32))))] := hD
  refine W.widen (k := 11) (n := 4500) (Nat.le_of_ble_eq_true rfl) (Nat.le_of_ble_eq_true rfl) ?_
  refine va_putF (D := D) (ci := 5) (v := .ref q98) (ty := (.array .int)) (C := RX5) (T := TX5) (N := 26) hx hb hts hi_X5 tyX5 tyX5_ok nmX5 hown hK hP hD hS 0 rfl rfl 17 (by decide) fl40 (fun _ h9 => h9) rfl hnm rfl (by decide +kernel) rfl rfl (Nat.le_of_ble_eq_true rfl) dX5_init_100 (fun H locs hP hD hS => ?_)
  have hP : va_P D vwCl [(hm, .inr (5, [.int 0, .ref q8, .ref q17, .ref q26, .ref q35, .ref q44, .ref q53, .ref q62, .int 0, .int 0, .int 0, .int 0, .int 0, .int 0, .ref q71, .ref q80, .ref q89, .ref q98, .null, .null, .null, .int 0, .int 0, .int 0, .int 0, .int 0])), (q8, .inl (cI, 900, .inl (fun _ => (0 : Int32)))), (q17, .inl (cI, 300, .inl (fun _ => (0 : Int32)))), (q26, .inl (cI, 300, .inl (fun _ => (0 : Int32)))), (q35, .inl (cI, 900, .inl (fun _ => (0 : Int32)))), (q44, .inl (cI, 300, .inl (fun _ => (0 : Int32)))), (q53, .inl (cI, 300, .inl (fun _ => (0 : Int32)))), (q62, .inl (cI, 300, .inl (fun _ => (0 : Int32)))), (q71, .inl (cI, 300, .inl (fun _ => (0 : Int32)))), (q80, .inl (cI, 300, .inl (fun _ => (0 : Int32)))), (q89, .inl (cI, 300, .inl (fun _ => (0 : Int32)))), (q98, .inl (cI, 300, .inl (fun _ => (0 : Int32))))] H := hP
  have hD : va_D A [(hm, .inr (5, [.int 0, .ref q8, .ref q17, .ref q26, .ref q35, .ref q44, .ref q53, .ref q62, .int 0, .int 0, .int 0, .int 0, .int 0, .int 0, .ref q71, .ref q80, .ref q89, .ref q98, .null, .null, .null, .int 0, .int 0, .int 0, .int 0, .int 0])), (q8, .inl (cI, 900, .inl (fun _ => (0 : Int32)))), (q17, .inl (cI, 300, .inl (fun _ => (0 : Int32)))), (q26, .inl (cI, 300, .inl (fun _ => (0 : Int32)))), (q35, .inl (cI, 900, .inl (fun _ => (0 : Int32)))), (q44, .inl (cI, 300, .inl (fun _ => (0 : Int32)))), (q53, .inl (cI, 300, .inl (fun _ => (0 : Int32)))), (q62, .inl (cI, 300, .inl (fun _ => (0 : Int32)))), (q71, .inl (cI, 300, .inl (fun _ => (0 : Int32)))), (q80, .inl (cI, 300, .inl (fun _ => (0 : Int32)))), (q89, .inl (cI, 300, .inl (fun _ => (0 : Int32)))), (q98, .inl (cI, 300, .inl (fun _ => (0 : Int32))))] := hD
  refine lv_aload_n hx hb dX5_init_103 rfl (lv_at hl 0 rfl) ?_
  refine lv_sipush (v := iI ((300 : Nat) : Int)) hx hb dX5_init_104 (by decide) ?_
  refine k_newa (atype := .int) (N' := 300) hx hb (hts _ (km wm69)) rfl hK 0 rfl (fun _ => rfl) hP hD hS hA (fun _ => rfl) (by omega) (Nat.le_of_ble_eq_true rfl) (Nat.le_of_ble_eq_true rfl) (Nat.le_of_ble_eq_true rfl) dX5_init_107 (fun q107 H hP hD hS => ?_)
  have hP : va_P D vwCl [(hm, .inr (5, [.int 0, .ref q8, .ref q17, .ref q26, .ref q35, .ref q44, .ref q53, .ref q62, .int 0, .int 0, .int 0, .int 0, .int 0, .int 0, .ref q71, .ref q80, .ref q89, .ref q98, .null, .null, .null, .int 0, .int 0, .int 0, .int 0, .int 0])), (q8, .inl (cI, 900, .inl (fun _ => (0 : Int32)))), (q17, .inl (cI, 300, .inl (fun _ => (0 : Int32)))), (q26, .inl (cI, 300, .inl (fun _ => (0 : Int32)))), (q35, .inl (cI, 900, .inl (fun _ => (0 : Int32)))), (q44, .inl (cI, 300, .inl (fun _ => (0 : Int32)))), (q53, .inl (cI, 300, .inl (fun _ => (0 : Int32)))), (q62, .inl (cI, 300, .inl (fun _ => (0 : Int32)))), (q71, .inl (cI, 300, .inl (fun _ => (0 : Int32)))), (q80, .inl (cI, 300, .inl (fun _ => (0 : Int32)))), (q89, .inl (cI, 300, .inl (fun _ => (0 : Int32)))), (q98, .inl (cI, 300, .inl (fun _ => (0 : Int32)))), (q107, .inl (cI, 300, .inl (fun _ => (0 : Int32))))] H := hP
  have hD : va_D A [(hm, .inr (5, [.int 0, .ref q8, .ref q17, .ref q26, .ref q35, .ref q44, .ref q53, .ref q62, .int 0, .int 0, .int 0, .int 0, .int 0, .int 0, .ref q71, .ref q80, .ref q89, .ref q98, .null, .null, .null, .int 0, .int 0, .int 0, .int 0, .int 0])), (q8, .inl (cI, 900, .inl (fun _ => (0 : Int32)))), (q17, .inl (cI, 300, .inl (fun _ => (0 : Int32)))), (q26, .inl (cI, 300, .inl (fun _ => (0 : Int32)))), (q35, .inl (cI, 900, .inl (fun _ => (0 : Int32)))), (q44, .inl (cI, 300, .inl (fun _ => (0 : Int32)))), (q53, .inl (cI, 300, .inl (fun _ => (0 : Int32)))), (q62, .inl (cI, 300, .inl (fun _ => (0 : Int32)))), (q71, .inl (cI, 300, .inl (fun _ => (0 : Int32)))), (q80, .inl (cI, 300, .inl (fun _ => (0 : Int32)))), (q89, .inl (cI, 300, .inl (fun _ => (0 : Int32)))), (q98, .inl (cI, 300, .inl (fun _ => (0 : Int32)))), (q107, .inl (cI, 300, .inl (fun _ => (0 : Int32))))] := hD
  refine W.widen (k := 12) (n := 4800) (Nat.le_of_ble_eq_true rfl) (Nat.le_of_ble_eq_true rfl) ?_
  refine va_putF (D := D) (ci := 5) (v := .ref q107) (ty := (.array .int)) (C := RX5) (T := TX5) (N := 26) hx hb hts hi_X5 tyX5 tyX5_ok nmX5 hown hK hP hD hS 0 rfl rfl 18 (by decide) fl43 (fun _ h9 => h9) rfl hnm rfl (by decide +kernel) rfl rfl (Nat.le_of_ble_eq_true rfl) dX5_init_109 (fun H locs hP hD hS => ?_)
  have hP : va_P D vwCl [(hm, .inr (5, [.int 0, .ref q8, .ref q17, .ref q26, .ref q35, .ref q44, .ref q53, .ref q62, .int 0, .int 0, .int 0, .int 0, .int 0, .int 0, .ref q71, .ref q80, .ref q89, .ref q98, .ref q107, .null, .null, .int 0, .int 0, .int 0, .int 0, .int 0])), (q8, .inl (cI, 900, .inl (fun _ => (0 : Int32)))), (q17, .inl (cI, 300, .inl (fun _ => (0 : Int32)))), (q26, .inl (cI, 300, .inl (fun _ => (0 : Int32)))), (q35, .inl (cI, 900, .inl (fun _ => (0 : Int32)))), (q44, .inl (cI, 300, .inl (fun _ => (0 : Int32)))), (q53, .inl (cI, 300, .inl (fun _ => (0 : Int32)))), (q62, .inl (cI, 300, .inl (fun _ => (0 : Int32)))), (q71, .inl (cI, 300, .inl (fun _ => (0 : Int32)))), (q80, .inl (cI, 300, .inl (fun _ => (0 : Int32)))), (q89, .inl (cI, 300, .inl (fun _ => (0 : Int32)))), (q98, .inl (cI, 300, .inl (fun _ => (0 : Int32)))), (q107, .inl (cI, 300, .inl (fun _ => (0 : Int32))))] H := hP
  have hD : va_D A [(hm, .inr (5, [.int 0, .ref q8, .ref q17, .ref q26, .ref q35, .ref q44, .ref q53, .ref q62, .int 0, .int 0, .int 0, .int 0, .int 0, .int 0, .ref q71, .ref q80, .ref q89, .ref q98, .ref q107, .null, .null, .int 0, .int 0, .int 0, .int 0, .int 0])), (q8, .inl (cI, 900, .inl (fun _ => (0 : Int32)))), (q17, .inl (cI, 300, .inl (fun _ => (0 : Int32)))), (q26, .inl (cI, 300, .inl (fun _ => (0 : Int32)))), (q35, .inl (cI, 900, .inl (fun _ => (0 : Int32)))), (q44, .inl (cI, 300, .inl (fun _ => (0 : Int32)))), (q53, .inl (cI, 300, .inl (fun _ => (0 : Int32)))), (q62, .inl (cI, 300, .inl (fun _ => (0 : Int32)))), (q71, .inl (cI, 300, .inl (fun _ => (0 : Int32)))), (q80, .inl (cI, 300, .inl (fun _ => (0 : Int32)))), (q89, .inl (cI, 300, .inl (fun _ => (0 : Int32)))), (q98, .inl (cI, 300, .inl (fun _ => (0 : Int32)))), (q107, .inl (cI, 300, .inl (fun _ => (0 : Int32))))] := hD
  refine lv_aload_n hx hb dX5_init_112 rfl (lv_at hl 0 rfl) ?_
  refine lv_sipush (v := iI ((300 : Nat) : Int)) hx hb dX5_init_113 (by decide) ?_
  refine k_newa (atype := .int) (N' := 300) hx hb (hts _ (km wm69)) rfl hK 0 rfl (fun _ => rfl) hP hD hS hA (fun _ => rfl) (by omega) (Nat.le_of_ble_eq_true rfl) (Nat.le_of_ble_eq_true rfl) (Nat.le_of_ble_eq_true rfl) dX5_init_116 (fun q116 H hP hD hS => ?_)
  have hP : va_P D vwCl [(hm, .inr (5, [.int 0, .ref q8, .ref q17, .ref q26, .ref q35, .ref q44, .ref q53, .ref q62, .int 0, .int 0, .int 0, .int 0, .int 0, .int 0, .ref q71, .ref q80, .ref q89, .ref q98, .ref q107, .null, .null, .int 0, .int 0, .int 0, .int 0, .int 0])), (q8, .inl (cI, 900, .inl (fun _ => (0 : Int32)))), (q17, .inl (cI, 300, .inl (fun _ => (0 : Int32)))), (q26, .inl (cI, 300, .inl (fun _ => (0 : Int32)))), (q35, .inl (cI, 900, .inl (fun _ => (0 : Int32)))), (q44, .inl (cI, 300, .inl (fun _ => (0 : Int32)))), (q53, .inl (cI, 300, .inl (fun _ => (0 : Int32)))), (q62, .inl (cI, 300, .inl (fun _ => (0 : Int32)))), (q71, .inl (cI, 300, .inl (fun _ => (0 : Int32)))), (q80, .inl (cI, 300, .inl (fun _ => (0 : Int32)))), (q89, .inl (cI, 300, .inl (fun _ => (0 : Int32)))), (q98, .inl (cI, 300, .inl (fun _ => (0 : Int32)))), (q107, .inl (cI, 300, .inl (fun _ => (0 : Int32)))), (q116, .inl (cI, 300, .inl (fun _ => (0 : Int32))))] H := hP
  have hD : va_D A [(hm, .inr (5, [.int 0, .ref q8, .ref q17, .ref q26, .ref q35, .ref q44, .ref q53, .ref q62, .int 0, .int 0, .int 0, .int 0, .int 0, .int 0, .ref q71, .ref q80, .ref q89, .ref q98, .ref q107, .null, .null, .int 0, .int 0, .int 0, .int 0, .int 0])), (q8, .inl (cI, 900, .inl (fun _ => (0 : Int32)))), (q17, .inl (cI, 300, .inl (fun _ => (0 : Int32)))), (q26, .inl (cI, 300, .inl (fun _ => (0 : Int32)))), (q35, .inl (cI, 900, .inl (fun _ => (0 : Int32)))), (q44, .inl (cI, 300, .inl (fun _ => (0 : Int32)))), (q53, .inl (cI, 300, .inl (fun _ => (0 : Int32)))), (q62, .inl (cI, 300, .inl (fun _ => (0 : Int32)))), (q71, .inl (cI, 300, .inl (fun _ => (0 : Int32)))), (q80, .inl (cI, 300, .inl (fun _ => (0 : Int32)))), (q89, .inl (cI, 300, .inl (fun _ => (0 : Int32)))), (q98, .inl (cI, 300, .inl (fun _ => (0 : Int32)))), (q107, .inl (cI, 300, .inl (fun _ => (0 : Int32)))), (q116, .inl (cI, 300, .inl (fun _ => (0 : Int32))))] := hD
  refine W.widen (k := 13) (n := 5100) (Nat.le_of_ble_eq_true rfl) (Nat.le_of_ble_eq_true rfl) ?_
  refine va_putF (D := D) (ci := 5) (v := .ref q116) (ty := (.array .int)) (C := RX5) (T := TX5) (N := 26) hx hb hts hi_X5 tyX5 tyX5_ok nmX5 hown hK hP hD hS 0 rfl rfl 19 (by decide) fl46 (fun _ h9 => h9) rfl hnm rfl (by decide +kernel) rfl rfl (Nat.le_of_ble_eq_true rfl) dX5_init_118 (fun H locs hP hD hS => ?_)
  have hP : va_P D vwCl [(hm, .inr (5, [.int 0, .ref q8, .ref q17, .ref q26, .ref q35, .ref q44, .ref q53, .ref q62, .int 0, .int 0, .int 0, .int 0, .int 0, .int 0, .ref q71, .ref q80, .ref q89, .ref q98, .ref q107, .ref q116, .null, .int 0, .int 0, .int 0, .int 0, .int 0])), (q8, .inl (cI, 900, .inl (fun _ => (0 : Int32)))), (q17, .inl (cI, 300, .inl (fun _ => (0 : Int32)))), (q26, .inl (cI, 300, .inl (fun _ => (0 : Int32)))), (q35, .inl (cI, 900, .inl (fun _ => (0 : Int32)))), (q44, .inl (cI, 300, .inl (fun _ => (0 : Int32)))), (q53, .inl (cI, 300, .inl (fun _ => (0 : Int32)))), (q62, .inl (cI, 300, .inl (fun _ => (0 : Int32)))), (q71, .inl (cI, 300, .inl (fun _ => (0 : Int32)))), (q80, .inl (cI, 300, .inl (fun _ => (0 : Int32)))), (q89, .inl (cI, 300, .inl (fun _ => (0 : Int32)))), (q98, .inl (cI, 300, .inl (fun _ => (0 : Int32)))), (q107, .inl (cI, 300, .inl (fun _ => (0 : Int32)))), (q116, .inl (cI, 300, .inl (fun _ => (0 : Int32))))] H := hP
  have hD : va_D A [(hm, .inr (5, [.int 0, .ref q8, .ref q17, .ref q26, .ref q35, .ref q44, .ref q53, .ref q62, .int 0, .int 0, .int 0, .int 0, .int 0, .int 0, .ref q71, .ref q80, .ref q89, .ref q98, .ref q107, .ref q116, .null, .int 0, .int 0, .int 0, .int 0, .int 0])), (q8, .inl (cI, 900, .inl (fun _ => (0 : Int32)))), (q17, .inl (cI, 300, .inl (fun _ => (0 : Int32)))), (q26, .inl (cI, 300, .inl (fun _ => (0 : Int32)))), (q35, .inl (cI, 900, .inl (fun _ => (0 : Int32)))), (q44, .inl (cI, 300, .inl (fun _ => (0 : Int32)))), (q53, .inl (cI, 300, .inl (fun _ => (0 : Int32)))), (q62, .inl (cI, 300, .inl (fun _ => (0 : Int32)))), (q71, .inl (cI, 300, .inl (fun _ => (0 : Int32)))), (q80, .inl (cI, 300, .inl (fun _ => (0 : Int32)))), (q89, .inl (cI, 300, .inl (fun _ => (0 : Int32)))), (q98, .inl (cI, 300, .inl (fun _ => (0 : Int32)))), (q107, .inl (cI, 300, .inl (fun _ => (0 : Int32)))), (q116, .inl (cI, 300, .inl (fun _ => (0 : Int32))))] := hD
  refine lv_aload_n hx hb dX5_init_121 rfl (lv_at hl 0 rfl) ?_
  refine lv_sipush (v := iI ((300 : Nat) : Int)) hx hb dX5_init_122 (by decide) ?_
  refine k_newa (atype := .int) (N' := 300) hx hb (hts _ (km wm69)) rfl hK 0 rfl (fun _ => rfl) hP hD hS hA (fun _ => rfl) (by omega) (Nat.le_of_ble_eq_true rfl) (Nat.le_of_ble_eq_true rfl) (Nat.le_of_ble_eq_true rfl) dX5_init_125 (fun q125 H hP hD hS => ?_)
  have hP : va_P D vwCl [(hm, .inr (5, [.int 0, .ref q8, .ref q17, .ref q26, .ref q35, .ref q44, .ref q53, .ref q62, .int 0, .int 0, .int 0, .int 0, .int 0, .int 0, .ref q71, .ref q80, .ref q89, .ref q98, .ref q107, .ref q116, .null, .int 0, .int 0, .int 0, .int 0, .int 0])), (q8, .inl (cI, 900, .inl (fun _ => (0 : Int32)))), (q17, .inl (cI, 300, .inl (fun _ => (0 : Int32)))), (q26, .inl (cI, 300, .inl (fun _ => (0 : Int32)))), (q35, .inl (cI, 900, .inl (fun _ => (0 : Int32)))), (q44, .inl (cI, 300, .inl (fun _ => (0 : Int32)))), (q53, .inl (cI, 300, .inl (fun _ => (0 : Int32)))), (q62, .inl (cI, 300, .inl (fun _ => (0 : Int32)))), (q71, .inl (cI, 300, .inl (fun _ => (0 : Int32)))), (q80, .inl (cI, 300, .inl (fun _ => (0 : Int32)))), (q89, .inl (cI, 300, .inl (fun _ => (0 : Int32)))), (q98, .inl (cI, 300, .inl (fun _ => (0 : Int32)))), (q107, .inl (cI, 300, .inl (fun _ => (0 : Int32)))), (q116, .inl (cI, 300, .inl (fun _ => (0 : Int32)))), (q125, .inl (cI, 300, .inl (fun _ => (0 : Int32))))] H := hP
  have hD : va_D A [(hm, .inr (5, [.int 0, .ref q8, .ref q17, .ref q26, .ref q35, .ref q44, .ref q53, .ref q62, .int 0, .int 0, .int 0, .int 0, .int 0, .int 0, .ref q71, .ref q80, .ref q89, .ref q98, .ref q107, .ref q116, .null, .int 0, .int 0, .int 0, .int 0, .int 0])), (q8, .inl (cI, 900, .inl (fun _ => (0 : Int32)))), (q17, .inl (cI, 300, .inl (fun _ => (0 : Int32)))), (q26, .inl (cI, 300, .inl (fun _ => (0 : Int32)))), (q35, .inl (cI, 900, .inl (fun _ => (0 : Int32)))), (q44, .inl (cI, 300, .inl (fun _ => (0 : Int32)))), (q53, .inl (cI, 300, .inl (fun _ => (0 : Int32)))), (q62, .inl (cI, 300, .inl (fun _ => (0 : Int32)))), (q71, .inl (cI, 300, .inl (fun _ => (0 : Int32)))), (q80, .inl (cI, 300, .inl (fun _ => (0 : Int32)))), (q89, .inl (cI, 300, .inl (fun _ => (0 : Int32)))), (q98, .inl (cI, 300, .inl (fun _ => (0 : Int32)))), (q107, .inl (cI, 300, .inl (fun _ => (0 : Int32)))), (q116, .inl (cI, 300, .inl (fun _ => (0 : Int32)))), (q125, .inl (cI, 300, .inl (fun _ => (0 : Int32))))] := hD
  refine W.widen (k := 14) (n := 5400) (Nat.le_of_ble_eq_true rfl) (Nat.le_of_ble_eq_true rfl) ?_
  refine va_putF (D := D) (ci := 5) (v := .ref q125) (ty := (.array .int)) (C := RX5) (T := TX5) (N := 26) hx hb hts hi_X5 tyX5 tyX5_ok nmX5 hown hK hP hD hS 0 rfl rfl 20 (by decide) fl49 (fun _ h9 => h9) rfl hnm rfl (by decide +kernel) rfl rfl (Nat.le_of_ble_eq_true rfl) dX5_init_127 (fun H locs hP hD hS => ?_)
  have hP : va_P D vwCl [(hm, .inr (5, [.int 0, .ref q8, .ref q17, .ref q26, .ref q35, .ref q44, .ref q53, .ref q62, .int 0, .int 0, .int 0, .int 0, .int 0, .int 0, .ref q71, .ref q80, .ref q89, .ref q98, .ref q107, .ref q116, .ref q125, .int 0, .int 0, .int 0, .int 0, .int 0])), (q8, .inl (cI, 900, .inl (fun _ => (0 : Int32)))), (q17, .inl (cI, 300, .inl (fun _ => (0 : Int32)))), (q26, .inl (cI, 300, .inl (fun _ => (0 : Int32)))), (q35, .inl (cI, 900, .inl (fun _ => (0 : Int32)))), (q44, .inl (cI, 300, .inl (fun _ => (0 : Int32)))), (q53, .inl (cI, 300, .inl (fun _ => (0 : Int32)))), (q62, .inl (cI, 300, .inl (fun _ => (0 : Int32)))), (q71, .inl (cI, 300, .inl (fun _ => (0 : Int32)))), (q80, .inl (cI, 300, .inl (fun _ => (0 : Int32)))), (q89, .inl (cI, 300, .inl (fun _ => (0 : Int32)))), (q98, .inl (cI, 300, .inl (fun _ => (0 : Int32)))), (q107, .inl (cI, 300, .inl (fun _ => (0 : Int32)))), (q116, .inl (cI, 300, .inl (fun _ => (0 : Int32)))), (q125, .inl (cI, 300, .inl (fun _ => (0 : Int32))))] H := hP
  have hD : va_D A [(hm, .inr (5, [.int 0, .ref q8, .ref q17, .ref q26, .ref q35, .ref q44, .ref q53, .ref q62, .int 0, .int 0, .int 0, .int 0, .int 0, .int 0, .ref q71, .ref q80, .ref q89, .ref q98, .ref q107, .ref q116, .ref q125, .int 0, .int 0, .int 0, .int 0, .int 0])), (q8, .inl (cI, 900, .inl (fun _ => (0 : Int32)))), (q17, .inl (cI, 300, .inl (fun _ => (0 : Int32)))), (q26, .inl (cI, 300, .inl (fun _ => (0 : Int32)))), (q35, .inl (cI, 900, .inl (fun _ => (0 : Int32)))), (q44, .inl (cI, 300, .inl (fun _ => (0 : Int32)))), (q53, .inl (cI, 300, .inl (fun _ => (0 : Int32)))), (q62, .inl (cI, 300, .inl (fun _ => (0 : Int32)))), (q71, .inl (cI, 300, .inl (fun _ => (0 : Int32)))), (q80, .inl (cI, 300, .inl (fun _ => (0 : Int32)))), (q89, .inl (cI, 300, .inl (fun _ => (0 : Int32)))), (q98, .inl (cI, 300, .inl (fun _ => (0 : Int32)))), (q107, .inl (cI, 300, .inl (fun _ => (0 : Int32)))), (q116, .inl (cI, 300, .inl (fun _ => (0 : Int32)))), (q125, .inl (cI, 300, .inl (fun _ => (0 : Int32))))] := hD
  exact k_vret (q8, q17, q26, q35, q44, q53, q62, q71, q80, q89, q98, q107, q116, q125) hx hb hr hlocks hK hP hD hS [0, 1, 2, 3, 4, 5, 6, 7, 8, 9, 10, 11, 12, 13, 14] (by decide) rfl rfl (trivial) hAe hQ dX5_init_130

abbrev rm_c_Mo_sizeOf : Room := { frames := 0, cells := 0, slots := 0, locals := 0 }
set_option maxHeartbeats 4000000 in
set_option maxRecDepth 100000 in
theorem c_Mo_sizeOf (l : Launch) (D : va_G) (cI cZ : ClassId) (hm : Nat) (cd : Int32) (x1 : Nat) (x2 : Nat) (x3 : Nat) (x4 : Nat) (x5 : Nat) (x6 : Nat) (x7 : Nat) (kt : Nat) (k1 : Nat) (k2 : Nat) (k3 : Nat) (k4 : Nat) (k5 : Nat) (y1 : Nat) (y2 : Nat) (y3 : Nat) (y4 : Nat) (y5 : Nat) (y6 : Nat) (y7 : Nat) (ms : Nat) (kw : Nat) (kd : Nat) (ma : Nat) (lk : Int) (z : Int) (hzr : -2147483648 ≤ z ∧ z < 2147483648) : MI l yX5_sizeOf wsX5_sizeOf rm_c_Mo_sizeOf D (kT cI cZ) [.ref hm, .int (iI (z : Int))] [(hm, .inr (5, [.int cd, .ref x1, .ref x2, .ref x3, .ref x4, .ref x5, .ref x6, .ref x7, .int (iI ((kt : Nat) : Int)), .int (iI ((k1 : Nat) : Int)), .int (iI ((k2 : Nat) : Int)), .int (iI ((k3 : Nat) : Int)), .int (iI ((k4 : Nat) : Int)), .int (iI ((k5 : Nat) : Int)), .ref y1, .ref y2, .ref y3, .ref y4, .ref y5, .ref y6, .ref y7, .int (iI ((ms : Nat) : Int)), .int (iI ((kw : Nat) : Int)), .int (iI ((kd : Nat) : Int)), .int (iI ((ma : Nat) : Int)), .int (iI (lk : Int))]))] (fun (r : Int32) (_ : Unit) => r = iI (szF z k1 k2 k3 k4 k5 : Int)) (fun (u : Unit) => match u with | _ => [(hm, .inr (5, [.int cd, .ref x1, .ref x2, .ref x3, .ref x4, .ref x5, .ref x6, .ref x7, .int (iI ((kt : Nat) : Int)), .int (iI ((k1 : Nat) : Int)), .int (iI ((k2 : Nat) : Int)), .int (iI ((k3 : Nat) : Int)), .int (iI ((k4 : Nat) : Int)), .int (iI ((k5 : Nat) : Int)), .ref y1, .ref y2, .ref y3, .ref y4, .ref y5, .ref y6, .ref y7, .int (iI ((ms : Nat) : Int)), .int (iI ((kw : Nat) : Int)), .int (iI ((kd : Nat) : Int)), .int (iI ((ma : Nat) : Int)), .int (iI (lk : Int))]))]) 0 0 := by
  intro sz
  refine k_of (cc := cX5_sizeOf) (maxL := 2) (ret := (some .int)) (by decide) rfl (Nat.le_of_ble_eq_true rfl) ?_
  intro p e s m args below meth c A Q hAe hQ hx hb hr hml hts hown hlocks hnm hP hK hD hS hA ls hl
  have hl : lv_has ls 2 [(0, .ref hm), (1, .int (iI (z : Int)))] := hl
  have hi_X5 : ∀ w ∈ u_ws RX5 TX5 26, w ∈ wsX5_sizeOf := fun w h => km (ikX5 w h)
  have fl61 := hts _ (km wm484)
  have fl64 := hts _ (km wm485)
  have fl67 := hts _ (km wm486)
  have fl70 := hts _ (km wm487)
  have fl73 := hts _ (km wm488)
  refine lv_iload_n hx hb dX5_sizeOf_0 rfl (lv_at hl 1 rfl) ?_
  refine lv_if_ne (tgt := 11) hx hb dX5_sizeOf_1 (by decide) (fun c1 => ?_) (fun c1 => ?_)
  · skip
    have c1 := iI_eqF (a := (z : Int)) (b := (0 : Int)) c1 (by omega)
    refine lv_iload_n hx hb dX5_sizeOf_11 rfl (lv_at hl 1 rfl) ?_
    refine lv_iconst (v := iI (1 : Int)) hx hb dX5_sizeOf_12 rfl ?_
    refine lv_icmp_ne (tgt := 23) hx hb dX5_sizeOf_13 (by decide) (fun c13 => ?_) (fun c13 => ?_)
    · skip
      have c13 := iI_eqF (a := (z : Int)) (b := (1 : Int)) c13 (by omega)
      refine lv_iload_n hx hb dX5_sizeOf_23 rfl (lv_at hl 1 rfl) ?_
      refine lv_iconst (v := iI (2 : Int)) hx hb dX5_sizeOf_24 rfl ?_
      refine lv_icmp_ne (tgt := 35) hx hb dX5_sizeOf_25 (by decide) (fun c25 => ?_) (fun c25 => ?_)
      · skip
        have c25 := iI_eqF (a := (z : Int)) (b := (2 : Int)) c25 (by omega)
        refine lv_iload_n hx hb dX5_sizeOf_35 rfl (lv_at hl 1 rfl) ?_
        refine lv_iconst (v := iI (3 : Int)) hx hb dX5_sizeOf_36 rfl ?_
        refine lv_icmp_ne (tgt := 47) hx hb dX5_sizeOf_37 (by decide) (fun c37 => ?_) (fun c37 => ?_)
        · skip
          have c37 := iI_eqF (a := (z : Int)) (b := (3 : Int)) c37 (by omega)
          refine lv_iload_n hx hb dX5_sizeOf_47 rfl (lv_at hl 1 rfl) ?_
          refine lv_iconst (v := iI (4 : Int)) hx hb dX5_sizeOf_48 rfl ?_
          refine lv_icmp_ne (tgt := 59) hx hb dX5_sizeOf_49 (by decide) (fun c49 => ?_) (fun c49 => ?_)
          · skip
            have c49 := iI_eqF (a := (z : Int)) (b := (4 : Int)) c49 (by omega)
            refine lv_iconst (v := iI (-1 : Int)) hx hb dX5_sizeOf_59 rfl ?_
            exact k_iret () hx hb hr hlocks hK hP hD hS [0] (by decide) rfl rfl (by unfold szF; first | rw [if_pos (by omega)] | rw [if_neg (by omega), if_pos (by omega)] | rw [if_neg (by omega), if_neg (by omega), if_pos (by omega)] | rw [if_neg (by omega), if_neg (by omega), if_neg (by omega), if_pos (by omega)] | rw [if_neg (by omega), if_neg (by omega), if_neg (by omega), if_neg (by omega), if_pos (by omega)] | rw [if_neg (by omega), if_neg (by omega), if_neg (by omega), if_neg (by omega), if_neg (by omega)]) hAe hQ dX5_sizeOf_60
          · skip
            have c49 := iI_eqT (a := (z : Int)) (b := (4 : Int)) c49 (by omega)
            refine lv_aload_n hx hb dX5_sizeOf_52 rfl (lv_at hl 0 rfl) ?_
            refine va_get (D := D) (ci := 5) (v := .int (iI ((k5 : Nat) : Int))) (C := RX5) (T := TX5) (N := 26) hx hb hts hi_X5 hown hK hP 0 rfl rfl 13 (by decide) fl73 (fun _ h9 => h9) rfl dX5_sizeOf_53 ?_
            refine lv_goto (tgt := 60) hx hb dX5_sizeOf_56 (by decide) ?_
            exact k_iret () hx hb hr hlocks hK hP hD hS [0] (by decide) rfl rfl (by unfold szF; first | rw [if_pos (by omega)] | rw [if_neg (by omega), if_pos (by omega)] | rw [if_neg (by omega), if_neg (by omega), if_pos (by omega)] | rw [if_neg (by omega), if_neg (by omega), if_neg (by omega), if_pos (by omega)] | rw [if_neg (by omega), if_neg (by omega), if_neg (by omega), if_neg (by omega), if_pos (by omega)] | rw [if_neg (by omega), if_neg (by omega), if_neg (by omega), if_neg (by omega), if_neg (by omega)]) hAe hQ dX5_sizeOf_60
        · skip
          have c37 := iI_eqT (a := (z : Int)) (b := (3 : Int)) c37 (by omega)
          refine lv_aload_n hx hb dX5_sizeOf_40 rfl (lv_at hl 0 rfl) ?_
          refine va_get (D := D) (ci := 5) (v := .int (iI ((k4 : Nat) : Int))) (C := RX5) (T := TX5) (N := 26) hx hb hts hi_X5 hown hK hP 0 rfl rfl 12 (by decide) fl70 (fun _ h9 => h9) rfl dX5_sizeOf_41 ?_
          refine lv_goto (tgt := 60) hx hb dX5_sizeOf_44 (by decide) ?_
          exact k_iret () hx hb hr hlocks hK hP hD hS [0] (by decide) rfl rfl (by unfold szF; first | rw [if_pos (by omega)] | rw [if_neg (by omega), if_pos (by omega)] | rw [if_neg (by omega), if_neg (by omega), if_pos (by omega)] | rw [if_neg (by omega), if_neg (by omega), if_neg (by omega), if_pos (by omega)] | rw [if_neg (by omega), if_neg (by omega), if_neg (by omega), if_neg (by omega), if_pos (by omega)] | rw [if_neg (by omega), if_neg (by omega), if_neg (by omega), if_neg (by omega), if_neg (by omega)]) hAe hQ dX5_sizeOf_60
      · skip
        have c25 := iI_eqT (a := (z : Int)) (b := (2 : Int)) c25 (by omega)
        refine lv_aload_n hx hb dX5_sizeOf_28 rfl (lv_at hl 0 rfl) ?_
        refine va_get (D := D) (ci := 5) (v := .int (iI ((k3 : Nat) : Int))) (C := RX5) (T := TX5) (N := 26) hx hb hts hi_X5 hown hK hP 0 rfl rfl 11 (by decide) fl67 (fun _ h9 => h9) rfl dX5_sizeOf_29 ?_
        refine lv_goto (tgt := 60) hx hb dX5_sizeOf_32 (by decide) ?_
        exact k_iret () hx hb hr hlocks hK hP hD hS [0] (by decide) rfl rfl (by unfold szF; first | rw [if_pos (by omega)] | rw [if_neg (by omega), if_pos (by omega)] | rw [if_neg (by omega), if_neg (by omega), if_pos (by omega)] | rw [if_neg (by omega), if_neg (by omega), if_neg (by omega), if_pos (by omega)] | rw [if_neg (by omega), if_neg (by omega), if_neg (by omega), if_neg (by omega), if_pos (by omega)] | rw [if_neg (by omega), if_neg (by omega), if_neg (by omega), if_neg (by omega), if_neg (by omega)]) hAe hQ dX5_sizeOf_60
    · skip
      have c13 := iI_eqT (a := (z : Int)) (b := (1 : Int)) c13 (by omega)
      refine lv_aload_n hx hb dX5_sizeOf_16 rfl (lv_at hl 0 rfl) ?_
      refine va_get (D := D) (ci := 5) (v := .int (iI ((k2 : Nat) : Int))) (C := RX5) (T := TX5) (N := 26) hx hb hts hi_X5 hown hK hP 0 rfl rfl 10 (by decide) fl64 (fun _ h9 => h9) rfl dX5_sizeOf_17 ?_
      refine lv_goto (tgt := 60) hx hb dX5_sizeOf_20 (by decide) ?_
      exact k_iret () hx hb hr hlocks hK hP hD hS [0] (by decide) rfl rfl (by unfold szF; first | rw [if_pos (by omega)] | rw [if_neg (by omega), if_pos (by omega)] | rw [if_neg (by omega), if_neg (by omega), if_pos (by omega)] | rw [if_neg (by omega), if_neg (by omega), if_neg (by omega), if_pos (by omega)] | rw [if_neg (by omega), if_neg (by omega), if_neg (by omega), if_neg (by omega), if_pos (by omega)] | rw [if_neg (by omega), if_neg (by omega), if_neg (by omega), if_neg (by omega), if_neg (by omega)]) hAe hQ dX5_sizeOf_60
  · skip
    have c1 := iI_eqT (a := (z : Int)) (b := (0 : Int)) c1 (by omega)
    refine lv_aload_n hx hb dX5_sizeOf_4 rfl (lv_at hl 0 rfl) ?_
    refine va_get (D := D) (ci := 5) (v := .int (iI ((k1 : Nat) : Int))) (C := RX5) (T := TX5) (N := 26) hx hb hts hi_X5 hown hK hP 0 rfl rfl 9 (by decide) fl61 (fun _ h9 => h9) rfl dX5_sizeOf_5 ?_
    refine lv_goto (tgt := 60) hx hb dX5_sizeOf_8 (by decide) ?_
    exact k_iret () hx hb hr hlocks hK hP hD hS [0] (by decide) rfl rfl (by unfold szF; first | rw [if_pos (by omega)] | rw [if_neg (by omega), if_pos (by omega)] | rw [if_neg (by omega), if_neg (by omega), if_pos (by omega)] | rw [if_neg (by omega), if_neg (by omega), if_neg (by omega), if_pos (by omega)] | rw [if_neg (by omega), if_neg (by omega), if_neg (by omega), if_neg (by omega), if_pos (by omega)] | rw [if_neg (by omega), if_neg (by omega), if_neg (by omega), if_neg (by omega), if_neg (by omega)]) hAe hQ dX5_sizeOf_60

abbrev rm_c_Mo_sizeOf0 : Room := { frames := 0, cells := 0, slots := 0, locals := 0 }
set_option maxHeartbeats 4000000 in
set_option maxRecDepth 100000 in
theorem c_Mo_sizeOf0 (l : Launch) (D : va_G) (cI cZ : ClassId) (hm : Nat) (cd : Int32) (x1 : Nat) (x2 : Nat) (x3 : Nat) (x4 : Nat) (x5 : Nat) (x6 : Nat) (x7 : Nat) (kt : Nat) (k1 : Nat) (k2 : Nat) (k3 : Nat) (k4 : Nat) (k5 : Nat) (y1 : Nat) (y2 : Nat) (y3 : Nat) (y4 : Nat) (y5 : Nat) (y6 : Nat) (y7 : Nat) (ms : Nat) (kw : Nat) (kd : Nat) (ma : Nat) (lk : Int)  : MI l yX5_sizeOf wsX5_sizeOf rm_c_Mo_sizeOf0 D (kT cI cZ) [.ref hm, .int (iI (0 : Int))] [(hm, .inr (5, [.int cd, .ref x1, .ref x2, .ref x3, .ref x4, .ref x5, .ref x6, .ref x7, .int (iI ((kt : Nat) : Int)), .int (iI ((k1 : Nat) : Int)), .int (iI ((k2 : Nat) : Int)), .int (iI ((k3 : Nat) : Int)), .int (iI ((k4 : Nat) : Int)), .int (iI ((k5 : Nat) : Int)), .ref y1, .ref y2, .ref y3, .ref y4, .ref y5, .ref y6, .ref y7, .int (iI ((ms : Nat) : Int)), .int (iI ((kw : Nat) : Int)), .int (iI ((kd : Nat) : Int)), .int (iI ((ma : Nat) : Int)), .int (iI (lk : Int))]))] (fun (r : Int32) (_ : Unit) => r = iI ((k1 : Nat) : Int)) (fun (u : Unit) => match u with | _ => [(hm, .inr (5, [.int cd, .ref x1, .ref x2, .ref x3, .ref x4, .ref x5, .ref x6, .ref x7, .int (iI ((kt : Nat) : Int)), .int (iI ((k1 : Nat) : Int)), .int (iI ((k2 : Nat) : Int)), .int (iI ((k3 : Nat) : Int)), .int (iI ((k4 : Nat) : Int)), .int (iI ((k5 : Nat) : Int)), .ref y1, .ref y2, .ref y3, .ref y4, .ref y5, .ref y6, .ref y7, .int (iI ((ms : Nat) : Int)), .int (iI ((kw : Nat) : Int)), .int (iI ((kd : Nat) : Int)), .int (iI ((ma : Nat) : Int)), .int (iI (lk : Int))]))]) 0 0 := by
  intro sz
  refine k_of (cc := cX5_sizeOf) (maxL := 2) (ret := (some .int)) (by decide) rfl (Nat.le_of_ble_eq_true rfl) ?_
  intro p e s m args below meth c A Q hAe hQ hx hb hr hml hts hown hlocks hnm hP hK hD hS hA ls hl
  have hl : lv_has ls 2 [(0, .ref hm), (1, .int (iI (0 : Int)))] := hl
  have hi_X5 : ∀ w ∈ u_ws RX5 TX5 26, w ∈ wsX5_sizeOf := fun w h => km (ikX5 w h)
  have fl61 := hts _ (km wm484)
  have fl64 := hts _ (km wm485)
  have fl67 := hts _ (km wm486)
  have fl70 := hts _ (km wm487)
  have fl73 := hts _ (km wm488)
  refine lv_iload_n hx hb dX5_sizeOf_0 rfl (lv_at hl 1 rfl) ?_
  refine lv_if_ne (tgt := 11) hx hb dX5_sizeOf_1 (by decide) (fun c1 => ?_) (fun c1 => ?_)
  · skip
    have c1 := iI_eqF (a := (0 : Int)) (b := (0 : Int)) c1 (by omega)
    omega
  · skip
    have c1 := iI_eqT (a := (0 : Int)) (b := (0 : Int)) c1 (by omega)
    refine lv_aload_n hx hb dX5_sizeOf_4 rfl (lv_at hl 0 rfl) ?_
    refine va_get (D := D) (ci := 5) (v := .int (iI ((k1 : Nat) : Int))) (C := RX5) (T := TX5) (N := 26) hx hb hts hi_X5 hown hK hP 0 rfl rfl 9 (by decide) fl61 (fun _ h9 => h9) rfl dX5_sizeOf_5 ?_
    refine lv_goto (tgt := 60) hx hb dX5_sizeOf_8 (by decide) ?_
    exact k_iret () hx hb hr hlocks hK hP hD hS [0] (by decide) rfl rfl (rfl) hAe hQ dX5_sizeOf_60

abbrev rm_c_Mo_sizeOf1 : Room := { frames := 0, cells := 0, slots := 0, locals := 0 }
set_option maxHeartbeats 4000000 in
set_option maxRecDepth 100000 in
theorem c_Mo_sizeOf1 (l : Launch) (D : va_G) (cI cZ : ClassId) (hm : Nat) (cd : Int32) (x1 : Nat) (x2 : Nat) (x3 : Nat) (x4 : Nat) (x5 : Nat) (x6 : Nat) (x7 : Nat) (kt : Nat) (k1 : Nat) (k2 : Nat) (k3 : Nat) (k4 : Nat) (k5 : Nat) (y1 : Nat) (y2 : Nat) (y3 : Nat) (y4 : Nat) (y5 : Nat) (y6 : Nat) (y7 : Nat) (ms : Nat) (kw : Nat) (kd : Nat) (ma : Nat) (lk : Int)  : MI l yX5_sizeOf wsX5_sizeOf rm_c_Mo_sizeOf1 D (kT cI cZ) [.ref hm, .int (iI (1 : Int))] [(hm, .inr (5, [.int cd, .ref x1, .ref x2, .ref x3, .ref x4, .ref x5, .ref x6, .ref x7, .int (iI ((kt : Nat) : Int)), .int (iI ((k1 : Nat) : Int)), .int (iI ((k2 : Nat) : Int)), .int (iI ((k3 : Nat) : Int)), .int (iI ((k4 : Nat) : Int)), .int (iI ((k5 : Nat) : Int)), .ref y1, .ref y2, .ref y3, .ref y4, .ref y5, .ref y6, .ref y7, .int (iI ((ms : Nat) : Int)), .int (iI ((kw : Nat) : Int)), .int (iI ((kd : Nat) : Int)), .int (iI ((ma : Nat) : Int)), .int (iI (lk : Int))]))] (fun (r : Int32) (_ : Unit) => r = iI ((k2 : Nat) : Int)) (fun (u : Unit) => match u with | _ => [(hm, .inr (5, [.int cd, .ref x1, .ref x2, .ref x3, .ref x4, .ref x5, .ref x6, .ref x7, .int (iI ((kt : Nat) : Int)), .int (iI ((k1 : Nat) : Int)), .int (iI ((k2 : Nat) : Int)), .int (iI ((k3 : Nat) : Int)), .int (iI ((k4 : Nat) : Int)), .int (iI ((k5 : Nat) : Int)), .ref y1, .ref y2, .ref y3, .ref y4, .ref y5, .ref y6, .ref y7, .int (iI ((ms : Nat) : Int)), .int (iI ((kw : Nat) : Int)), .int (iI ((kd : Nat) : Int)), .int (iI ((ma : Nat) : Int)), .int (iI (lk : Int))]))]) 0 0 := by
  intro sz
  refine k_of (cc := cX5_sizeOf) (maxL := 2) (ret := (some .int)) (by decide) rfl (Nat.le_of_ble_eq_true rfl) ?_
  intro p e s m args below meth c A Q hAe hQ hx hb hr hml hts hown hlocks hnm hP hK hD hS hA ls hl
  have hl : lv_has ls 2 [(0, .ref hm), (1, .int (iI (1 : Int)))] := hl
  have hi_X5 : ∀ w ∈ u_ws RX5 TX5 26, w ∈ wsX5_sizeOf := fun w h => km (ikX5 w h)
  have fl61 := hts _ (km wm484)
  have fl64 := hts _ (km wm485)
  have fl67 := hts _ (km wm486)
  have fl70 := hts _ (km wm487)
  have fl73 := hts _ (km wm488)
  refine lv_iload_n hx hb dX5_sizeOf_0 rfl (lv_at hl 1 rfl) ?_
  refine lv_if_ne (tgt := 11) hx hb dX5_sizeOf_1 (by decide) (fun c1 => ?_) (fun c1 => ?_)
  · skip
    have c1 := iI_eqF (a := (1 : Int)) (b := (0 : Int)) c1 (by omega)
    refine lv_iload_n hx hb dX5_sizeOf_11 rfl (lv_at hl 1 rfl) ?_
    refine lv_iconst (v := iI (1 : Int)) hx hb dX5_sizeOf_12 rfl ?_
    refine lv_icmp_ne (tgt := 23) hx hb dX5_sizeOf_13 (by decide) (fun c13 => ?_) (fun c13 => ?_)
    · skip
      have c13 := iI_eqF (a := (1 : Int)) (b := (1 : Int)) c13 (by omega)
      omega
    · skip
      have c13 := iI_eqT (a := (1 : Int)) (b := (1 : Int)) c13 (by omega)
      refine lv_aload_n hx hb dX5_sizeOf_16 rfl (lv_at hl 0 rfl) ?_
      refine va_get (D := D) (ci := 5) (v := .int (iI ((k2 : Nat) : Int))) (C := RX5) (T := TX5) (N := 26) hx hb hts hi_X5 hown hK hP 0 rfl rfl 10 (by decide) fl64 (fun _ h9 => h9) rfl dX5_sizeOf_17 ?_
      refine lv_goto (tgt := 60) hx hb dX5_sizeOf_20 (by decide) ?_
      exact k_iret () hx hb hr hlocks hK hP hD hS [0] (by decide) rfl rfl (rfl) hAe hQ dX5_sizeOf_60
  · skip
    have c1 := iI_eqT (a := (1 : Int)) (b := (0 : Int)) c1 (by omega)
    omega

abbrev rm_c_Mo_sizeOf2 : Room := { frames := 0, cells := 0, slots := 0, locals := 0 }
set_option maxHeartbeats 4000000 in
set_option maxRecDepth 100000 in
theorem c_Mo_sizeOf2 (l : Launch) (D : va_G) (cI cZ : ClassId) (hm : Nat) (cd : Int32) (x1 : Nat) (x2 : Nat) (x3 : Nat) (x4 : Nat) (x5 : Nat) (x6 : Nat) (x7 : Nat) (kt : Nat) (k1 : Nat) (k2 : Nat) (k3 : Nat) (k4 : Nat) (k5 : Nat) (y1 : Nat) (y2 : Nat) (y3 : Nat) (y4 : Nat) (y5 : Nat) (y6 : Nat) (y7 : Nat) (ms : Nat) (kw : Nat) (kd : Nat) (ma : Nat) (lk : Int)  : MI l yX5_sizeOf wsX5_sizeOf rm_c_Mo_sizeOf2 D (kT cI cZ) [.ref hm, .int (iI (2 : Int))] [(hm, .inr (5, [.int cd, .ref x1, .ref x2, .ref x3, .ref x4, .ref x5, .ref x6, .ref x7, .int (iI ((kt : Nat) : Int)), .int (iI ((k1 : Nat) : Int)), .int (iI ((k2 : Nat) : Int)), .int (iI ((k3 : Nat) : Int)), .int (iI ((k4 : Nat) : Int)), .int (iI ((k5 : Nat) : Int)), .ref y1, .ref y2, .ref y3, .ref y4, .ref y5, .ref y6, .ref y7, .int (iI ((ms : Nat) : Int)), .int (iI ((kw : Nat) : Int)), .int (iI ((kd : Nat) : Int)), .int (iI ((ma : Nat) : Int)), .int (iI (lk : Int))]))] (fun (r : Int32) (_ : Unit) => r = iI ((k3 : Nat) : Int)) (fun (u : Unit) => match u with | _ => [(hm, .inr (5, [.int cd, .ref x1, .ref x2, .ref x3, .ref x4, .ref x5, .ref x6, .ref x7, .int (iI ((kt : Nat) : Int)), .int (iI ((k1 : Nat) : Int)), .int (iI ((k2 : Nat) : Int)), .int (iI ((k3 : Nat) : Int)), .int (iI ((k4 : Nat) : Int)), .int (iI ((k5 : Nat) : Int)), .ref y1, .ref y2, .ref y3, .ref y4, .ref y5, .ref y6, .ref y7, .int (iI ((ms : Nat) : Int)), .int (iI ((kw : Nat) : Int)), .int (iI ((kd : Nat) : Int)), .int (iI ((ma : Nat) : Int)), .int (iI (lk : Int))]))]) 0 0 := by
  intro sz
  refine k_of (cc := cX5_sizeOf) (maxL := 2) (ret := (some .int)) (by decide) rfl (Nat.le_of_ble_eq_true rfl) ?_
  intro p e s m args below meth c A Q hAe hQ hx hb hr hml hts hown hlocks hnm hP hK hD hS hA ls hl
  have hl : lv_has ls 2 [(0, .ref hm), (1, .int (iI (2 : Int)))] := hl
  have hi_X5 : ∀ w ∈ u_ws RX5 TX5 26, w ∈ wsX5_sizeOf := fun w h => km (ikX5 w h)
  have fl61 := hts _ (km wm484)
  have fl64 := hts _ (km wm485)
  have fl67 := hts _ (km wm486)
  have fl70 := hts _ (km wm487)
  have fl73 := hts _ (km wm488)
  refine lv_iload_n hx hb dX5_sizeOf_0 rfl (lv_at hl 1 rfl) ?_
  refine lv_if_ne (tgt := 11) hx hb dX5_sizeOf_1 (by decide) (fun c1 => ?_) (fun c1 => ?_)
  · skip
    have c1 := iI_eqF (a := (2 : Int)) (b := (0 : Int)) c1 (by omega)
    refine lv_iload_n hx hb dX5_sizeOf_11 rfl (lv_at hl 1 rfl) ?_
    refine lv_iconst (v := iI (1 : Int)) hx hb dX5_sizeOf_12 rfl ?_
    refine lv_icmp_ne (tgt := 23) hx hb dX5_sizeOf_13 (by decide) (fun c13 => ?_) (fun c13 => ?_)
    · skip
      have c13 := iI_eqF (a := (2 : Int)) (b := (1 : Int)) c13 (by omega)
      refine lv_iload_n hx hb dX5_sizeOf_23 rfl (lv_at hl 1 rfl) ?_
      refine lv_iconst (v := iI (2 : Int)) hx hb dX5_sizeOf_24 rfl ?_
      refine lv_icmp_ne (tgt := 35) hx hb dX5_sizeOf_25 (by decide) (fun c25 => ?_) (fun c25 => ?_)
      · skip
        have c25 := iI_eqF (a := (2 : Int)) (b := (2 : Int)) c25 (by omega)
        omega
      · skip
        have c25 := iI_eqT (a := (2 : Int)) (b := (2 : Int)) c25 (by omega)
        refine lv_aload_n hx hb dX5_sizeOf_28 rfl (lv_at hl 0 rfl) ?_
        refine va_get (D := D) (ci := 5) (v := .int (iI ((k3 : Nat) : Int))) (C := RX5) (T := TX5) (N := 26) hx hb hts hi_X5 hown hK hP 0 rfl rfl 11 (by decide) fl67 (fun _ h9 => h9) rfl dX5_sizeOf_29 ?_
        refine lv_goto (tgt := 60) hx hb dX5_sizeOf_32 (by decide) ?_
        exact k_iret () hx hb hr hlocks hK hP hD hS [0] (by decide) rfl rfl (rfl) hAe hQ dX5_sizeOf_60
    · skip
      have c13 := iI_eqT (a := (2 : Int)) (b := (1 : Int)) c13 (by omega)
      omega
  · skip
    have c1 := iI_eqT (a := (2 : Int)) (b := (0 : Int)) c1 (by omega)
    omega

abbrev rm_c_Mo_sizeOf3 : Room := { frames := 0, cells := 0, slots := 0, locals := 0 }
set_option maxHeartbeats 4000000 in
set_option maxRecDepth 100000 in
theorem c_Mo_sizeOf3 (l : Launch) (D : va_G) (cI cZ : ClassId) (hm : Nat) (cd : Int32) (x1 : Nat) (x2 : Nat) (x3 : Nat) (x4 : Nat) (x5 : Nat) (x6 : Nat) (x7 : Nat) (kt : Nat) (k1 : Nat) (k2 : Nat) (k3 : Nat) (k4 : Nat) (k5 : Nat) (y1 : Nat) (y2 : Nat) (y3 : Nat) (y4 : Nat) (y5 : Nat) (y6 : Nat) (y7 : Nat) (ms : Nat) (kw : Nat) (kd : Nat) (ma : Nat) (lk : Int)  : MI l yX5_sizeOf wsX5_sizeOf rm_c_Mo_sizeOf3 D (kT cI cZ) [.ref hm, .int (iI (3 : Int))] [(hm, .inr (5, [.int cd, .ref x1, .ref x2, .ref x3, .ref x4, .ref x5, .ref x6, .ref x7, .int (iI ((kt : Nat) : Int)), .int (iI ((k1 : Nat) : Int)), .int (iI ((k2 : Nat) : Int)), .int (iI ((k3 : Nat) : Int)), .int (iI ((k4 : Nat) : Int)), .int (iI ((k5 : Nat) : Int)), .ref y1, .ref y2, .ref y3, .ref y4, .ref y5, .ref y6, .ref y7, .int (iI ((ms : Nat) : Int)), .int (iI ((kw : Nat) : Int)), .int (iI ((kd : Nat) : Int)), .int (iI ((ma : Nat) : Int)), .int (iI (lk : Int))]))] (fun (r : Int32) (_ : Unit) => r = iI ((k4 : Nat) : Int)) (fun (u : Unit) => match u with | _ => [(hm, .inr (5, [.int cd, .ref x1, .ref x2, .ref x3, .ref x4, .ref x5, .ref x6, .ref x7, .int (iI ((kt : Nat) : Int)), .int (iI ((k1 : Nat) : Int)), .int (iI ((k2 : Nat) : Int)), .int (iI ((k3 : Nat) : Int)), .int (iI ((k4 : Nat) : Int)), .int (iI ((k5 : Nat) : Int)), .ref y1, .ref y2, .ref y3, .ref y4, .ref y5, .ref y6, .ref y7, .int (iI ((ms : Nat) : Int)), .int (iI ((kw : Nat) : Int)), .int (iI ((kd : Nat) : Int)), .int (iI ((ma : Nat) : Int)), .int (iI (lk : Int))]))]) 0 0 := by
  intro sz
  refine k_of (cc := cX5_sizeOf) (maxL := 2) (ret := (some .int)) (by decide) rfl (Nat.le_of_ble_eq_true rfl) ?_
  intro p e s m args below meth c A Q hAe hQ hx hb hr hml hts hown hlocks hnm hP hK hD hS hA ls hl
  have hl : lv_has ls 2 [(0, .ref hm), (1, .int (iI (3 : Int)))] := hl
  have hi_X5 : ∀ w ∈ u_ws RX5 TX5 26, w ∈ wsX5_sizeOf := fun w h => km (ikX5 w h)
  have fl61 := hts _ (km wm484)
  have fl64 := hts _ (km wm485)
  have fl67 := hts _ (km wm486)
  have fl70 := hts _ (km wm487)
  have fl73 := hts _ (km wm488)
  refine lv_iload_n hx hb dX5_sizeOf_0 rfl (lv_at hl 1 rfl) ?_
  refine lv_if_ne (tgt := 11) hx hb dX5_sizeOf_1 (by decide) (fun c1 => ?_) (fun c1 => ?_)
  · skip
    have c1 := iI_eqF (a := (3 : Int)) (b := (0 : Int)) c1 (by omega)
    refine lv_iload_n hx hb dX5_sizeOf_11 rfl (lv_at hl 1 rfl) ?_
    refine lv_iconst (v := iI (1 : Int)) hx hb dX5_sizeOf_12 rfl ?_
    refine lv_icmp_ne (tgt := 23) hx hb dX5_sizeOf_13 (by decide) (fun c13 => ?_) (fun c13 => ?_)
    · skip
      have c13 := iI_eqF (a := (3 : Int)) (b := (1 : Int)) c13 (by omega)
      refine lv_iload_n hx hb dX5_sizeOf_23 rfl (lv_at hl 1 rfl) ?_
      refine lv_iconst (v := iI (2 : Int)) hx hb dX5_sizeOf_24 rfl ?_
      refine lv_icmp_ne (tgt := 35) hx hb dX5_sizeOf_25 (by decide) (fun c25 => ?_) (fun c25 => ?_)
      · skip
        have c25 := iI_eqF (a := (3 : Int)) (b := (2 : Int)) c25 (by omega)
        refine lv_iload_n hx hb dX5_sizeOf_35 rfl (lv_at hl 1 rfl) ?_
        refine lv_iconst (v := iI (3 : Int)) hx hb dX5_sizeOf_36 rfl ?_
        refine lv_icmp_ne (tgt := 47) hx hb dX5_sizeOf_37 (by decide) (fun c37 => ?_) (fun c37 => ?_)
        · skip
          have c37 := iI_eqF (a := (3 : Int)) (b := (3 : Int)) c37 (by omega)
          omega
        · skip
          have c37 := iI_eqT (a := (3 : Int)) (b := (3 : Int)) c37 (by omega)
          refine lv_aload_n hx hb dX5_sizeOf_40 rfl (lv_at hl 0 rfl) ?_
          refine va_get (D := D) (ci := 5) (v := .int (iI ((k4 : Nat) : Int))) (C := RX5) (T := TX5) (N := 26) hx hb hts hi_X5 hown hK hP 0 rfl rfl 12 (by decide) fl70 (fun _ h9 => h9) rfl dX5_sizeOf_41 ?_
          refine lv_goto (tgt := 60) hx hb dX5_sizeOf_44 (by decide) ?_
          exact k_iret () hx hb hr hlocks hK hP hD hS [0] (by decide) rfl rfl (rfl) hAe hQ dX5_sizeOf_60
      · skip
        have c25 := iI_eqT (a := (3 : Int)) (b := (2 : Int)) c25 (by omega)
        omega
    · skip
      have c13 := iI_eqT (a := (3 : Int)) (b := (1 : Int)) c13 (by omega)
      omega
  · skip
    have c1 := iI_eqT (a := (3 : Int)) (b := (0 : Int)) c1 (by omega)
    omega

abbrev rm_c_Mo_sizeOf4 : Room := { frames := 0, cells := 0, slots := 0, locals := 0 }
set_option maxHeartbeats 4000000 in
set_option maxRecDepth 100000 in
theorem c_Mo_sizeOf4 (l : Launch) (D : va_G) (cI cZ : ClassId) (hm : Nat) (cd : Int32) (x1 : Nat) (x2 : Nat) (x3 : Nat) (x4 : Nat) (x5 : Nat) (x6 : Nat) (x7 : Nat) (kt : Nat) (k1 : Nat) (k2 : Nat) (k3 : Nat) (k4 : Nat) (k5 : Nat) (y1 : Nat) (y2 : Nat) (y3 : Nat) (y4 : Nat) (y5 : Nat) (y6 : Nat) (y7 : Nat) (ms : Nat) (kw : Nat) (kd : Nat) (ma : Nat) (lk : Int)  : MI l yX5_sizeOf wsX5_sizeOf rm_c_Mo_sizeOf4 D (kT cI cZ) [.ref hm, .int (iI (4 : Int))] [(hm, .inr (5, [.int cd, .ref x1, .ref x2, .ref x3, .ref x4, .ref x5, .ref x6, .ref x7, .int (iI ((kt : Nat) : Int)), .int (iI ((k1 : Nat) : Int)), .int (iI ((k2 : Nat) : Int)), .int (iI ((k3 : Nat) : Int)), .int (iI ((k4 : Nat) : Int)), .int (iI ((k5 : Nat) : Int)), .ref y1, .ref y2, .ref y3, .ref y4, .ref y5, .ref y6, .ref y7, .int (iI ((ms : Nat) : Int)), .int (iI ((kw : Nat) : Int)), .int (iI ((kd : Nat) : Int)), .int (iI ((ma : Nat) : Int)), .int (iI (lk : Int))]))] (fun (r : Int32) (_ : Unit) => r = iI ((k5 : Nat) : Int)) (fun (u : Unit) => match u with | _ => [(hm, .inr (5, [.int cd, .ref x1, .ref x2, .ref x3, .ref x4, .ref x5, .ref x6, .ref x7, .int (iI ((kt : Nat) : Int)), .int (iI ((k1 : Nat) : Int)), .int (iI ((k2 : Nat) : Int)), .int (iI ((k3 : Nat) : Int)), .int (iI ((k4 : Nat) : Int)), .int (iI ((k5 : Nat) : Int)), .ref y1, .ref y2, .ref y3, .ref y4, .ref y5, .ref y6, .ref y7, .int (iI ((ms : Nat) : Int)), .int (iI ((kw : Nat) : Int)), .int (iI ((kd : Nat) : Int)), .int (iI ((ma : Nat) : Int)), .int (iI (lk : Int))]))]) 0 0 := by
  intro sz
  refine k_of (cc := cX5_sizeOf) (maxL := 2) (ret := (some .int)) (by decide) rfl (Nat.le_of_ble_eq_true rfl) ?_
  intro p e s m args below meth c A Q hAe hQ hx hb hr hml hts hown hlocks hnm hP hK hD hS hA ls hl
  have hl : lv_has ls 2 [(0, .ref hm), (1, .int (iI (4 : Int)))] := hl
  have hi_X5 : ∀ w ∈ u_ws RX5 TX5 26, w ∈ wsX5_sizeOf := fun w h => km (ikX5 w h)
  have fl61 := hts _ (km wm484)
  have fl64 := hts _ (km wm485)
  have fl67 := hts _ (km wm486)
  have fl70 := hts _ (km wm487)
  have fl73 := hts _ (km wm488)
  refine lv_iload_n hx hb dX5_sizeOf_0 rfl (lv_at hl 1 rfl) ?_
  refine lv_if_ne (tgt := 11) hx hb dX5_sizeOf_1 (by decide) (fun c1 => ?_) (fun c1 => ?_)
  · skip
    have c1 := iI_eqF (a := (4 : Int)) (b := (0 : Int)) c1 (by omega)
    refine lv_iload_n hx hb dX5_sizeOf_11 rfl (lv_at hl 1 rfl) ?_
    refine lv_iconst (v := iI (1 : Int)) hx hb dX5_sizeOf_12 rfl ?_
    refine lv_icmp_ne (tgt := 23) hx hb dX5_sizeOf_13 (by decide) (fun c13 => ?_) (fun c13 => ?_)
    · skip
      have c13 := iI_eqF (a := (4 : Int)) (b := (1 : Int)) c13 (by omega)
      refine lv_iload_n hx hb dX5_sizeOf_23 rfl (lv_at hl 1 rfl) ?_
      refine lv_iconst (v := iI (2 : Int)) hx hb dX5_sizeOf_24 rfl ?_
      refine lv_icmp_ne (tgt := 35) hx hb dX5_sizeOf_25 (by decide) (fun c25 => ?_) (fun c25 => ?_)
      · skip
        have c25 := iI_eqF (a := (4 : Int)) (b := (2 : Int)) c25 (by omega)
        refine lv_iload_n hx hb dX5_sizeOf_35 rfl (lv_at hl 1 rfl) ?_
        refine lv_iconst (v := iI (3 : Int)) hx hb dX5_sizeOf_36 rfl ?_
        refine lv_icmp_ne (tgt := 47) hx hb dX5_sizeOf_37 (by decide) (fun c37 => ?_) (fun c37 => ?_)
        · skip
          have c37 := iI_eqF (a := (4 : Int)) (b := (3 : Int)) c37 (by omega)
          refine lv_iload_n hx hb dX5_sizeOf_47 rfl (lv_at hl 1 rfl) ?_
          refine lv_iconst (v := iI (4 : Int)) hx hb dX5_sizeOf_48 rfl ?_
          refine lv_icmp_ne (tgt := 59) hx hb dX5_sizeOf_49 (by decide) (fun c49 => ?_) (fun c49 => ?_)
          · skip
            have c49 := iI_eqF (a := (4 : Int)) (b := (4 : Int)) c49 (by omega)
            omega
          · skip
            have c49 := iI_eqT (a := (4 : Int)) (b := (4 : Int)) c49 (by omega)
            refine lv_aload_n hx hb dX5_sizeOf_52 rfl (lv_at hl 0 rfl) ?_
            refine va_get (D := D) (ci := 5) (v := .int (iI ((k5 : Nat) : Int))) (C := RX5) (T := TX5) (N := 26) hx hb hts hi_X5 hown hK hP 0 rfl rfl 13 (by decide) fl73 (fun _ h9 => h9) rfl dX5_sizeOf_53 ?_
            refine lv_goto (tgt := 60) hx hb dX5_sizeOf_56 (by decide) ?_
            exact k_iret () hx hb hr hlocks hK hP hD hS [0] (by decide) rfl rfl (rfl) hAe hQ dX5_sizeOf_60
        · skip
          have c37 := iI_eqT (a := (4 : Int)) (b := (3 : Int)) c37 (by omega)
          omega
      · skip
        have c25 := iI_eqT (a := (4 : Int)) (b := (2 : Int)) c25 (by omega)
        omega
    · skip
      have c13 := iI_eqT (a := (4 : Int)) (b := (1 : Int)) c13 (by omega)
      omega
  · skip
    have c1 := iI_eqT (a := (4 : Int)) (b := (0 : Int)) c1 (by omega)
    omega

abbrev rm_c_Mo_byteOf0 : Room := { frames := 0, cells := 0, slots := 0, locals := 0 }
set_option maxHeartbeats 4000000 in
set_option maxRecDepth 100000 in
theorem c_Mo_byteOf0 (l : Launch) (D : va_G) (cI cZ : ClassId) (hm : Nat) (cd : Int32) (x1 : Nat) (x2 : Nat) (x3 : Nat) (x4 : Nat) (x5 : Nat) (x6 : Nat) (x7 : Nat) (kt : Nat) (k1 : Nat) (k2 : Nat) (k3 : Nat) (k4 : Nat) (k5 : Nat) (y1 : Nat) (y2 : Nat) (y3 : Nat) (y4 : Nat) (y5 : Nat) (y6 : Nat) (y7 : Nat) (ms : Nat) (kw : Nat) (kd : Nat) (ma : Nat) (lk : Int) (g : Nat → Int32) (i : Nat) (hi : i < 300) : MI l yX5_byteOf wsX5_byteOf rm_c_Mo_byteOf0 D (kT cI cZ) [.ref hm, .int (iI (0 : Int)), .int (iI ((i : Nat) : Int))] [(hm, .inr (5, [.int cd, .ref x1, .ref x2, .ref x3, .ref x4, .ref x5, .ref x6, .ref x7, .int (iI ((kt : Nat) : Int)), .int (iI ((k1 : Nat) : Int)), .int (iI ((k2 : Nat) : Int)), .int (iI ((k3 : Nat) : Int)), .int (iI ((k4 : Nat) : Int)), .int (iI ((k5 : Nat) : Int)), .ref y1, .ref y2, .ref y3, .ref y4, .ref y5, .ref y6, .ref y7, .int (iI ((ms : Nat) : Int)), .int (iI ((kw : Nat) : Int)), .int (iI ((kd : Nat) : Int)), .int (iI ((ma : Nat) : Int)), .int (iI (lk : Int))])), (x2, .inl (cI, 300, .inl g))] (fun (r : Int32) (_ : Unit) => r = (g i)) (fun (u : Unit) => match u with | _ => [(hm, .inr (5, [.int cd, .ref x1, .ref x2, .ref x3, .ref x4, .ref x5, .ref x6, .ref x7, .int (iI ((kt : Nat) : Int)), .int (iI ((k1 : Nat) : Int)), .int (iI ((k2 : Nat) : Int)), .int (iI ((k3 : Nat) : Int)), .int (iI ((k4 : Nat) : Int)), .int (iI ((k5 : Nat) : Int)), .ref y1, .ref y2, .ref y3, .ref y4, .ref y5, .ref y6, .ref y7, .int (iI ((ms : Nat) : Int)), .int (iI ((kw : Nat) : Int)), .int (iI ((kd : Nat) : Int)), .int (iI ((ma : Nat) : Int)), .int (iI (lk : Int))])), (x2, .inl (cI, 300, .inl g))]) 0 0 := by
  intro sz
  refine k_of (cc := cX5_byteOf) (maxL := 3) (ret := (some .int)) (by decide) rfl (Nat.le_of_ble_eq_true rfl) ?_
  intro p e s m args below meth c A Q hAe hQ hx hb hr hml hts hown hlocks hnm hP hK hD hS hA ls hl
  have hl : lv_has ls 3 [(0, .ref hm), (1, .int (iI (0 : Int))), (2, .int (iI ((i : Nat) : Int)))] := hl
  have hi_X5 : ∀ w ∈ u_ws RX5 TX5 26, w ∈ wsX5_byteOf := fun w h => km (ikX5 w h)
  have fl13 := hts _ (km wm477)
  have fl16 := hts _ (km wm478)
  have fl19 := hts _ (km wm479)
  have fl22 := hts _ (km wm480)
  have fl25 := hts _ (km wm481)
  refine lv_iload_n hx hb dX5_byteOf_0 rfl (lv_at hl 1 rfl) ?_
  refine lv_if_ne (tgt := 13) hx hb dX5_byteOf_1 (by decide) (fun c1 => ?_) (fun c1 => ?_)
  · skip
    have c1 := iI_eqF (a := (0 : Int)) (b := (0 : Int)) c1 (by omega)
    omega
  · skip
    have c1 := iI_eqT (a := (0 : Int)) (b := (0 : Int)) c1 (by omega)
    refine lv_aload_n hx hb dX5_byteOf_4 rfl (lv_at hl 0 rfl) ?_
    refine va_get (D := D) (ci := 5) (v := .ref x2) (C := RX5) (T := TX5) (N := 26) hx hb hts hi_X5 hown hK hP 0 rfl rfl 2 (by decide) fl13 (fun _ h9 => h9) rfl dX5_byteOf_5 ?_
    refine lv_iload_n hx hb dX5_byteOf_8 rfl (lv_at hl 2 rfl) ?_
    refine k_iald hx hb hK hP 1 0 rfl rfl i (by omega) dX5_byteOf_9 ?_
    refine lv_goto (tgt := 61) hx hb dX5_byteOf_10 (by decide) ?_
    exact k_iret () hx hb hr hlocks hK hP hD hS [0, 1] (by decide) rfl rfl (rfl) hAe hQ dX5_byteOf_61

abbrev rm_c_Mo_byteOf1 : Room := { frames := 0, cells := 0, slots := 0, locals := 0 }
set_option maxHeartbeats 4000000 in
set_option maxRecDepth 100000 in
theorem c_Mo_byteOf1 (l : Launch) (D : va_G) (cI cZ : ClassId) (hm : Nat) (cd : Int32) (x1 : Nat) (x2 : Nat) (x3 : Nat) (x4 : Nat) (x5 : Nat) (x6 : Nat) (x7 : Nat) (kt : Nat) (k1 : Nat) (k2 : Nat) (k3 : Nat) (k4 : Nat) (k5 : Nat) (y1 : Nat) (y2 : Nat) (y3 : Nat) (y4 : Nat) (y5 : Nat) (y6 : Nat) (y7 : Nat) (ms : Nat) (kw : Nat) (kd : Nat) (ma : Nat) (lk : Int) (g : Nat → Int32) (i : Nat) (hi : i < 300) : MI l yX5_byteOf wsX5_byteOf rm_c_Mo_byteOf1 D (kT cI cZ) [.ref hm, .int (iI (1 : Int)), .int (iI ((i : Nat) : Int))] [(hm, .inr (5, [.int cd, .ref x1, .ref x2, .ref x3, .ref x4, .ref x5, .ref x6, .ref x7, .int (iI ((kt : Nat) : Int)), .int (iI ((k1 : Nat) : Int)), .int (iI ((k2 : Nat) : Int)), .int (iI ((k3 : Nat) : Int)), .int (iI ((k4 : Nat) : Int)), .int (iI ((k5 : Nat) : Int)), .ref y1, .ref y2, .ref y3, .ref y4, .ref y5, .ref y6, .ref y7, .int (iI ((ms : Nat) : Int)), .int (iI ((kw : Nat) : Int)), .int (iI ((kd : Nat) : Int)), .int (iI ((ma : Nat) : Int)), .int (iI (lk : Int))])), (x3, .inl (cI, 300, .inl g))] (fun (r : Int32) (_ : Unit) => r = (g i)) (fun (u : Unit) => match u with | _ => [(hm, .inr (5, [.int cd, .ref x1, .ref x2, .ref x3, .ref x4, .ref x5, .ref x6, .ref x7, .int (iI ((kt : Nat) : Int)), .int (iI ((k1 : Nat) : Int)), .int (iI ((k2 : Nat) : Int)), .int (iI ((k3 : Nat) : Int)), .int (iI ((k4 : Nat) : Int)), .int (iI ((k5 : Nat) : Int)), .ref y1, .ref y2, .ref y3, .ref y4, .ref y5, .ref y6, .ref y7, .int (iI ((ms : Nat) : Int)), .int (iI ((kw : Nat) : Int)), .int (iI ((kd : Nat) : Int)), .int (iI ((ma : Nat) : Int)), .int (iI (lk : Int))])), (x3, .inl (cI, 300, .inl g))]) 0 0 := by
  intro sz
  refine k_of (cc := cX5_byteOf) (maxL := 3) (ret := (some .int)) (by decide) rfl (Nat.le_of_ble_eq_true rfl) ?_
  intro p e s m args below meth c A Q hAe hQ hx hb hr hml hts hown hlocks hnm hP hK hD hS hA ls hl
  have hl : lv_has ls 3 [(0, .ref hm), (1, .int (iI (1 : Int))), (2, .int (iI ((i : Nat) : Int)))] := hl
  have hi_X5 : ∀ w ∈ u_ws RX5 TX5 26, w ∈ wsX5_byteOf := fun w h => km (ikX5 w h)
  have fl13 := hts _ (km wm477)
  have fl16 := hts _ (km wm478)
  have fl19 := hts _ (km wm479)
  have fl22 := hts _ (km wm480)
  have fl25 := hts _ (km wm481)
  refine lv_iload_n hx hb dX5_byteOf_0 rfl (lv_at hl 1 rfl) ?_
  refine lv_if_ne (tgt := 13) hx hb dX5_byteOf_1 (by decide) (fun c1 => ?_) (fun c1 => ?_)
  · skip
    have c1 := iI_eqF (a := (1 : Int)) (b := (0 : Int)) c1 (by omega)
    refine lv_iload_n hx hb dX5_byteOf_13 rfl (lv_at hl 1 rfl) ?_
    refine lv_iconst (v := iI (1 : Int)) hx hb dX5_byteOf_14 rfl ?_
    refine lv_icmp_ne (tgt := 27) hx hb dX5_byteOf_15 (by decide) (fun c15 => ?_) (fun c15 => ?_)
    · skip
      have c15 := iI_eqF (a := (1 : Int)) (b := (1 : Int)) c15 (by omega)
      omega
    · skip
      have c15 := iI_eqT (a := (1 : Int)) (b := (1 : Int)) c15 (by omega)
      refine lv_aload_n hx hb dX5_byteOf_18 rfl (lv_at hl 0 rfl) ?_
      refine va_get (D := D) (ci := 5) (v := .ref x3) (C := RX5) (T := TX5) (N := 26) hx hb hts hi_X5 hown hK hP 0 rfl rfl 3 (by decide) fl16 (fun _ h9 => h9) rfl dX5_byteOf_19 ?_
      refine lv_iload_n hx hb dX5_byteOf_22 rfl (lv_at hl 2 rfl) ?_
      refine k_iald hx hb hK hP 1 0 rfl rfl i (by omega) dX5_byteOf_23 ?_
      refine lv_goto (tgt := 61) hx hb dX5_byteOf_24 (by decide) ?_
      exact k_iret () hx hb hr hlocks hK hP hD hS [0, 1] (by decide) rfl rfl (rfl) hAe hQ dX5_byteOf_61
  · skip
    have c1 := iI_eqT (a := (1 : Int)) (b := (0 : Int)) c1 (by omega)
    omega

abbrev rm_c_Mo_byteOf2 : Room := { frames := 0, cells := 0, slots := 0, locals := 0 }
set_option maxHeartbeats 4000000 in
set_option maxRecDepth 100000 in
theorem c_Mo_byteOf2 (l : Launch) (D : va_G) (cI cZ : ClassId) (hm : Nat) (cd : Int32) (x1 : Nat) (x2 : Nat) (x3 : Nat) (x4 : Nat) (x5 : Nat) (x6 : Nat) (x7 : Nat) (kt : Nat) (k1 : Nat) (k2 : Nat) (k3 : Nat) (k4 : Nat) (k5 : Nat) (y1 : Nat) (y2 : Nat) (y3 : Nat) (y4 : Nat) (y5 : Nat) (y6 : Nat) (y7 : Nat) (ms : Nat) (kw : Nat) (kd : Nat) (ma : Nat) (lk : Int) (g : Nat → Int32) (i : Nat) (hi : i < 900) : MI l yX5_byteOf wsX5_byteOf rm_c_Mo_byteOf2 D (kT cI cZ) [.ref hm, .int (iI (2 : Int)), .int (iI ((i : Nat) : Int))] [(hm, .inr (5, [.int cd, .ref x1, .ref x2, .ref x3, .ref x4, .ref x5, .ref x6, .ref x7, .int (iI ((kt : Nat) : Int)), .int (iI ((k1 : Nat) : Int)), .int (iI ((k2 : Nat) : Int)), .int (iI ((k3 : Nat) : Int)), .int (iI ((k4 : Nat) : Int)), .int (iI ((k5 : Nat) : Int)), .ref y1, .ref y2, .ref y3, .ref y4, .ref y5, .ref y6, .ref y7, .int (iI ((ms : Nat) : Int)), .int (iI ((kw : Nat) : Int)), .int (iI ((kd : Nat) : Int)), .int (iI ((ma : Nat) : Int)), .int (iI (lk : Int))])), (x4, .inl (cI, 900, .inl g))] (fun (r : Int32) (_ : Unit) => r = (g i)) (fun (u : Unit) => match u with | _ => [(hm, .inr (5, [.int cd, .ref x1, .ref x2, .ref x3, .ref x4, .ref x5, .ref x6, .ref x7, .int (iI ((kt : Nat) : Int)), .int (iI ((k1 : Nat) : Int)), .int (iI ((k2 : Nat) : Int)), .int (iI ((k3 : Nat) : Int)), .int (iI ((k4 : Nat) : Int)), .int (iI ((k5 : Nat) : Int)), .ref y1, .ref y2, .ref y3, .ref y4, .ref y5, .ref y6, .ref y7, .int (iI ((ms : Nat) : Int)), .int (iI ((kw : Nat) : Int)), .int (iI ((kd : Nat) : Int)), .int (iI ((ma : Nat) : Int)), .int (iI (lk : Int))])), (x4, .inl (cI, 900, .inl g))]) 0 0 := by
  intro sz
  refine k_of (cc := cX5_byteOf) (maxL := 3) (ret := (some .int)) (by decide) rfl (Nat.le_of_ble_eq_true rfl) ?_
  intro p e s m args below meth c A Q hAe hQ hx hb hr hml hts hown hlocks hnm hP hK hD hS hA ls hl
  have hl : lv_has ls 3 [(0, .ref hm), (1, .int (iI (2 : Int))), (2, .int (iI ((i : Nat) : Int)))] := hl
  have hi_X5 : ∀ w ∈ u_ws RX5 TX5 26, w ∈ wsX5_byteOf := fun w h => km (ikX5 w h)
  have fl13 := hts _ (km wm477)
  have fl16 := hts _ (km wm478)
  have fl19 := hts _ (km wm479)
  have fl22 := hts _ (km wm480)
  have fl25 := hts _ (km wm481)
  refine lv_iload_n hx hb dX5_byteOf_0 rfl (lv_at hl 1 rfl) ?_
  refine lv_if_ne (tgt := 13) hx hb dX5_byteOf_1 (by decide) (fun c1 => ?_) (fun c1 => ?_)
  · skip
    have c1 := iI_eqF (a := (2 : Int)) (b := (0 : Int)) c1 (by omega)
    refine lv_iload_n hx hb dX5_byteOf_13 rfl (lv_at hl 1 rfl) ?_
    refine lv_iconst (v := iI (1 : Int)) hx hb dX5_byteOf_14 rfl ?_
    refine lv_icmp_ne (tgt := 27) hx hb dX5_byteOf_15 (by decide) (fun c15 => ?_) (fun c15 => ?_)
    · skip
      have c15 := iI_eqF (a := (2 : Int)) (b := (1 : Int)) c15 (by omega)
      refine lv_iload_n hx hb dX5_byteOf_27 rfl (lv_at hl 1 rfl) ?_
      refine lv_iconst (v := iI (2 : Int)) hx hb dX5_byteOf_28 rfl ?_
      refine lv_icmp_ne (tgt := 41) hx hb dX5_byteOf_29 (by decide) (fun c29 => ?_) (fun c29 => ?_)
      · skip
        have c29 := iI_eqF (a := (2 : Int)) (b := (2 : Int)) c29 (by omega)
        omega
      · skip
        have c29 := iI_eqT (a := (2 : Int)) (b := (2 : Int)) c29 (by omega)
        refine lv_aload_n hx hb dX5_byteOf_32 rfl (lv_at hl 0 rfl) ?_
        refine va_get (D := D) (ci := 5) (v := .ref x4) (C := RX5) (T := TX5) (N := 26) hx hb hts hi_X5 hown hK hP 0 rfl rfl 4 (by decide) fl19 (fun _ h9 => h9) rfl dX5_byteOf_33 ?_
        refine lv_iload_n hx hb dX5_byteOf_36 rfl (lv_at hl 2 rfl) ?_
        refine k_iald hx hb hK hP 1 0 rfl rfl i (by omega) dX5_byteOf_37 ?_
        refine lv_goto (tgt := 61) hx hb dX5_byteOf_38 (by decide) ?_
        exact k_iret () hx hb hr hlocks hK hP hD hS [0, 1] (by decide) rfl rfl (rfl) hAe hQ dX5_byteOf_61
    · skip
      have c15 := iI_eqT (a := (2 : Int)) (b := (1 : Int)) c15 (by omega)
      omega
  · skip
    have c1 := iI_eqT (a := (2 : Int)) (b := (0 : Int)) c1 (by omega)
    omega

abbrev rm_c_Mo_byteOf3 : Room := { frames := 0, cells := 0, slots := 0, locals := 0 }
set_option maxHeartbeats 4000000 in
set_option maxRecDepth 100000 in
theorem c_Mo_byteOf3 (l : Launch) (D : va_G) (cI cZ : ClassId) (hm : Nat) (cd : Int32) (x1 : Nat) (x2 : Nat) (x3 : Nat) (x4 : Nat) (x5 : Nat) (x6 : Nat) (x7 : Nat) (kt : Nat) (k1 : Nat) (k2 : Nat) (k3 : Nat) (k4 : Nat) (k5 : Nat) (y1 : Nat) (y2 : Nat) (y3 : Nat) (y4 : Nat) (y5 : Nat) (y6 : Nat) (y7 : Nat) (ms : Nat) (kw : Nat) (kd : Nat) (ma : Nat) (lk : Int) (g : Nat → Int32) (i : Nat) (hi : i < 300) : MI l yX5_byteOf wsX5_byteOf rm_c_Mo_byteOf3 D (kT cI cZ) [.ref hm, .int (iI (3 : Int)), .int (iI ((i : Nat) : Int))] [(hm, .inr (5, [.int cd, .ref x1, .ref x2, .ref x3, .ref x4, .ref x5, .ref x6, .ref x7, .int (iI ((kt : Nat) : Int)), .int (iI ((k1 : Nat) : Int)), .int (iI ((k2 : Nat) : Int)), .int (iI ((k3 : Nat) : Int)), .int (iI ((k4 : Nat) : Int)), .int (iI ((k5 : Nat) : Int)), .ref y1, .ref y2, .ref y3, .ref y4, .ref y5, .ref y6, .ref y7, .int (iI ((ms : Nat) : Int)), .int (iI ((kw : Nat) : Int)), .int (iI ((kd : Nat) : Int)), .int (iI ((ma : Nat) : Int)), .int (iI (lk : Int))])), (x5, .inl (cI, 300, .inl g))] (fun (r : Int32) (_ : Unit) => r = (g i)) (fun (u : Unit) => match u with | _ => [(hm, .inr (5, [.int cd, .ref x1, .ref x2, .ref x3, .ref x4, .ref x5, .ref x6, .ref x7, .int (iI ((kt : Nat) : Int)), .int (iI ((k1 : Nat) : Int)), .int (iI ((k2 : Nat) : Int)), .int (iI ((k3 : Nat) : Int)), .int (iI ((k4 : Nat) : Int)), .int (iI ((k5 : Nat) : Int)), .ref y1, .ref y2, .ref y3, .ref y4, .ref y5, .ref y6, .ref y7, .int (iI ((ms : Nat) : Int)), .int (iI ((kw : Nat) : Int)), .int (iI ((kd : Nat) : Int)), .int (iI ((ma : Nat) : Int)), .int (iI (lk : Int))])), (x5, .inl (cI, 300, .inl g))]) 0 0 := by
  intro sz
  refine k_of (cc := cX5_byteOf) (maxL := 3) (ret := (some .int)) (by decide) rfl (Nat.le_of_ble_eq_true rfl) ?_
  intro p e s m args below meth c A Q hAe hQ hx hb hr hml hts hown hlocks hnm hP hK hD hS hA ls hl
  have hl : lv_has ls 3 [(0, .ref hm), (1, .int (iI (3 : Int))), (2, .int (iI ((i : Nat) : Int)))] := hl
  have hi_X5 : ∀ w ∈ u_ws RX5 TX5 26, w ∈ wsX5_byteOf := fun w h => km (ikX5 w h)
  have fl13 := hts _ (km wm477)
  have fl16 := hts _ (km wm478)
  have fl19 := hts _ (km wm479)
  have fl22 := hts _ (km wm480)
  have fl25 := hts _ (km wm481)
  refine lv_iload_n hx hb dX5_byteOf_0 rfl (lv_at hl 1 rfl) ?_
  refine lv_if_ne (tgt := 13) hx hb dX5_byteOf_1 (by decide) (fun c1 => ?_) (fun c1 => ?_)
  · skip
    have c1 := iI_eqF (a := (3 : Int)) (b := (0 : Int)) c1 (by omega)
    refine lv_iload_n hx hb dX5_byteOf_13 rfl (lv_at hl 1 rfl) ?_
    refine lv_iconst (v := iI (1 : Int)) hx hb dX5_byteOf_14 rfl ?_
    refine lv_icmp_ne (tgt := 27) hx hb dX5_byteOf_15 (by decide) (fun c15 => ?_) (fun c15 => ?_)
    · skip
      have c15 := iI_eqF (a := (3 : Int)) (b := (1 : Int)) c15 (by omega)
      refine lv_iload_n hx hb dX5_byteOf_27 rfl (lv_at hl 1 rfl) ?_
      refine lv_iconst (v := iI (2 : Int)) hx hb dX5_byteOf_28 rfl ?_
      refine lv_icmp_ne (tgt := 41) hx hb dX5_byteOf_29 (by decide) (fun c29 => ?_) (fun c29 => ?_)
      · skip
        have c29 := iI_eqF (a := (3 : Int)) (b := (2 : Int)) c29 (by omega)
        refine lv_iload_n hx hb dX5_byteOf_41 rfl (lv_at hl 1 rfl) ?_
        refine lv_iconst (v := iI (3 : Int)) hx hb dX5_byteOf_42 rfl ?_
        refine lv_icmp_ne (tgt := 55) hx hb dX5_byteOf_43 (by decide) (fun c43 => ?_) (fun c43 => ?_)
        · skip
          have c43 := iI_eqF (a := (3 : Int)) (b := (3 : Int)) c43 (by omega)
          omega
        · skip
          have c43 := iI_eqT (a := (3 : Int)) (b := (3 : Int)) c43 (by omega)
          refine lv_aload_n hx hb dX5_byteOf_46 rfl (lv_at hl 0 rfl) ?_
          refine va_get (D := D) (ci := 5) (v := .ref x5) (C := RX5) (T := TX5) (N := 26) hx hb hts hi_X5 hown hK hP 0 rfl rfl 5 (by decide) fl22 (fun _ h9 => h9) rfl dX5_byteOf_47 ?_
          refine lv_iload_n hx hb dX5_byteOf_50 rfl (lv_at hl 2 rfl) ?_
          refine k_iald hx hb hK hP 1 0 rfl rfl i (by omega) dX5_byteOf_51 ?_
          refine lv_goto (tgt := 61) hx hb dX5_byteOf_52 (by decide) ?_
          exact k_iret () hx hb hr hlocks hK hP hD hS [0, 1] (by decide) rfl rfl (rfl) hAe hQ dX5_byteOf_61
      · skip
        have c29 := iI_eqT (a := (3 : Int)) (b := (2 : Int)) c29 (by omega)
        omega
    · skip
      have c15 := iI_eqT (a := (3 : Int)) (b := (1 : Int)) c15 (by omega)
      omega
  · skip
    have c1 := iI_eqT (a := (3 : Int)) (b := (0 : Int)) c1 (by omega)
    omega

abbrev rm_c_Mo_byteOf4 : Room := { frames := 0, cells := 0, slots := 0, locals := 0 }
set_option maxHeartbeats 4000000 in
set_option maxRecDepth 100000 in
theorem c_Mo_byteOf4 (l : Launch) (D : va_G) (cI cZ : ClassId) (hm : Nat) (cd : Int32) (x1 : Nat) (x2 : Nat) (x3 : Nat) (x4 : Nat) (x5 : Nat) (x6 : Nat) (x7 : Nat) (kt : Nat) (k1 : Nat) (k2 : Nat) (k3 : Nat) (k4 : Nat) (k5 : Nat) (y1 : Nat) (y2 : Nat) (y3 : Nat) (y4 : Nat) (y5 : Nat) (y6 : Nat) (y7 : Nat) (ms : Nat) (kw : Nat) (kd : Nat) (ma : Nat) (lk : Int) (g : Nat → Int32) (i : Nat) (hi : i < 300) : MI l yX5_byteOf wsX5_byteOf rm_c_Mo_byteOf4 D (kT cI cZ) [.ref hm, .int (iI (4 : Int)), .int (iI ((i : Nat) : Int))] [(hm, .inr (5, [.int cd, .ref x1, .ref x2, .ref x3, .ref x4, .ref x5, .ref x6, .ref x7, .int (iI ((kt : Nat) : Int)), .int (iI ((k1 : Nat) : Int)), .int (iI ((k2 : Nat) : Int)), .int (iI ((k3 : Nat) : Int)), .int (iI ((k4 : Nat) : Int)), .int (iI ((k5 : Nat) : Int)), .ref y1, .ref y2, .ref y3, .ref y4, .ref y5, .ref y6, .ref y7, .int (iI ((ms : Nat) : Int)), .int (iI ((kw : Nat) : Int)), .int (iI ((kd : Nat) : Int)), .int (iI ((ma : Nat) : Int)), .int (iI (lk : Int))])), (x6, .inl (cI, 300, .inl g))] (fun (r : Int32) (_ : Unit) => r = (g i)) (fun (u : Unit) => match u with | _ => [(hm, .inr (5, [.int cd, .ref x1, .ref x2, .ref x3, .ref x4, .ref x5, .ref x6, .ref x7, .int (iI ((kt : Nat) : Int)), .int (iI ((k1 : Nat) : Int)), .int (iI ((k2 : Nat) : Int)), .int (iI ((k3 : Nat) : Int)), .int (iI ((k4 : Nat) : Int)), .int (iI ((k5 : Nat) : Int)), .ref y1, .ref y2, .ref y3, .ref y4, .ref y5, .ref y6, .ref y7, .int (iI ((ms : Nat) : Int)), .int (iI ((kw : Nat) : Int)), .int (iI ((kd : Nat) : Int)), .int (iI ((ma : Nat) : Int)), .int (iI (lk : Int))])), (x6, .inl (cI, 300, .inl g))]) 0 0 := by
  intro sz
  refine k_of (cc := cX5_byteOf) (maxL := 3) (ret := (some .int)) (by decide) rfl (Nat.le_of_ble_eq_true rfl) ?_
  intro p e s m args below meth c A Q hAe hQ hx hb hr hml hts hown hlocks hnm hP hK hD hS hA ls hl
  have hl : lv_has ls 3 [(0, .ref hm), (1, .int (iI (4 : Int))), (2, .int (iI ((i : Nat) : Int)))] := hl
  have hi_X5 : ∀ w ∈ u_ws RX5 TX5 26, w ∈ wsX5_byteOf := fun w h => km (ikX5 w h)
  have fl13 := hts _ (km wm477)
  have fl16 := hts _ (km wm478)
  have fl19 := hts _ (km wm479)
  have fl22 := hts _ (km wm480)
  have fl25 := hts _ (km wm481)
  refine lv_iload_n hx hb dX5_byteOf_0 rfl (lv_at hl 1 rfl) ?_
  refine lv_if_ne (tgt := 13) hx hb dX5_byteOf_1 (by decide) (fun c1 => ?_) (fun c1 => ?_)
  · skip
    have c1 := iI_eqF (a := (4 : Int)) (b := (0 : Int)) c1 (by omega)
    refine lv_iload_n hx hb dX5_byteOf_13 rfl (lv_at hl 1 rfl) ?_
    refine lv_iconst (v := iI (1 : Int)) hx hb dX5_byteOf_14 rfl ?_
    refine lv_icmp_ne (tgt := 27) hx hb dX5_byteOf_15 (by decide) (fun c15 => ?_) (fun c15 => ?_)
    · skip
      have c15 := iI_eqF (a := (4 : Int)) (b := (1 : Int)) c15 (by omega)
      refine lv_iload_n hx hb dX5_byteOf_27 rfl (lv_at hl 1 rfl) ?_
      refine lv_iconst (v := iI (2 : Int)) hx hb dX5_byteOf_28 rfl ?_
      refine lv_icmp_ne (tgt := 41) hx hb dX5_byteOf_29 (by decide) (fun c29 => ?_) (fun c29 => ?_)
      · skip
        have c29 := iI_eqF (a := (4 : Int)) (b := (2 : Int)) c29 (by omega)
        refine lv_iload_n hx hb dX5_byteOf_41 rfl (lv_at hl 1 rfl) ?_
        refine lv_iconst (v := iI (3 : Int)) hx hb dX5_byteOf_42 rfl ?_
        refine lv_icmp_ne (tgt := 55) hx hb dX5_byteOf_43 (by decide) (fun c43 => ?_) (fun c43 => ?_)
        · skip
          have c43 := iI_eqF (a := (4 : Int)) (b := (3 : Int)) c43 (by omega)
          refine lv_aload_n hx hb dX5_byteOf_55 rfl (lv_at hl 0 rfl) ?_
          refine va_get (D := D) (ci := 5) (v := .ref x6) (C := RX5) (T := TX5) (N := 26) hx hb hts hi_X5 hown hK hP 0 rfl rfl 6 (by decide) fl25 (fun _ h9 => h9) rfl dX5_byteOf_56 ?_
          refine lv_iload_n hx hb dX5_byteOf_59 rfl (lv_at hl 2 rfl) ?_
          refine k_iald hx hb hK hP 1 0 rfl rfl i (by omega) dX5_byteOf_60 ?_
          exact k_iret () hx hb hr hlocks hK hP hD hS [0, 1] (by decide) rfl rfl (rfl) hAe hQ dX5_byteOf_61
        · skip
          have c43 := iI_eqT (a := (4 : Int)) (b := (3 : Int)) c43 (by omega)
          omega
      · skip
        have c29 := iI_eqT (a := (4 : Int)) (b := (2 : Int)) c29 (by omega)
        omega
    · skip
      have c15 := iI_eqT (a := (4 : Int)) (b := (1 : Int)) c15 (by omega)
      omega
  · skip
    have c1 := iI_eqT (a := (4 : Int)) (b := (0 : Int)) c1 (by omega)
    omega

abbrev rm_c_Mo_size : Room := { frames := 1, cells := 0, slots := 0, locals := 21 }
set_option maxHeartbeats 4000000 in
set_option maxRecDepth 100000 in
theorem c_Mo_size (l : Launch) (D : va_G) (cI cZ : ClassId) (hm : Nat) (cd : Int32) (x1 : Nat) (x2 : Nat) (x3 : Nat) (x4 : Nat) (x5 : Nat) (x6 : Nat) (x7 : Nat) (kt : Nat) (k1 : Nat) (k2 : Nat) (k3 : Nat) (k4 : Nat) (k5 : Nat) (y1 : Nat) (y2 : Nat) (y3 : Nat) (y4 : Nat) (y5 : Nat) (y6 : Nat) (y7 : Nat) (ms : Nat) (kw : Nat) (kd : Nat) (ma : Nat) (lk : Int) (z : Int) (hzr : -2147483648 ≤ z ∧ z < 2147483648) : MI l yX5_size wsX5_size rm_c_Mo_size D (kT cI cZ) [.ref hm, .int (iI (z : Int))] [(hm, .inr (5, [.int cd, .ref x1, .ref x2, .ref x3, .ref x4, .ref x5, .ref x6, .ref x7, .int (iI ((kt : Nat) : Int)), .int (iI ((k1 : Nat) : Int)), .int (iI ((k2 : Nat) : Int)), .int (iI ((k3 : Nat) : Int)), .int (iI ((k4 : Nat) : Int)), .int (iI ((k5 : Nat) : Int)), .ref y1, .ref y2, .ref y3, .ref y4, .ref y5, .ref y6, .ref y7, .int (iI ((ms : Nat) : Int)), .int (iI ((kw : Nat) : Int)), .int (iI ((kd : Nat) : Int)), .int (iI ((ma : Nat) : Int)), .int (iI (lk : Int))]))] (fun (r : Int32) (_ : Unit) => r = iI (szF z k1 k2 k3 k4 k5 : Int)) (fun (u : Unit) => match u with | _ => [(hm, .inr (5, [.int (iI (0 : Int)), .ref x1, .ref x2, .ref x3, .ref x4, .ref x5, .ref x6, .ref x7, .int (iI ((kt : Nat) : Int)), .int (iI ((k1 : Nat) : Int)), .int (iI ((k2 : Nat) : Int)), .int (iI ((k3 : Nat) : Int)), .int (iI ((k4 : Nat) : Int)), .int (iI ((k5 : Nat) : Int)), .ref y1, .ref y2, .ref y3, .ref y4, .ref y5, .ref y6, .ref y7, .int (iI ((ms : Nat) : Int)), .int (iI ((kw : Nat) : Int)), .int (iI ((kd : Nat) : Int)), .int (iI ((ma : Nat) : Int)), .int (iI (lk : Int))]))]) 0 0 := by
  intro sz
  refine k_of (cc := cX5_size) (maxL := 2) (ret := (some .int)) (by decide) rfl (Nat.le_of_ble_eq_true rfl) ?_
  intro p e s m args below meth c A Q hAe hQ hx hb hr hml hts hown hlocks hnm hP hK hD hS hA ls hl
  have hl : lv_has ls 2 [(0, .ref hm), (1, .int (iI (z : Int)))] := hl
  have hi_X5 : ∀ w ∈ u_ws RX5 TX5 26, w ∈ wsX5_size := fun w h => km (ikX5 w h)
  have fl52 := hts _ (km wm475)
  refine lv_aload_n hx hb dX5_size_0 rfl (lv_at hl 0 rfl) ?_
  refine lv_iconst (v := iI (0 : Int)) hx hb dX5_size_1 rfl ?_
  refine va_put (D := D) (ci := 5) (v := .int (iI (0 : Int))) (ty := .int) (C := RX5) (T := TX5) (N := 26) hx hb hts hi_X5 tyX5 tyX5_ok nmX5 hown hK hP hD hS 0 rfl rfl 0 (by decide) fl52 (fun _ h9 => h9) rfl (by decide +kernel) rfl rfl (Nat.le_of_ble_eq_true rfl) dX5_size_2 (fun H locs hP hD hS => ?_)
  have hP : va_P D vwCl [(hm, .inr (5, [.int (iI (0 : Int)), .ref x1, .ref x2, .ref x3, .ref x4, .ref x5, .ref x6, .ref x7, .int (iI ((kt : Nat) : Int)), .int (iI ((k1 : Nat) : Int)), .int (iI ((k2 : Nat) : Int)), .int (iI ((k3 : Nat) : Int)), .int (iI ((k4 : Nat) : Int)), .int (iI ((k5 : Nat) : Int)), .ref y1, .ref y2, .ref y3, .ref y4, .ref y5, .ref y6, .ref y7, .int (iI ((ms : Nat) : Int)), .int (iI ((kw : Nat) : Int)), .int (iI ((kd : Nat) : Int)), .int (iI ((ma : Nat) : Int)), .int (iI (lk : Int))]))] H := hP
  have hD : va_D A [(hm, .inr (5, [.int (iI (0 : Int)), .ref x1, .ref x2, .ref x3, .ref x4, .ref x5, .ref x6, .ref x7, .int (iI ((kt : Nat) : Int)), .int (iI ((k1 : Nat) : Int)), .int (iI ((k2 : Nat) : Int)), .int (iI ((k3 : Nat) : Int)), .int (iI ((k4 : Nat) : Int)), .int (iI ((k5 : Nat) : Int)), .ref y1, .ref y2, .ref y3, .ref y4, .ref y5, .ref y6, .ref y7, .int (iI ((ms : Nat) : Int)), .int (iI ((kw : Nat) : Int)), .int (iI ((kd : Nat) : Int)), .int (iI ((ma : Nat) : Int)), .int (iI (lk : Int))]))] := hD
  refine lv_aload_n hx hb dX5_size_5 rfl (lv_at hl 0 rfl) ?_
  refine lv_iload_n hx hb dX5_size_6 rfl (lv_at hl 1 rfl) ?_
  refine k_calli (wc := [(hm, .inr (5, [.int (iI (0 : Int)), .ref x1, .ref x2, .ref x3, .ref x4, .ref x5, .ref x6, .ref x7, .int (iI ((kt : Nat) : Int)), .int (iI ((k1 : Nat) : Int)), .int (iI ((k2 : Nat) : Int)), .int (iI ((k3 : Nat) : Int)), .int (iI ((k4 : Nat) : Int)), .int (iI ((k5 : Nat) : Int)), .ref y1, .ref y2, .ref y3, .ref y4, .ref y5, .ref y6, .ref y7, .int (iI ((ms : Nat) : Int)), .int (iI ((kw : Nat) : Int)), .int (iI ((kd : Nat) : Int)), .int (iI ((ma : Nat) : Int)), .int (iI (lk : Int))]))]) (wr := []) (wf := fun _ => [(hm, .inr (5, [.int (iI (0 : Int)), .ref x1, .ref x2, .ref x3, .ref x4, .ref x5, .ref x6, .ref x7, .int (iI ((kt : Nat) : Int)), .int (iI ((k1 : Nat) : Int)), .int (iI ((k2 : Nat) : Int)), .int (iI ((k3 : Nat) : Int)), .int (iI ((k4 : Nat) : Int)), .int (iI ((k5 : Nat) : Int)), .ref y1, .ref y2, .ref y3, .ref y4, .ref y5, .ref y6, .ref y7, .int (iI ((ms : Nat) : Int)), .int (iI ((kw : Nat) : Int)), .int (iI ((kd : Nat) : Int)), .int (iI ((ma : Nat) : Int)), .int (iI (lk : Int))]))]) hK hP hD hS hA [0] [] [0] ⟨⟨rfl, rfl, by decide⟩, rfl, by decide, by decide⟩ (fun _ => ⟨rfl, rfl⟩) (by decide) (fun hPc hDc => va_runV (As := [.int (iI (z : Int))]) (rest := []) ⟨hx, hb, hml, hown, hts⟩ (c_Mo_sizeOf l D cI cZ (hm := hm) (cd := iI (0 : Int)) (x1 := x1) (x2 := x2) (x3 := x3) (x4 := x4) (x5 := x5) (x6 := x6) (x7 := x7) (kt := kt) (k1 := k1) (k2 := k2) (k3 := k3) (k4 := k4) (k5 := k5) (y1 := y1) (y2 := y2) (y3 := y3) (y4 := y4) (y5 := y5) (y6 := y6) (y7 := y7) (ms := ms) (kw := kw) (kd := kd) (ma := ma) (lk := lk) (z := z) (hzr := by omega) _) (cwV 1 hts (kgV wm567 wm569 wm22 wm44 wmcX5_sizeOf) rfl rfl rfl (by decide +kernel) ⟨Nat.le_of_ble_eq_true rfl, Nat.le_of_ble_eq_true rfl⟩) (k_preV hK hPc hDc (ci := 5) (q0 := 0) rfl rfl) rfl rfl hl.1 rfl (lv_room (Nat.le_of_ble_eq_true rfl)) dX5_size_7 ⟨Nat.le_of_ble_eq_true rfl, Nat.le_of_ble_eq_true rfl⟩) (fun r7 u H locs hw hP hD hS => ?_)
  have hP : va_P D vwCl [(hm, .inr (5, [.int (iI (0 : Int)), .ref x1, .ref x2, .ref x3, .ref x4, .ref x5, .ref x6, .ref x7, .int (iI ((kt : Nat) : Int)), .int (iI ((k1 : Nat) : Int)), .int (iI ((k2 : Nat) : Int)), .int (iI ((k3 : Nat) : Int)), .int (iI ((k4 : Nat) : Int)), .int (iI ((k5 : Nat) : Int)), .ref y1, .ref y2, .ref y3, .ref y4, .ref y5, .ref y6, .ref y7, .int (iI ((ms : Nat) : Int)), .int (iI ((kw : Nat) : Int)), .int (iI ((kd : Nat) : Int)), .int (iI ((ma : Nat) : Int)), .int (iI (lk : Int))]))] H := hP
  have hD : va_D A [(hm, .inr (5, [.int (iI (0 : Int)), .ref x1, .ref x2, .ref x3, .ref x4, .ref x5, .ref x6, .ref x7, .int (iI ((kt : Nat) : Int)), .int (iI ((k1 : Nat) : Int)), .int (iI ((k2 : Nat) : Int)), .int (iI ((k3 : Nat) : Int)), .int (iI ((k4 : Nat) : Int)), .int (iI ((k5 : Nat) : Int)), .ref y1, .ref y2, .ref y3, .ref y4, .ref y5, .ref y6, .ref y7, .int (iI ((ms : Nat) : Int)), .int (iI ((kw : Nat) : Int)), .int (iI ((kd : Nat) : Int)), .int (iI ((ma : Nat) : Int)), .int (iI (lk : Int))]))] := hD
  refine W.widen (k := 0) (n := 0) (Nat.le_of_ble_eq_true rfl) (Nat.le_of_ble_eq_true rfl) ?_
  have hw : r7 = iI (szF z k1 k2 k3 k4 k5 : Int) := hw
  subst hw
  exact k_iret () hx hb hr hlocks hK hP hD hS [0] (by decide) rfl rfl (rfl) hAe hQ dX5_size_10

abbrev rm_c_Mo_byteAt : Room := { frames := 1, cells := 0, slots := 0, locals := 22 }
set_option maxHeartbeats 4000000 in
set_option maxRecDepth 100000 in
theorem c_Mo_byteAt (l : Launch) (D : va_G) (cI cZ : ClassId) (hm : Nat) (cd : Int32) (x1 : Nat) (x2 : Nat) (x3 : Nat) (x4 : Nat) (x5 : Nat) (x6 : Nat) (x7 : Nat) (kt : Nat) (k1 : Nat) (k2 : Nat) (k3 : Nat) (k4 : Nat) (k5 : Nat) (y1 : Nat) (y2 : Nat) (y3 : Nat) (y4 : Nat) (y5 : Nat) (y6 : Nat) (y7 : Nat) (ms : Nat) (kw : Nat) (kd : Nat) (ma : Nat) (lk : Int) (g1 : Nat → Int32) (g2 : Nat → Int32) (g3 : Nat → Int32) (g4 : Nat → Int32) (g5 : Nat → Int32) (z : Int) (i0 : Int) (hk1 : k1 ≤ 300) (hk2 : k2 ≤ 300) (hk3 : k3 ≤ 900) (hk4 : k4 ≤ 300) (hk5 : k5 ≤ 300) (hzr : -2147483648 ≤ z ∧ z < 2147483648) (hir : -2147483648 ≤ i0 ∧ i0 < 2147483648) : MI l yX5_byteAt wsX5_byteAt rm_c_Mo_byteAt D (kT cI cZ) [.ref hm, .int (iI (z : Int)), .int (iI (i0 : Int))] [(hm, .inr (5, [.int cd, .ref x1, .ref x2, .ref x3, .ref x4, .ref x5, .ref x6, .ref x7, .int (iI ((kt : Nat) : Int)), .int (iI ((k1 : Nat) : Int)), .int (iI ((k2 : Nat) : Int)), .int (iI ((k3 : Nat) : Int)), .int (iI ((k4 : Nat) : Int)), .int (iI ((k5 : Nat) : Int)), .ref y1, .ref y2, .ref y3, .ref y4, .ref y5, .ref y6, .ref y7, .int (iI ((ms : Nat) : Int)), .int (iI ((kw : Nat) : Int)), .int (iI ((kd : Nat) : Int)), .int (iI ((ma : Nat) : Int)), .int (iI (lk : Int))])), (x2, .inl (cI, 300, .inl g1)), (x3, .inl (cI, 300, .inl g2)), (x4, .inl (cI, 900, .inl g3)), (x5, .inl (cI, 300, .inl g4)), (x6, .inl (cI, 300, .inl g5))] (fun (r : Int32) (_ : Unit) => r = (ixF z (rAt g1 k1 i0) (rAt g2 k2 i0) (rAt g3 k3 i0) (rAt g4 k4 i0) (rAt g5 k5 i0) (iI (-1 : Int)))) (fun (u : Unit) => match u with | _ => [(hm, .inr (5, [.int (iI (0 : Int)), .ref x1, .ref x2, .ref x3, .ref x4, .ref x5, .ref x6, .ref x7, .int (iI ((kt : Nat) : Int)), .int (iI ((k1 : Nat) : Int)), .int (iI ((k2 : Nat) : Int)), .int (iI ((k3 : Nat) : Int)), .int (iI ((k4 : Nat) : Int)), .int (iI ((k5 : Nat) : Int)), .ref y1, .ref y2, .ref y3, .ref y4, .ref y5, .ref y6, .ref y7, .int (iI ((ms : Nat) : Int)), .int (iI ((kw : Nat) : Int)), .int (iI ((kd : Nat) : Int)), .int (iI ((ma : Nat) : Int)), .int (iI (lk : Int))])), (x2, .inl (cI, 300, .inl g1)), (x3, .inl (cI, 300, .inl g2)), (x4, .inl (cI, 900, .inl g3)), (x5, .inl (cI, 300, .inl g4)), (x6, .inl (cI, 300, .inl g5))]) 0 0 := by
  intro sz
  refine k_of (cc := cX5_byteAt) (maxL := 3) (ret := (some .int)) (by decide) rfl (Nat.le_of_ble_eq_true rfl) ?_
  intro p e s m args below meth c A Q hAe hQ hx hb hr hml hts hown hlocks hnm hP hK hD hS hA ls hl
  have hl : lv_has ls 3 [(0, .ref hm), (1, .int (iI (z : Int))), (2, .int (iI (i0 : Int)))] := hl
  have hi_X5 : ∀ w ∈ u_ws RX5 TX5 26, w ∈ wsX5_byteAt := fun w h => km (ikX5 w h)
  have fl52 := hts _ (km wm475)
  have hszr := szF_rng (z := z) hk1 hk2 hk3 hk4 hk5
  refine lv_aload_n hx hb dX5_byteAt_0 rfl (lv_at hl 0 rfl) ?_
  refine lv_iconst (v := iI (0 : Int)) hx hb dX5_byteAt_1 rfl ?_
  refine va_put (D := D) (ci := 5) (v := .int (iI (0 : Int))) (ty := .int) (C := RX5) (T := TX5) (N := 26) hx hb hts hi_X5 tyX5 tyX5_ok nmX5 hown hK hP hD hS 0 rfl rfl 0 (by decide) fl52 (fun _ h9 => h9) rfl (by decide +kernel) rfl rfl (Nat.le_of_ble_eq_true rfl) dX5_byteAt_2 (fun H locs hP hD hS => ?_)
  have hP : va_P D vwCl [(hm, .inr (5, [.int (iI (0 : Int)), .ref x1, .ref x2, .ref x3, .ref x4, .ref x5, .ref x6, .ref x7, .int (iI ((kt : Nat) : Int)), .int (iI ((k1 : Nat) : Int)), .int (iI ((k2 : Nat) : Int)), .int (iI ((k3 : Nat) : Int)), .int (iI ((k4 : Nat) : Int)), .int (iI ((k5 : Nat) : Int)), .ref y1, .ref y2, .ref y3, .ref y4, .ref y5, .ref y6, .ref y7, .int (iI ((ms : Nat) : Int)), .int (iI ((kw : Nat) : Int)), .int (iI ((kd : Nat) : Int)), .int (iI ((ma : Nat) : Int)), .int (iI (lk : Int))])), (x2, .inl (cI, 300, .inl g1)), (x3, .inl (cI, 300, .inl g2)), (x4, .inl (cI, 900, .inl g3)), (x5, .inl (cI, 300, .inl g4)), (x6, .inl (cI, 300, .inl g5))] H := hP
  have hD : va_D A [(hm, .inr (5, [.int (iI (0 : Int)), .ref x1, .ref x2, .ref x3, .ref x4, .ref x5, .ref x6, .ref x7, .int (iI ((kt : Nat) : Int)), .int (iI ((k1 : Nat) : Int)), .int (iI ((k2 : Nat) : Int)), .int (iI ((k3 : Nat) : Int)), .int (iI ((k4 : Nat) : Int)), .int (iI ((k5 : Nat) : Int)), .ref y1, .ref y2, .ref y3, .ref y4, .ref y5, .ref y6, .ref y7, .int (iI ((ms : Nat) : Int)), .int (iI ((kw : Nat) : Int)), .int (iI ((kd : Nat) : Int)), .int (iI ((ma : Nat) : Int)), .int (iI (lk : Int))])), (x2, .inl (cI, 300, .inl g1)), (x3, .inl (cI, 300, .inl g2)), (x4, .inl (cI, 900, .inl g3)), (x5, .inl (cI, 300, .inl g4)), (x6, .inl (cI, 300, .inl g5))] := hD
  refine lv_iload_n hx hb dX5_byteAt_5 rfl (lv_at hl 2 rfl) ?_
  refine lv_if_lt (tgt := 18) hx hb dX5_byteAt_6 (by decide) (fun c6 => ?_) (fun c6 => ?_)
  · skip
    have c6 := iI_ltT (a := (i0 : Int)) (b := (0 : Int)) c6 (by omega)
    refine lv_iconst (v := iI (-1 : Int)) hx hb dX5_byteAt_18 rfl ?_
    refine lv_goto (tgt := 28) hx hb dX5_byteAt_19 (by decide) ?_
    exact k_iret () hx hb hr hlocks hK hP hD hS [0, 1, 2, 3, 4, 5] (by decide) rfl rfl ((bt_no (by omega)).symm) hAe hQ dX5_byteAt_28
  · skip
    have c6 := iI_ltF (a := (i0 : Int)) (b := (0 : Int)) c6 (by omega)
    refine lv_iload_n hx hb dX5_byteAt_9 rfl (lv_at hl 2 rfl) ?_
    refine lv_aload_n hx hb dX5_byteAt_10 rfl (lv_at hl 0 rfl) ?_
    refine lv_iload_n hx hb dX5_byteAt_11 rfl (lv_at hl 1 rfl) ?_
    refine k_calli (wc := [(hm, .inr (5, [.int (iI (0 : Int)), .ref x1, .ref x2, .ref x3, .ref x4, .ref x5, .ref x6, .ref x7, .int (iI ((kt : Nat) : Int)), .int (iI ((k1 : Nat) : Int)), .int (iI ((k2 : Nat) : Int)), .int (iI ((k3 : Nat) : Int)), .int (iI ((k4 : Nat) : Int)), .int (iI ((k5 : Nat) : Int)), .ref y1, .ref y2, .ref y3, .ref y4, .ref y5, .ref y6, .ref y7, .int (iI ((ms : Nat) : Int)), .int (iI ((kw : Nat) : Int)), .int (iI ((kd : Nat) : Int)), .int (iI ((ma : Nat) : Int)), .int (iI (lk : Int))]))]) (wr := [(x2, .inl (cI, 300, .inl g1)), (x3, .inl (cI, 300, .inl g2)), (x4, .inl (cI, 900, .inl g3)), (x5, .inl (cI, 300, .inl g4)), (x6, .inl (cI, 300, .inl g5))]) (wf := fun _ => [(hm, .inr (5, [.int (iI (0 : Int)), .ref x1, .ref x2, .ref x3, .ref x4, .ref x5, .ref x6, .ref x7, .int (iI ((kt : Nat) : Int)), .int (iI ((k1 : Nat) : Int)), .int (iI ((k2 : Nat) : Int)), .int (iI ((k3 : Nat) : Int)), .int (iI ((k4 : Nat) : Int)), .int (iI ((k5 : Nat) : Int)), .ref y1, .ref y2, .ref y3, .ref y4, .ref y5, .ref y6, .ref y7, .int (iI ((ms : Nat) : Int)), .int (iI ((kw : Nat) : Int)), .int (iI ((kd : Nat) : Int)), .int (iI ((ma : Nat) : Int)), .int (iI (lk : Int))])), (x2, .inl (cI, 300, .inl g1)), (x3, .inl (cI, 300, .inl g2)), (x4, .inl (cI, 900, .inl g3)), (x5, .inl (cI, 300, .inl g4)), (x6, .inl (cI, 300, .inl g5))]) hK hP hD hS hA [0] [1, 2, 3, 4, 5] [5, 0, 1, 2, 3, 4] ⟨⟨rfl, rfl, by decide⟩, rfl, by decide, by decide⟩ (fun _ => ⟨rfl, rfl⟩) (by decide) (fun hPc hDc => va_runV (As := [.int (iI (z : Int))]) (rest := [.int (iI (i0 : Int))]) ⟨hx, hb, hml, hown, hts⟩ (c_Mo_sizeOf l D cI cZ (hm := hm) (cd := iI (0 : Int)) (x1 := x1) (x2 := x2) (x3 := x3) (x4 := x4) (x5 := x5) (x6 := x6) (x7 := x7) (kt := kt) (k1 := k1) (k2 := k2) (k3 := k3) (k4 := k4) (k5 := k5) (y1 := y1) (y2 := y2) (y3 := y3) (y4 := y4) (y5 := y5) (y6 := y6) (y7 := y7) (ms := ms) (kw := kw) (kd := kd) (ma := ma) (lk := lk) (z := z) (hzr := by omega) _) (cwV 1 hts (kgV wm567 wm569 wm22 wm44 wmcX5_sizeOf) rfl rfl rfl (by decide +kernel) ⟨Nat.le_of_ble_eq_true rfl, Nat.le_of_ble_eq_true rfl⟩) (k_preV hK hPc hDc (ci := 5) (q0 := 0) rfl rfl) rfl rfl hl.1 rfl (lv_room (Nat.le_of_ble_eq_true rfl)) dX5_byteAt_12 ⟨Nat.le_of_ble_eq_true rfl, Nat.le_of_ble_eq_true rfl⟩) (fun r12 u H locs hw hP hD hS => ?_)
    have hP : va_P D vwCl [(hm, .inr (5, [.int (iI (0 : Int)), .ref x1, .ref x2, .ref x3, .ref x4, .ref x5, .ref x6, .ref x7, .int (iI ((kt : Nat) : Int)), .int (iI ((k1 : Nat) : Int)), .int (iI ((k2 : Nat) : Int)), .int (iI ((k3 : Nat) : Int)), .int (iI ((k4 : Nat) : Int)), .int (iI ((k5 : Nat) : Int)), .ref y1, .ref y2, .ref y3, .ref y4, .ref y5, .ref y6, .ref y7, .int (iI ((ms : Nat) : Int)), .int (iI ((kw : Nat) : Int)), .int (iI ((kd : Nat) : Int)), .int (iI ((ma : Nat) : Int)), .int (iI (lk : Int))])), (x2, .inl (cI, 300, .inl g1)), (x3, .inl (cI, 300, .inl g2)), (x4, .inl (cI, 900, .inl g3)), (x5, .inl (cI, 300, .inl g4)), (x6, .inl (cI, 300, .inl g5))] H := hP
    have hD : va_D A [(hm, .inr (5, [.int (iI (0 : Int)), .ref x1, .ref x2, .ref x3, .ref x4, .ref x5, .ref x6, .ref x7, .int (iI ((kt : Nat) : Int)), .int (iI ((k1 : Nat) : Int)), .int (iI ((k2 : Nat) : Int)), .int (iI ((k3 : Nat) : Int)), .int (iI ((k4 : Nat) : Int)), .int (iI ((k5 : Nat) : Int)), .ref y1, .ref y2, .ref y3, .ref y4, .ref y5, .ref y6, .ref y7, .int (iI ((ms : Nat) : Int)), .int (iI ((kw : Nat) : Int)), .int (iI ((kd : Nat) : Int)), .int (iI ((ma : Nat) : Int)), .int (iI (lk : Int))])), (x2, .inl (cI, 300, .inl g1)), (x3, .inl (cI, 300, .inl g2)), (x4, .inl (cI, 900, .inl g3)), (x5, .inl (cI, 300, .inl g4)), (x6, .inl (cI, 300, .inl g5))] := hD
    refine W.widen (k := 0) (n := 0) (Nat.le_of_ble_eq_true rfl) (Nat.le_of_ble_eq_true rfl) ?_
    have hw : r12 = iI (szF z k1 k2 k3 k4 k5 : Int) := hw
    subst hw
    refine lv_icmp_lt (tgt := 22) hx hb dX5_byteAt_15 (by decide) (fun c15 => ?_) (fun c15 => ?_)
    · skip
      have c15 := iI_ltT (a := (i0 : Int)) (b := (szF z k1 k2 k3 k4 k5 : Int)) c15 (by omega)
      have hzz := bt_z (z := z) c6 c15
      rcases (show (z = 0) ∨ (z = 1) ∨ (z = 2) ∨ (z = 3) ∨ (z = 4) by omega) with hz | hz | hz | hz | hz
      · skip
        rw [show iI (z : Int) = iI (0 : Int) from congrArg iI hz] at hl
        rw [show iI (i0 : Int) = iI ((i0.toNat : Nat) : Int) from congrArg iI (by omega)] at hl
        refine lv_aload_n hx hb dX5_byteAt_22 rfl (lv_at hl 0 rfl) ?_
        refine lv_iload_n hx hb dX5_byteAt_23 rfl (lv_at hl 1 rfl) ?_
        refine lv_iload_n hx hb dX5_byteAt_24 rfl (lv_at hl 2 rfl) ?_
        have hs9 := c15
        rw [hz] at hs9
        replace hs9 : i0 < ((k1 : Nat) : Int) := hs9
        refine k_calli (wc := [(hm, .inr (5, [.int (iI (0 : Int)), .ref x1, .ref x2, .ref x3, .ref x4, .ref x5, .ref x6, .ref x7, .int (iI ((kt : Nat) : Int)), .int (iI ((k1 : Nat) : Int)), .int (iI ((k2 : Nat) : Int)), .int (iI ((k3 : Nat) : Int)), .int (iI ((k4 : Nat) : Int)), .int (iI ((k5 : Nat) : Int)), .ref y1, .ref y2, .ref y3, .ref y4, .ref y5, .ref y6, .ref y7, .int (iI ((ms : Nat) : Int)), .int (iI ((kw : Nat) : Int)), .int (iI ((kd : Nat) : Int)), .int (iI ((ma : Nat) : Int)), .int (iI (lk : Int))])), (x2, .inl (cI, 300, .inl g1))]) (wr := [(x3, .inl (cI, 300, .inl g2)), (x4, .inl (cI, 900, .inl g3)), (x5, .inl (cI, 300, .inl g4)), (x6, .inl (cI, 300, .inl g5))]) (wf := fun _ => [(hm, .inr (5, [.int (iI (0 : Int)), .ref x1, .ref x2, .ref x3, .ref x4, .ref x5, .ref x6, .ref x7, .int (iI ((kt : Nat) : Int)), .int (iI ((k1 : Nat) : Int)), .int (iI ((k2 : Nat) : Int)), .int (iI ((k3 : Nat) : Int)), .int (iI ((k4 : Nat) : Int)), .int (iI ((k5 : Nat) : Int)), .ref y1, .ref y2, .ref y3, .ref y4, .ref y5, .ref y6, .ref y7, .int (iI ((ms : Nat) : Int)), .int (iI ((kw : Nat) : Int)), .int (iI ((kd : Nat) : Int)), .int (iI ((ma : Nat) : Int)), .int (iI (lk : Int))])), (x2, .inl (cI, 300, .inl g1)), (x3, .inl (cI, 300, .inl g2)), (x4, .inl (cI, 900, .inl g3)), (x5, .inl (cI, 300, .inl g4)), (x6, .inl (cI, 300, .inl g5))]) hK hP hD hS hA [0, 1] [2, 3, 4, 5] [4, 5, 0, 1, 2, 3] ⟨⟨rfl, rfl, by decide⟩, rfl, by decide, by decide⟩ (fun _ => ⟨rfl, rfl⟩) (by decide) (fun hPc hDc => va_runV (As := [.int (iI (0 : Int)), .int (iI ((i0.toNat : Nat) : Int))]) (rest := []) ⟨hx, hb, hml, hown, hts⟩ (c_Mo_byteOf0 l D cI cZ (hm := hm) (cd := (iI (0 : Int))) (x1 := x1) (x2 := x2) (x3 := x3) (x4 := x4) (x5 := x5) (x6 := x6) (x7 := x7) (kt := kt) (k1 := k1) (k2 := k2) (k3 := k3) (k4 := k4) (k5 := k5) (y1 := y1) (y2 := y2) (y3 := y3) (y4 := y4) (y5 := y5) (y6 := y6) (y7 := y7) (ms := ms) (kw := kw) (kd := kd) (ma := ma) (lk := lk) (g := g1) (i := i0.toNat) (hi := by omega) _) (cwV 2 hts (kgV wm571 wm573 wm23 wm44 wmcX5_byteOf) rfl rfl rfl (by decide +kernel) ⟨Nat.le_of_ble_eq_true rfl, Nat.le_of_ble_eq_true rfl⟩) (k_preV hK hPc hDc (ci := 5) (q0 := 0) rfl rfl) rfl rfl hl.1 rfl (lv_room (Nat.le_of_ble_eq_true rfl)) dX5_byteAt_25 ⟨Nat.le_of_ble_eq_true rfl, Nat.le_of_ble_eq_true rfl⟩) (fun r25 u H locs hw hP hD hS => ?_)
        have hP : va_P D vwCl [(hm, .inr (5, [.int (iI (0 : Int)), .ref x1, .ref x2, .ref x3, .ref x4, .ref x5, .ref x6, .ref x7, .int (iI ((kt : Nat) : Int)), .int (iI ((k1 : Nat) : Int)), .int (iI ((k2 : Nat) : Int)), .int (iI ((k3 : Nat) : Int)), .int (iI ((k4 : Nat) : Int)), .int (iI ((k5 : Nat) : Int)), .ref y1, .ref y2, .ref y3, .ref y4, .ref y5, .ref y6, .ref y7, .int (iI ((ms : Nat) : Int)), .int (iI ((kw : Nat) : Int)), .int (iI ((kd : Nat) : Int)), .int (iI ((ma : Nat) : Int)), .int (iI (lk : Int))])), (x2, .inl (cI, 300, .inl g1)), (x3, .inl (cI, 300, .inl g2)), (x4, .inl (cI, 900, .inl g3)), (x5, .inl (cI, 300, .inl g4)), (x6, .inl (cI, 300, .inl g5))] H := hP
        have hD : va_D A [(hm, .inr (5, [.int (iI (0 : Int)), .ref x1, .ref x2, .ref x3, .ref x4, .ref x5, .ref x6, .ref x7, .int (iI ((kt : Nat) : Int)), .int (iI ((k1 : Nat) : Int)), .int (iI ((k2 : Nat) : Int)), .int (iI ((k3 : Nat) : Int)), .int (iI ((k4 : Nat) : Int)), .int (iI ((k5 : Nat) : Int)), .ref y1, .ref y2, .ref y3, .ref y4, .ref y5, .ref y6, .ref y7, .int (iI ((ms : Nat) : Int)), .int (iI ((kw : Nat) : Int)), .int (iI ((kd : Nat) : Int)), .int (iI ((ma : Nat) : Int)), .int (iI (lk : Int))])), (x2, .inl (cI, 300, .inl g1)), (x3, .inl (cI, 300, .inl g2)), (x4, .inl (cI, 900, .inl g3)), (x5, .inl (cI, 300, .inl g4)), (x6, .inl (cI, 300, .inl g5))] := hD
        refine W.widen (k := 0) (n := 0) (Nat.le_of_ble_eq_true rfl) (Nat.le_of_ble_eq_true rfl) ?_
        have hw : r25 = (g1 i0.toNat) := hw
        subst hw
        exact k_iret () hx hb hr hlocks hK hP hD hS [0, 1, 2, 3, 4, 5] (by decide) rfl rfl (by rw [hz]; show _ = rAt _ _ _; unfold rAt; rw [if_pos (by omega)]) hAe hQ dX5_byteAt_28
      · skip
        rw [show iI (z : Int) = iI (1 : Int) from congrArg iI hz] at hl
        rw [show iI (i0 : Int) = iI ((i0.toNat : Nat) : Int) from congrArg iI (by omega)] at hl
        refine lv_aload_n hx hb dX5_byteAt_22 rfl (lv_at hl 0 rfl) ?_
        refine lv_iload_n hx hb dX5_byteAt_23 rfl (lv_at hl 1 rfl) ?_
        refine lv_iload_n hx hb dX5_byteAt_24 rfl (lv_at hl 2 rfl) ?_
        have hs9 := c15
        rw [hz] at hs9
        replace hs9 : i0 < ((k2 : Nat) : Int) := hs9
        refine k_calli (wc := [(hm, .inr (5, [.int (iI (0 : Int)), .ref x1, .ref x2, .ref x3, .ref x4, .ref x5, .ref x6, .ref x7, .int (iI ((kt : Nat) : Int)), .int (iI ((k1 : Nat) : Int)), .int (iI ((k2 : Nat) : Int)), .int (iI ((k3 : Nat) : Int)), .int (iI ((k4 : Nat) : Int)), .int (iI ((k5 : Nat) : Int)), .ref y1, .ref y2, .ref y3, .ref y4, .ref y5, .ref y6, .ref y7, .int (iI ((ms : Nat) : Int)), .int (iI ((kw : Nat) : Int)), .int (iI ((kd : Nat) : Int)), .int (iI ((ma : Nat) : Int)), .int (iI (lk : Int))])), (x3, .inl (cI, 300, .inl g2))]) (wr := [(x2, .inl (cI, 300, .inl g1)), (x4, .inl (cI, 900, .inl g3)), (x5, .inl (cI, 300, .inl g4)), (x6, .inl (cI, 300, .inl g5))]) (wf := fun _ => [(hm, .inr (5, [.int (iI (0 : Int)), .ref x1, .ref x2, .ref x3, .ref x4, .ref x5, .ref x6, .ref x7, .int (iI ((kt : Nat) : Int)), .int (iI ((k1 : Nat) : Int)), .int (iI ((k2 : Nat) : Int)), .int (iI ((k3 : Nat) : Int)), .int (iI ((k4 : Nat) : Int)), .int (iI ((k5 : Nat) : Int)), .ref y1, .ref y2, .ref y3, .ref y4, .ref y5, .ref y6, .ref y7, .int (iI ((ms : Nat) : Int)), .int (iI ((kw : Nat) : Int)), .int (iI ((kd : Nat) : Int)), .int (iI ((ma : Nat) : Int)), .int (iI (lk : Int))])), (x2, .inl (cI, 300, .inl g1)), (x3, .inl (cI, 300, .inl g2)), (x4, .inl (cI, 900, .inl g3)), (x5, .inl (cI, 300, .inl g4)), (x6, .inl (cI, 300, .inl g5))]) hK hP hD hS hA [0, 2] [1, 3, 4, 5] [4, 0, 5, 1, 2, 3] ⟨⟨rfl, rfl, by decide⟩, rfl, by decide, by decide⟩ (fun _ => ⟨rfl, rfl⟩) (by decide) (fun hPc hDc => va_runV (As := [.int (iI (1 : Int)), .int (iI ((i0.toNat : Nat) : Int))]) (rest := []) ⟨hx, hb, hml, hown, hts⟩ (c_Mo_byteOf1 l D cI cZ (hm := hm) (cd := (iI (0 : Int))) (x1 := x1) (x2 := x2) (x3 := x3) (x4 := x4) (x5 := x5) (x6 := x6) (x7 := x7) (kt := kt) (k1 := k1) (k2 := k2) (k3 := k3) (k4 := k4) (k5 := k5) (y1 := y1) (y2 := y2) (y3 := y3) (y4 := y4) (y5 := y5) (y6 := y6) (y7 := y7) (ms := ms) (kw := kw) (kd := kd) (ma := ma) (lk := lk) (g := g2) (i := i0.toNat) (hi := by omega) _) (cwV 2 hts (kgV wm571 wm573 wm23 wm44 wmcX5_byteOf) rfl rfl rfl (by decide +kernel) ⟨Nat.le_of_ble_eq_true rfl, Nat.le_of_ble_eq_true rfl⟩) (k_preV hK hPc hDc (ci := 5) (q0 := 0) rfl rfl) rfl rfl hl.1 rfl (lv_room (Nat.le_of_ble_eq_true rfl)) dX5_byteAt_25 ⟨Nat.le_of_ble_eq_true rfl, Nat.le_of_ble_eq_true rfl⟩) (fun r25 u H locs hw hP hD hS => ?_)
        have hP : va_P D vwCl [(hm, .inr (5, [.int (iI (0 : Int)), .ref x1, .ref x2, .ref x3, .ref x4, .ref x5, .ref x6, .ref x7, .int (iI ((kt : Nat) : Int)), .int (iI ((k1 : Nat) : Int)), .int (iI ((k2 : Nat) : Int)), .int (iI ((k3 : Nat) : Int)), .int (iI ((k4 : Nat) : Int)), .int (iI ((k5 : Nat) : Int)), .ref y1, .ref y2, .ref y3, .ref y4, .ref y5, .ref y6, .ref y7, .int (iI ((ms : Nat) : Int)), .int (iI ((kw : Nat) : Int)), .int (iI ((kd : Nat) : Int)), .int (iI ((ma : Nat) : Int)), .int (iI (lk : Int))])), (x2, .inl (cI, 300, .inl g1)), (x3, .inl (cI, 300, .inl g2)), (x4, .inl (cI, 900, .inl g3)), (x5, .inl (cI, 300, .inl g4)), (x6, .inl (cI, 300, .inl g5))] H := hP
        have hD : va_D A [(hm, .inr (5, [.int (iI (0 : Int)), .ref x1, .ref x2, .ref x3, .ref x4, .ref x5, .ref x6, .ref x7, .int (iI ((kt : Nat) : Int)), .int (iI ((k1 : Nat) : Int)), .int (iI ((k2 : Nat) : Int)), .int (iI ((k3 : Nat) : Int)), .int (iI ((k4 : Nat) : Int)), .int (iI ((k5 : Nat) : Int)), .ref y1, .ref y2, .ref y3, .ref y4, .ref y5, .ref y6, .ref y7, .int (iI ((ms : Nat) : Int)), .int (iI ((kw : Nat) : Int)), .int (iI ((kd : Nat) : Int)), .int (iI ((ma : Nat) : Int)), .int (iI (lk : Int))])), (x2, .inl (cI, 300, .inl g1)), (x3, .inl (cI, 300, .inl g2)), (x4, .inl (cI, 900, .inl g3)), (x5, .inl (cI, 300, .inl g4)), (x6, .inl (cI, 300, .inl g5))] := hD
        refine W.widen (k := 0) (n := 0) (Nat.le_of_ble_eq_true rfl) (Nat.le_of_ble_eq_true rfl) ?_
        have hw : r25 = (g2 i0.toNat) := hw
        subst hw
        exact k_iret () hx hb hr hlocks hK hP hD hS [0, 1, 2, 3, 4, 5] (by decide) rfl rfl (by rw [hz]; show _ = rAt _ _ _; unfold rAt; rw [if_pos (by omega)]) hAe hQ dX5_byteAt_28
      · skip
        rw [show iI (z : Int) = iI (2 : Int) from congrArg iI hz] at hl
        rw [show iI (i0 : Int) = iI ((i0.toNat : Nat) : Int) from congrArg iI (by omega)] at hl
        refine lv_aload_n hx hb dX5_byteAt_22 rfl (lv_at hl 0 rfl) ?_
        refine lv_iload_n hx hb dX5_byteAt_23 rfl (lv_at hl 1 rfl) ?_
        refine lv_iload_n hx hb dX5_byteAt_24 rfl (lv_at hl 2 rfl) ?_
        have hs9 := c15
        rw [hz] at hs9
        replace hs9 : i0 < ((k3 : Nat) : Int) := hs9
        refine k_calli (wc := [(hm, .inr (5, [.int (iI (0 : Int)), .ref x1, .ref x2, .ref x3, .ref x4, .ref x5, .ref x6, .ref x7, .int (iI ((kt : Nat) : Int)), .int (iI ((k1 : Nat) : Int)), .int (iI ((k2 : Nat) : Int)), .int (iI ((k3 : Nat) : Int)), .int (iI ((k4 : Nat) : Int)), .int (iI ((k5 : Nat) : Int)), .ref y1, .ref y2, .ref y3, .ref y4, .ref y5, .ref y6, .ref y7, .int (iI ((ms : Nat) : Int)), .int (iI ((kw : Nat) : Int)), .int (iI ((kd : Nat) : Int)), .int (iI ((ma : Nat) : Int)), .int (iI (lk : Int))])), (x4, .inl (cI, 900, .inl g3))]) (wr := [(x2, .inl (cI, 300, .inl g1)), (x3, .inl (cI, 300, .inl g2)), (x5, .inl (cI, 300, .inl g4)), (x6, .inl (cI, 300, .inl g5))]) (wf := fun _ => [(hm, .inr (5, [.int (iI (0 : Int)), .ref x1, .ref x2, .ref x3, .ref x4, .ref x5, .ref x6, .ref x7, .int (iI ((kt : Nat) : Int)), .int (iI ((k1 : Nat) : Int)), .int (iI ((k2 : Nat) : Int)), .int (iI ((k3 : Nat) : Int)), .int (iI ((k4 : Nat) : Int)), .int (iI ((k5 : Nat) : Int)), .ref y1, .ref y2, .ref y3, .ref y4, .ref y5, .ref y6, .ref y7, .int (iI ((ms : Nat) : Int)), .int (iI ((kw : Nat) : Int)), .int (iI ((kd : Nat) : Int)), .int (iI ((ma : Nat) : Int)), .int (iI (lk : Int))])), (x2, .inl (cI, 300, .inl g1)), (x3, .inl (cI, 300, .inl g2)), (x4, .inl (cI, 900, .inl g3)), (x5, .inl (cI, 300, .inl g4)), (x6, .inl (cI, 300, .inl g5))]) hK hP hD hS hA [0, 3] [1, 2, 4, 5] [4, 0, 1, 5, 2, 3] ⟨⟨rfl, rfl, by decide⟩, rfl, by decide, by decide⟩ (fun _ => ⟨rfl, rfl⟩) (by decide) (fun hPc hDc => va_runV (As := [.int (iI (2 : Int)), .int (iI ((i0.toNat : Nat) : Int))]) (rest := []) ⟨hx, hb, hml, hown, hts⟩ (c_Mo_byteOf2 l D cI cZ (hm := hm) (cd := (iI (0 : Int))) (x1 := x1) (x2 := x2) (x3 := x3) (x4 := x4) (x5 := x5) (x6 := x6) (x7 := x7) (kt := kt) (k1 := k1) (k2 := k2) (k3 := k3) (k4 := k4) (k5 := k5) (y1 := y1) (y2 := y2) (y3 := y3) (y4 := y4) (y5 := y5) (y6 := y6) (y7 := y7) (ms := ms) (kw := kw) (kd := kd) (ma := ma) (lk := lk) (g := g3) (i := i0.toNat) (hi := by omega) _) (cwV 2 hts (kgV wm571 wm573 wm23 wm44 wmcX5_byteOf) rfl rfl rfl (by decide +kernel) ⟨Nat.le_of_ble_eq_true rfl, Nat.le_of_ble_eq_true rfl⟩) (k_preV hK hPc hDc (ci := 5) (q0 := 0) rfl rfl) rfl rfl hl.1 rfl (lv_room (Nat.le_of_ble_eq_true rfl)) dX5_byteAt_25 ⟨Nat.le_of_ble_eq_true rfl, Nat.le_of_ble_eq_true rfl⟩) (fun r25 u H locs hw hP hD hS => ?_)
        have hP : va_P D vwCl [(hm, .inr (5, [.int (iI (0 : Int)), .ref x1, .ref x2, .ref x3, .ref x4, .ref x5, .ref x6, .ref x7, .int (iI ((kt : Nat) : Int)), .int (iI ((k1 : Nat) : Int)), .int (iI ((k2 : Nat) : Int)), .int (iI ((k3 : Nat) : Int)), .int (iI ((k4 : Nat) : Int)), .int (iI ((k5 : Nat) : Int)), .ref y1, .ref y2, .ref y3, .ref y4, .ref y5, .ref y6, .ref y7, .int (iI ((ms : Nat) : Int)), .int (iI ((kw : Nat) : Int)), .int (iI ((kd : Nat) : Int)), .int (iI ((ma : Nat) : Int)), .int (iI (lk : Int))])), (x2, .inl (cI, 300, .inl g1)), (x3, .inl (cI, 300, .inl g2)), (x4, .inl (cI, 900, .inl g3)), (x5, .inl (cI, 300, .inl g4)), (x6, .inl (cI, 300, .inl g5))] H := hP
        have hD : va_D A [(hm, .inr (5, [.int (iI (0 : Int)), .ref x1, .ref x2, .ref x3, .ref x4, .ref x5, .ref x6, .ref x7, .int (iI ((kt : Nat) : Int)), .int (iI ((k1 : Nat) : Int)), .int (iI ((k2 : Nat) : Int)), .int (iI ((k3 : Nat) : Int)), .int (iI ((k4 : Nat) : Int)), .int (iI ((k5 : Nat) : Int)), .ref y1, .ref y2, .ref y3, .ref y4, .ref y5, .ref y6, .ref y7, .int (iI ((ms : Nat) : Int)), .int (iI ((kw : Nat) : Int)), .int (iI ((kd : Nat) : Int)), .int (iI ((ma : Nat) : Int)), .int (iI (lk : Int))])), (x2, .inl (cI, 300, .inl g1)), (x3, .inl (cI, 300, .inl g2)), (x4, .inl (cI, 900, .inl g3)), (x5, .inl (cI, 300, .inl g4)), (x6, .inl (cI, 300, .inl g5))] := hD
        refine W.widen (k := 0) (n := 0) (Nat.le_of_ble_eq_true rfl) (Nat.le_of_ble_eq_true rfl) ?_
        have hw : r25 = (g3 i0.toNat) := hw
        subst hw
        exact k_iret () hx hb hr hlocks hK hP hD hS [0, 1, 2, 3, 4, 5] (by decide) rfl rfl (by rw [hz]; show _ = rAt _ _ _; unfold rAt; rw [if_pos (by omega)]) hAe hQ dX5_byteAt_28
      · skip
        rw [show iI (z : Int) = iI (3 : Int) from congrArg iI hz] at hl
        rw [show iI (i0 : Int) = iI ((i0.toNat : Nat) : Int) from congrArg iI (by omega)] at hl
        refine lv_aload_n hx hb dX5_byteAt_22 rfl (lv_at hl 0 rfl) ?_
        refine lv_iload_n hx hb dX5_byteAt_23 rfl (lv_at hl 1 rfl) ?_
        refine lv_iload_n hx hb dX5_byteAt_24 rfl (lv_at hl 2 rfl) ?_
        have hs9 := c15
        rw [hz] at hs9
        replace hs9 : i0 < ((k4 : Nat) : Int) := hs9
        refine k_calli (wc := [(hm, .inr (5, [.int (iI (0 : Int)), .ref x1, .ref x2, .ref x3, .ref x4, .ref x5, .ref x6, .ref x7, .int (iI ((kt : Nat) : Int)), .int (iI ((k1 : Nat) : Int)), .int (iI ((k2 : Nat) : Int)), .int (iI ((k3 : Nat) : Int)), .int (iI ((k4 : Nat) : Int)), .int (iI ((k5 : Nat) : Int)), .ref y1, .ref y2, .ref y3, .ref y4, .ref y5, .ref y6, .ref y7, .int (iI ((ms : Nat) : Int)), .int (iI ((kw : Nat) : Int)), .int (iI ((kd : Nat) : Int)), .int (iI ((ma : Nat) : Int)), .int (iI (lk : Int))])), (x5, .inl (cI, 300, .inl g4))]) (wr := [(x2, .inl (cI, 300, .inl g1)), (x3, .inl (cI, 300, .inl g2)), (x4, .inl (cI, 900, .inl g3)), (x6, .inl (cI, 300, .inl g5))]) (wf := fun _ => [(hm, .inr (5, [.int (iI (0 : Int)), .ref x1, .ref x2, .ref x3, .ref x4, .ref x5, .ref x6, .ref x7, .int (iI ((kt : Nat) : Int)), .int (iI ((k1 : Nat) : Int)), .int (iI ((k2 : Nat) : Int)), .int (iI ((k3 : Nat) : Int)), .int (iI ((k4 : Nat) : Int)), .int (iI ((k5 : Nat) : Int)), .ref y1, .ref y2, .ref y3, .ref y4, .ref y5, .ref y6, .ref y7, .int (iI ((ms : Nat) : Int)), .int (iI ((kw : Nat) : Int)), .int (iI ((kd : Nat) : Int)), .int (iI ((ma : Nat) : Int)), .int (iI (lk : Int))])), (x2, .inl (cI, 300, .inl g1)), (x3, .inl (cI, 300, .inl g2)), (x4, .inl (cI, 900, .inl g3)), (x5, .inl (cI, 300, .inl g4)), (x6, .inl (cI, 300, .inl g5))]) hK hP hD hS hA [0, 4] [1, 2, 3, 5] [4, 0, 1, 2, 5, 3] ⟨⟨rfl, rfl, by decide⟩, rfl, by decide, by decide⟩ (fun _ => ⟨rfl, rfl⟩) (by decide) (fun hPc hDc => va_runV (As := [.int (iI (3 : Int)), .int (iI ((i0.toNat : Nat) : Int))]) (rest := []) ⟨hx, hb, hml, hown, hts⟩ (c_Mo_byteOf3 l D cI cZ (hm := hm) (cd := (iI (0 : Int))) (x1 := x1) (x2 := x2) (x3 := x3) (x4 := x4) (x5 := x5) (x6 := x6) (x7 := x7) (kt := kt) (k1 := k1) (k2 := k2) (k3 := k3) (k4 := k4) (k5 := k5) (y1 := y1) (y2 := y2) (y3 := y3) (y4 := y4) (y5 := y5) (y6 := y6) (y7 := y7) (ms := ms) (kw := kw) (kd := kd) (ma := ma) (lk := lk) (g := g4) (i := i0.toNat) (hi := by omega) _) (cwV 2 hts (kgV wm571 wm573 wm23 wm44 wmcX5_byteOf) rfl rfl rfl (by decide +kernel) ⟨Nat.le_of_ble_eq_true rfl, Nat.le_of_ble_eq_true rfl⟩) (k_preV hK hPc hDc (ci := 5) (q0 := 0) rfl rfl) rfl rfl hl.1 rfl (lv_room (Nat.le_of_ble_eq_true rfl)) dX5_byteAt_25 ⟨Nat.le_of_ble_eq_true rfl, Nat.le_of_ble_eq_true rfl⟩) (fun r25 u H locs hw hP hD hS => ?_)
        have hP : va_P D vwCl [(hm, .inr (5, [.int (iI (0 : Int)), .ref x1, .ref x2, .ref x3, .ref x4, .ref x5, .ref x6, .ref x7, .int (iI ((kt : Nat) : Int)), .int (iI ((k1 : Nat) : Int)), .int (iI ((k2 : Nat) : Int)), .int (iI ((k3 : Nat) : Int)), .int (iI ((k4 : Nat) : Int)), .int (iI ((k5 : Nat) : Int)), .ref y1, .ref y2, .ref y3, .ref y4, .ref y5, .ref y6, .ref y7, .int (iI ((ms : Nat) : Int)), .int (iI ((kw : Nat) : Int)), .int (iI ((kd : Nat) : Int)), .int (iI ((ma : Nat) : Int)), .int (iI (lk : Int))])), (x2, .inl (cI, 300, .inl g1)), (x3, .inl (cI, 300, .inl g2)), (x4, .inl (cI, 900, .inl g3)), (x5, .inl (cI, 300, .inl g4)), (x6, .inl (cI, 300, .inl g5))] H := hP
        have hD : va_D A [(hm, .inr (5, [.int (iI (0 : Int)), .ref x1, .ref x2, .ref x3, .ref x4, .ref x5, .ref x6, .ref x7, .int (iI ((kt : Nat) : Int)), .int (iI ((k1 : Nat) : Int)), .int (iI ((k2 : Nat) : Int)), .int (iI ((k3 : Nat) : Int)), .int (iI ((k4 : Nat) : Int)), .int (iI ((k5 : Nat) : Int)), .ref y1, .ref y2, .ref y3, .ref y4, .ref y5, .ref y6, .ref y7, .int (iI ((ms : Nat) : Int)), .int (iI ((kw : Nat) : Int)), .int (iI ((kd : Nat) : Int)), .int (iI ((ma : Nat) : Int)), .int (iI (lk : Int))])), (x2, .inl (cI, 300, .inl g1)), (x3, .inl (cI, 300, .inl g2)), (x4, .inl (cI, 900, .inl g3)), (x5, .inl (cI, 300, .inl g4)), (x6, .inl (cI, 300, .inl g5))] := hD
        refine W.widen (k := 0) (n := 0) (Nat.le_of_ble_eq_true rfl) (Nat.le_of_ble_eq_true rfl) ?_
        have hw : r25 = (g4 i0.toNat) := hw
        subst hw
        exact k_iret () hx hb hr hlocks hK hP hD hS [0, 1, 2, 3, 4, 5] (by decide) rfl rfl (by rw [hz]; show _ = rAt _ _ _; unfold rAt; rw [if_pos (by omega)]) hAe hQ dX5_byteAt_28
      · skip
        rw [show iI (z : Int) = iI (4 : Int) from congrArg iI hz] at hl
        rw [show iI (i0 : Int) = iI ((i0.toNat : Nat) : Int) from congrArg iI (by omega)] at hl
        refine lv_aload_n hx hb dX5_byteAt_22 rfl (lv_at hl 0 rfl) ?_
        refine lv_iload_n hx hb dX5_byteAt_23 rfl (lv_at hl 1 rfl) ?_
        refine lv_iload_n hx hb dX5_byteAt_24 rfl (lv_at hl 2 rfl) ?_
        have hs9 := c15
        rw [hz] at hs9
        replace hs9 : i0 < ((k5 : Nat) : Int) := hs9
        refine k_calli (wc := [(hm, .inr (5, [.int (iI (0 : Int)), .ref x1, .ref x2, .ref x3, .ref x4, .ref x5, .ref x6, .ref x7, .int (iI ((kt : Nat) : Int)), .int (iI ((k1 : Nat) : Int)), .int (iI ((k2 : Nat) : Int)), .int (iI ((k3 : Nat) : Int)), .int (iI ((k4 : Nat) : Int)), .int (iI ((k5 : Nat) : Int)), .ref y1, .ref y2, .ref y3, .ref y4, .ref y5, .ref y6, .ref y7, .int (iI ((ms : Nat) : Int)), .int (iI ((kw : Nat) : Int)), .int (iI ((kd : Nat) : Int)), .int (iI ((ma : Nat) : Int)), .int (iI (lk : Int))])), (x6, .inl (cI, 300, .inl g5))]) (wr := [(x2, .inl (cI, 300, .inl g1)), (x3, .inl (cI, 300, .inl g2)), (x4, .inl (cI, 900, .inl g3)), (x5, .inl (cI, 300, .inl g4))]) (wf := fun _ => [(hm, .inr (5, [.int (iI (0 : Int)), .ref x1, .ref x2, .ref x3, .ref x4, .ref x5, .ref x6, .ref x7, .int (iI ((kt : Nat) : Int)), .int (iI ((k1 : Nat) : Int)), .int (iI ((k2 : Nat) : Int)), .int (iI ((k3 : Nat) : Int)), .int (iI ((k4 : Nat) : Int)), .int (iI ((k5 : Nat) : Int)), .ref y1, .ref y2, .ref y3, .ref y4, .ref y5, .ref y6, .ref y7, .int (iI ((ms : Nat) : Int)), .int (iI ((kw : Nat) : Int)), .int (iI ((kd : Nat) : Int)), .int (iI ((ma : Nat) : Int)), .int (iI (lk : Int))])), (x2, .inl (cI, 300, .inl g1)), (x3, .inl (cI, 300, .inl g2)), (x4, .inl (cI, 900, .inl g3)), (x5, .inl (cI, 300, .inl g4)), (x6, .inl (cI, 300, .inl g5))]) hK hP hD hS hA [0, 5] [1, 2, 3, 4] [4, 0, 1, 2, 3, 5] ⟨⟨rfl, rfl, by decide⟩, rfl, by decide, by decide⟩ (fun _ => ⟨rfl, rfl⟩) (by decide) (fun hPc hDc => va_runV (As := [.int (iI (4 : Int)), .int (iI ((i0.toNat : Nat) : Int))]) (rest := []) ⟨hx, hb, hml, hown, hts⟩ (c_Mo_byteOf4 l D cI cZ (hm := hm) (cd := (iI (0 : Int))) (x1 := x1) (x2 := x2) (x3 := x3) (x4 := x4) (x5 := x5) (x6 := x6) (x7 := x7) (kt := kt) (k1 := k1) (k2 := k2) (k3 := k3) (k4 := k4) (k5 := k5) (y1 := y1) (y2 := y2) (y3 := y3) (y4 := y4) (y5 := y5) (y6 := y6) (y7 := y7) (ms := ms) (kw := kw) (kd := kd) (ma := ma) (lk := lk) (g := g5) (i := i0.toNat) (hi := by omega) _) (cwV 2 hts (kgV wm571 wm573 wm23 wm44 wmcX5_byteOf) rfl rfl rfl (by decide +kernel) ⟨Nat.le_of_ble_eq_true rfl, Nat.le_of_ble_eq_true rfl⟩) (k_preV hK hPc hDc (ci := 5) (q0 := 0) rfl rfl) rfl rfl hl.1 rfl (lv_room (Nat.le_of_ble_eq_true rfl)) dX5_byteAt_25 ⟨Nat.le_of_ble_eq_true rfl, Nat.le_of_ble_eq_true rfl⟩) (fun r25 u H locs hw hP hD hS => ?_)
        have hP : va_P D vwCl [(hm, .inr (5, [.int (iI (0 : Int)), .ref x1, .ref x2, .ref x3, .ref x4, .ref x5, .ref x6, .ref x7, .int (iI ((kt : Nat) : Int)), .int (iI ((k1 : Nat) : Int)), .int (iI ((k2 : Nat) : Int)), .int (iI ((k3 : Nat) : Int)), .int (iI ((k4 : Nat) : Int)), .int (iI ((k5 : Nat) : Int)), .ref y1, .ref y2, .ref y3, .ref y4, .ref y5, .ref y6, .ref y7, .int (iI ((ms : Nat) : Int)), .int (iI ((kw : Nat) : Int)), .int (iI ((kd : Nat) : Int)), .int (iI ((ma : Nat) : Int)), .int (iI (lk : Int))])), (x2, .inl (cI, 300, .inl g1)), (x3, .inl (cI, 300, .inl g2)), (x4, .inl (cI, 900, .inl g3)), (x5, .inl (cI, 300, .inl g4)), (x6, .inl (cI, 300, .inl g5))] H := hP
        have hD : va_D A [(hm, .inr (5, [.int (iI (0 : Int)), .ref x1, .ref x2, .ref x3, .ref x4, .ref x5, .ref x6, .ref x7, .int (iI ((kt : Nat) : Int)), .int (iI ((k1 : Nat) : Int)), .int (iI ((k2 : Nat) : Int)), .int (iI ((k3 : Nat) : Int)), .int (iI ((k4 : Nat) : Int)), .int (iI ((k5 : Nat) : Int)), .ref y1, .ref y2, .ref y3, .ref y4, .ref y5, .ref y6, .ref y7, .int (iI ((ms : Nat) : Int)), .int (iI ((kw : Nat) : Int)), .int (iI ((kd : Nat) : Int)), .int (iI ((ma : Nat) : Int)), .int (iI (lk : Int))])), (x2, .inl (cI, 300, .inl g1)), (x3, .inl (cI, 300, .inl g2)), (x4, .inl (cI, 900, .inl g3)), (x5, .inl (cI, 300, .inl g4)), (x6, .inl (cI, 300, .inl g5))] := hD
        refine W.widen (k := 0) (n := 0) (Nat.le_of_ble_eq_true rfl) (Nat.le_of_ble_eq_true rfl) ?_
        have hw : r25 = (g5 i0.toNat) := hw
        subst hw
        exact k_iret () hx hb hr hlocks hK hP hD hS [0, 1, 2, 3, 4, 5] (by decide) rfl rfl (by rw [hz]; show _ = rAt _ _ _; unfold rAt; rw [if_pos (by omega)]) hAe hQ dX5_byteAt_28
    · skip
      have c15 := iI_ltF (a := (i0 : Int)) (b := (szF z k1 k2 k3 k4 k5 : Int)) c15 (by omega)
      refine lv_iconst (v := iI (-1 : Int)) hx hb dX5_byteAt_18 rfl ?_
      refine lv_goto (tgt := 28) hx hb dX5_byteAt_19 (by decide) ?_
      exact k_iret () hx hb hr hlocks hK hP hD hS [0, 1, 2, 3, 4, 5] (by decide) rfl rfl ((bt_no (by omega)).symm) hAe hQ dX5_byteAt_28

abbrev rm_c_Mo_checkOf0 : Room := { frames := 1, cells := 0, slots := 0, locals := 22 }
set_option maxHeartbeats 4000000 in
set_option maxRecDepth 100000 in
theorem c_Mo_checkOf0 (l : Launch) (D : va_G) (cI cZ : ClassId) (hm : Nat) (cd : Int32) (x1 : Nat) (x2 : Nat) (x3 : Nat) (x4 : Nat) (x5 : Nat) (x6 : Nat) (x7 : Nat) (kt : Nat) (k1 : Nat) (k2 : Nat) (k3 : Nat) (k4 : Nat) (k5 : Nat) (y1 : Nat) (y2 : Nat) (y3 : Nat) (y4 : Nat) (y5 : Nat) (y6 : Nat) (y7 : Nat) (ms : Nat) (kw : Nat) (kd : Nat) (ma : Nat) (lk : Int) (g : Nat → Int32) (hk1 : k1 ≤ 300) : MI l yX5_checkOf wsX5_checkOf rm_c_Mo_checkOf0 D (kT cI cZ) [.ref hm, .int (iI (0 : Int))] [(hm, .inr (5, [.int cd, .ref x1, .ref x2, .ref x3, .ref x4, .ref x5, .ref x6, .ref x7, .int (iI ((kt : Nat) : Int)), .int (iI ((k1 : Nat) : Int)), .int (iI ((k2 : Nat) : Int)), .int (iI ((k3 : Nat) : Int)), .int (iI ((k4 : Nat) : Int)), .int (iI ((k5 : Nat) : Int)), .ref y1, .ref y2, .ref y3, .ref y4, .ref y5, .ref y6, .ref y7, .int (iI ((ms : Nat) : Int)), .int (iI ((kw : Nat) : Int)), .int (iI ((kd : Nat) : Int)), .int (iI ((ma : Nat) : Int)), .int (iI (lk : Int))])), (x2, .inl (cI, 300, .inl g))] (fun (r : Int32) (_ : Unit) => r = (dg g k1)) (fun (u : Unit) => match u with | _ => [(hm, .inr (5, [.int cd, .ref x1, .ref x2, .ref x3, .ref x4, .ref x5, .ref x6, .ref x7, .int (iI ((kt : Nat) : Int)), .int (iI ((k1 : Nat) : Int)), .int (iI ((k2 : Nat) : Int)), .int (iI ((k3 : Nat) : Int)), .int (iI ((k4 : Nat) : Int)), .int (iI ((k5 : Nat) : Int)), .ref y1, .ref y2, .ref y3, .ref y4, .ref y5, .ref y6, .ref y7, .int (iI ((ms : Nat) : Int)), .int (iI ((kw : Nat) : Int)), .int (iI ((kd : Nat) : Int)), .int (iI ((ma : Nat) : Int)), .int (iI (lk : Int))])), (x2, .inl (cI, 300, .inl g))]) 0 0 := by
  intro sz
  refine k_of (cc := cX5_checkOf) (maxL := 5) (ret := (some .int)) (by decide) rfl (Nat.le_of_ble_eq_true rfl) ?_
  intro p e s m args below meth c A Q hAe hQ hx hb hr hml hts hown hlocks hnm hP hK hD hS hA ls hl
  have hl : lv_has ls 5 [(0, .ref hm), (1, .int (iI (0 : Int)))] := hl
  refine lv_iconst (v := iI (0 : Int)) hx hb dX5_checkOf_0 rfl ?_
  refine lv_istore_n (lv' := [(2, .int (iI (0 : Int))), (0, .ref hm), (1, .int (iI (0 : Int)))]) hx hb dX5_checkOf_1 rfl hl (by decide) rfl (fun ls hl => ?_)
  refine lv_iconst (v := iI ((0 : Nat) : Int)) hx hb dX5_checkOf_2 rfl ?_
  refine lv_istore_n (lv' := [(3, .int (iI ((0 : Nat) : Int))), (2, .int (iI (0 : Int))), (0, .ref hm), (1, .int (iI (0 : Int)))]) hx hb dX5_checkOf_3 rfl hl (by decide) rfl (fun ls hl => ?_)
  have lp4 : ∀ (fu : Nat) (k : Nat) (H : Heap) (locs : List Loc) (ls : Array Slot), k1 - k < fu → (k ≤ k1) → va_P D vwCl [(hm, .inr (5, [.int cd, .ref x1, .ref x2, .ref x3, .ref x4, .ref x5, .ref x6, .ref x7, .int (iI ((kt : Nat) : Int)), .int (iI ((k1 : Nat) : Int)), .int (iI ((k2 : Nat) : Int)), .int (iI ((k3 : Nat) : Int)), .int (iI ((k4 : Nat) : Int)), .int (iI ((k5 : Nat) : Int)), .ref y1, .ref y2, .ref y3, .ref y4, .ref y5, .ref y6, .ref y7, .int (iI ((ms : Nat) : Int)), .int (iI ((kw : Nat) : Int)), .int (iI ((kd : Nat) : Int)), .int (iI ((ma : Nat) : Int)), .int (iI (lk : Int))])), (x2, .inl (cI, 300, .inl g))] H → va_D A [(hm, .inr (5, [.int cd, .ref x1, .ref x2, .ref x3, .ref x4, .ref x5, .ref x6, .ref x7, .int (iI ((kt : Nat) : Int)), .int (iI ((k1 : Nat) : Int)), .int (iI ((k2 : Nat) : Int)), .int (iI ((k3 : Nat) : Int)), .int (iI ((k4 : Nat) : Int)), .int (iI ((k5 : Nat) : Int)), .ref y1, .ref y2, .ref y3, .ref y4, .ref y5, .ref y6, .ref y7, .int (iI ((ms : Nat) : Int)), .int (iI ((kw : Nat) : Int)), .int (iI ((kd : Nat) : Int)), .int (iI ((ma : Nat) : Int)), .int (iI (lk : Int))])), (x2, .inl (cI, 300, .inl g))] → va_S A s.heap H locs → lv_has ls 5 [(0, .ref hm), (1, .int (iI (0 : Int))), (2, .int (dg g k)), (3, .int (iI ((k : Nat) : Int)))] → W p l e rm_c_Mo_checkOf0 s m args below meth c H locs 0 0 Q (F0 m 4 ls []) := by
    intro fu
    induction fu with
    | zero => intro k H locs ls hfu; exact absurd hfu (Nat.not_lt_zero _)
    | succ fu ih4 =>
      intro k H locs ls hfu hk hP hD hS hl
      refine lv_iload_n hx hb dX5_checkOf_4 rfl (lv_at hl 3 rfl) ?_
      refine lv_aload_n hx hb dX5_checkOf_5 rfl (lv_at hl 0 rfl) ?_
      refine lv_iload_n hx hb dX5_checkOf_6 rfl (lv_at hl 1 rfl) ?_
      refine k_calli (wc := [(hm, .inr (5, [.int cd, .ref x1, .ref x2, .ref x3, .ref x4, .ref x5, .ref x6, .ref x7, .int (iI ((kt : Nat) : Int)), .int (iI ((k1 : Nat) : Int)), .int (iI ((k2 : Nat) : Int)), .int (iI ((k3 : Nat) : Int)), .int (iI ((k4 : Nat) : Int)), .int (iI ((k5 : Nat) : Int)), .ref y1, .ref y2, .ref y3, .ref y4, .ref y5, .ref y6, .ref y7, .int (iI ((ms : Nat) : Int)), .int (iI ((kw : Nat) : Int)), .int (iI ((kd : Nat) : Int)), .int (iI ((ma : Nat) : Int)), .int (iI (lk : Int))]))]) (wr := [(x2, .inl (cI, 300, .inl g))]) (wf := fun _ => [(hm, .inr (5, [.int cd, .ref x1, .ref x2, .ref x3, .ref x4, .ref x5, .ref x6, .ref x7, .int (iI ((kt : Nat) : Int)), .int (iI ((k1 : Nat) : Int)), .int (iI ((k2 : Nat) : Int)), .int (iI ((k3 : Nat) : Int)), .int (iI ((k4 : Nat) : Int)), .int (iI ((k5 : Nat) : Int)), .ref y1, .ref y2, .ref y3, .ref y4, .ref y5, .ref y6, .ref y7, .int (iI ((ms : Nat) : Int)), .int (iI ((kw : Nat) : Int)), .int (iI ((kd : Nat) : Int)), .int (iI ((ma : Nat) : Int)), .int (iI (lk : Int))])), (x2, .inl (cI, 300, .inl g))]) hK hP hD hS hA [0] [1] [1, 0] ⟨⟨rfl, rfl, by decide⟩, rfl, by decide, by decide⟩ (fun _ => ⟨rfl, rfl⟩) (by decide) (fun hPc hDc => va_runV (As := [.int (iI (0 : Int))]) (rest := [.int (iI ((k : Nat) : Int))]) ⟨hx, hb, hml, hown, hts⟩ (c_Mo_sizeOf0 l D cI cZ (hm := hm) (cd := cd) (x1 := x1) (x2 := x2) (x3 := x3) (x4 := x4) (x5 := x5) (x6 := x6) (x7 := x7) (kt := kt) (k1 := k1) (k2 := k2) (k3 := k3) (k4 := k4) (k5 := k5) (y1 := y1) (y2 := y2) (y3 := y3) (y4 := y4) (y5 := y5) (y6 := y6) (y7 := y7) (ms := ms) (kw := kw) (kd := kd) (ma := ma) (lk := lk)  _) (cwV 1 hts (kgV wm567 wm569 wm22 wm44 wmcX5_sizeOf) rfl rfl rfl (by decide +kernel) ⟨Nat.le_of_ble_eq_true rfl, Nat.le_of_ble_eq_true rfl⟩) (k_preV hK hPc hDc (ci := 5) (q0 := 0) rfl rfl) rfl rfl hl.1 rfl (lv_room (Nat.le_of_ble_eq_true rfl)) dX5_checkOf_7 ⟨Nat.le_of_ble_eq_true rfl, Nat.le_of_ble_eq_true rfl⟩) (fun r7 u H locs hw hP hD hS => ?_)
      have hP : va_P D vwCl [(hm, .inr (5, [.int cd, .ref x1, .ref x2, .ref x3, .ref x4, .ref x5, .ref x6, .ref x7, .int (iI ((kt : Nat) : Int)), .int (iI ((k1 : Nat) : Int)), .int (iI ((k2 : Nat) : Int)), .int (iI ((k3 : Nat) : Int)), .int (iI ((k4 : Nat) : Int)), .int (iI ((k5 : Nat) : Int)), .ref y1, .ref y2, .ref y3, .ref y4, .ref y5, .ref y6, .ref y7, .int (iI ((ms : Nat) : Int)), .int (iI ((kw : Nat) : Int)), .int (iI ((kd : Nat) : Int)), .int (iI ((ma : Nat) : Int)), .int (iI (lk : Int))])), (x2, .inl (cI, 300, .inl g))] H := hP
      have hD : va_D A [(hm, .inr (5, [.int cd, .ref x1, .ref x2, .ref x3, .ref x4, .ref x5, .ref x6, .ref x7, .int (iI ((kt : Nat) : Int)), .int (iI ((k1 : Nat) : Int)), .int (iI ((k2 : Nat) : Int)), .int (iI ((k3 : Nat) : Int)), .int (iI ((k4 : Nat) : Int)), .int (iI ((k5 : Nat) : Int)), .ref y1, .ref y2, .ref y3, .ref y4, .ref y5, .ref y6, .ref y7, .int (iI ((ms : Nat) : Int)), .int (iI ((kw : Nat) : Int)), .int (iI ((kd : Nat) : Int)), .int (iI ((ma : Nat) : Int)), .int (iI (lk : Int))])), (x2, .inl (cI, 300, .inl g))] := hD
      refine W.widen (k := 0) (n := 0) (Nat.le_of_ble_eq_true rfl) (Nat.le_of_ble_eq_true rfl) ?_
      have hw : r7 = iI ((k1 : Nat) : Int) := hw
      subst hw
      refine lv_icmp_ge (tgt := 43) hx hb dX5_checkOf_10 (by decide) (fun c10 => ?_) (fun c10 => ?_)
      · skip
        have c10 := iI_leT (a := ((k1 : Nat) : Int)) (b := ((k : Nat) : Int)) c10 (by omega)
        refine lv_iload_n hx hb dX5_checkOf_43 rfl (lv_at hl 2 rfl) ?_
        exact k_iret () hx hb hr hlocks hK hP hD hS [0, 1] (by decide) rfl rfl ((by rw [show k = k1 by omega])) hAe hQ dX5_checkOf_44
      · skip
        have c10 := iI_leF (a := ((k1 : Nat) : Int)) (b := ((k : Nat) : Int)) c10 (by omega)
        refine lv_iload_n hx hb dX5_checkOf_13 rfl (lv_at hl 2 rfl) ?_
        refine lv_aload_n hx hb dX5_checkOf_14 rfl (lv_at hl 0 rfl) ?_
        refine lv_iload_n hx hb dX5_checkOf_15 rfl (lv_at hl 1 rfl) ?_
        refine lv_iload_n hx hb dX5_checkOf_16 rfl (lv_at hl 3 rfl) ?_
        refine k_calli (wc := [(hm, .inr (5, [.int cd, .ref x1, .ref x2, .ref x3, .ref x4, .ref x5, .ref x6, .ref x7, .int (iI ((kt : Nat) : Int)), .int (iI ((k1 : Nat) : Int)), .int (iI ((k2 : Nat) : Int)), .int (iI ((k3 : Nat) : Int)), .int (iI ((k4 : Nat) : Int)), .int (iI ((k5 : Nat) : Int)), .ref y1, .ref y2, .ref y3, .ref y4, .ref y5, .ref y6, .ref y7, .int (iI ((ms : Nat) : Int)), .int (iI ((kw : Nat) : Int)), .int (iI ((kd : Nat) : Int)), .int (iI ((ma : Nat) : Int)), .int (iI (lk : Int))])), (x2, .inl (cI, 300, .inl g))]) (wr := []) (wf := fun _ => [(hm, .inr (5, [.int cd, .ref x1, .ref x2, .ref x3, .ref x4, .ref x5, .ref x6, .ref x7, .int (iI ((kt : Nat) : Int)), .int (iI ((k1 : Nat) : Int)), .int (iI ((k2 : Nat) : Int)), .int (iI ((k3 : Nat) : Int)), .int (iI ((k4 : Nat) : Int)), .int (iI ((k5 : Nat) : Int)), .ref y1, .ref y2, .ref y3, .ref y4, .ref y5, .ref y6, .ref y7, .int (iI ((ms : Nat) : Int)), .int (iI ((kw : Nat) : Int)), .int (iI ((kd : Nat) : Int)), .int (iI ((ma : Nat) : Int)), .int (iI (lk : Int))])), (x2, .inl (cI, 300, .inl g))]) hK hP hD hS hA [0, 1] [] [0, 1] ⟨⟨rfl, rfl, by decide⟩, rfl, by decide, by decide⟩ (fun _ => ⟨rfl, rfl⟩) (by decide) (fun hPc hDc => va_runV (As := [.int (iI (0 : Int)), .int (iI ((k : Nat) : Int))]) (rest := [.int (dg g k)]) ⟨hx, hb, hml, hown, hts⟩ (c_Mo_byteOf0 l D cI cZ (hm := hm) (cd := cd) (x1 := x1) (x2 := x2) (x3 := x3) (x4 := x4) (x5 := x5) (x6 := x6) (x7 := x7) (kt := kt) (k1 := k1) (k2 := k2) (k3 := k3) (k4 := k4) (k5 := k5) (y1 := y1) (y2 := y2) (y3 := y3) (y4 := y4) (y5 := y5) (y6 := y6) (y7 := y7) (ms := ms) (kw := kw) (kd := kd) (ma := ma) (lk := lk) (g := g) (i := k) (hi := by omega) _) (cwV 2 hts (kgV wm571 wm573 wm23 wm44 wmcX5_byteOf) rfl rfl rfl (by decide +kernel) ⟨Nat.le_of_ble_eq_true rfl, Nat.le_of_ble_eq_true rfl⟩) (k_preV hK hPc hDc (ci := 5) (q0 := 0) rfl rfl) rfl rfl hl.1 rfl (lv_room (Nat.le_of_ble_eq_true rfl)) dX5_checkOf_17 ⟨Nat.le_of_ble_eq_true rfl, Nat.le_of_ble_eq_true rfl⟩) (fun r17 u H locs hw hP hD hS => ?_)
        have hP : va_P D vwCl [(hm, .inr (5, [.int cd, .ref x1, .ref x2, .ref x3, .ref x4, .ref x5, .ref x6, .ref x7, .int (iI ((kt : Nat) : Int)), .int (iI ((k1 : Nat) : Int)), .int (iI ((k2 : Nat) : Int)), .int (iI ((k3 : Nat) : Int)), .int (iI ((k4 : Nat) : Int)), .int (iI ((k5 : Nat) : Int)), .ref y1, .ref y2, .ref y3, .ref y4, .ref y5, .ref y6, .ref y7, .int (iI ((ms : Nat) : Int)), .int (iI ((kw : Nat) : Int)), .int (iI ((kd : Nat) : Int)), .int (iI ((ma : Nat) : Int)), .int (iI (lk : Int))])), (x2, .inl (cI, 300, .inl g))] H := hP
        have hD : va_D A [(hm, .inr (5, [.int cd, .ref x1, .ref x2, .ref x3, .ref x4, .ref x5, .ref x6, .ref x7, .int (iI ((kt : Nat) : Int)), .int (iI ((k1 : Nat) : Int)), .int (iI ((k2 : Nat) : Int)), .int (iI ((k3 : Nat) : Int)), .int (iI ((k4 : Nat) : Int)), .int (iI ((k5 : Nat) : Int)), .ref y1, .ref y2, .ref y3, .ref y4, .ref y5, .ref y6, .ref y7, .int (iI ((ms : Nat) : Int)), .int (iI ((kw : Nat) : Int)), .int (iI ((kd : Nat) : Int)), .int (iI ((ma : Nat) : Int)), .int (iI (lk : Int))])), (x2, .inl (cI, 300, .inl g))] := hD
        refine W.widen (k := 0) (n := 0) (Nat.le_of_ble_eq_true rfl) (Nat.le_of_ble_eq_true rfl) ?_
        have hw : r17 = (g k) := hw
        subst hw
        refine lv_ixor hx hb dX5_checkOf_20 ?_
        refine lv_istore (lv' := [(4, .int (((dg g k)) ^^^ ((g k)))), (0, .ref hm), (1, .int (iI (0 : Int))), (2, .int (dg g k)), (3, .int (iI ((k : Nat) : Int)))]) hx hb dX5_checkOf_21 hl (by decide) rfl (fun ls hl => ?_)
        refine lv_iload hx hb dX5_checkOf_23 (lv_at hl 0 rfl) ?_
        refine lv_iconst (v := iI (5 : Int)) hx hb dX5_checkOf_25 rfl ?_
        refine lv_ishl hx hb dX5_checkOf_26 ?_
        refine lv_iload hx hb dX5_checkOf_27 (lv_at hl 0 rfl) ?_
        refine lv_bipush (v := iI (27 : Int)) hx hb dX5_checkOf_29 (by decide) ?_
        refine lv_iushr hx hb dX5_checkOf_31 rfl ?_
        refine lv_ior hx hb dX5_checkOf_32 ?_
        refine lv_ldc (v := (-2048144777)) hx hb hown (hts _ (km wm587)) dX5_checkOf_33 ?_
        refine lv_imul hx hb dX5_checkOf_35 ?_
        refine kn_i (y := (dg g (k + 1))) (rfl) ?_
        refine lv_istore_n (lv' := [(2, .int (dg g (k + 1))), (4, .int (((dg g k)) ^^^ ((g k)))), (0, .ref hm), (1, .int (iI (0 : Int))), (3, .int (iI ((k : Nat) : Int)))]) hx hb dX5_checkOf_36 rfl hl (by decide) rfl (fun ls hl => ?_)
        refine lv_iinc (v := iI ((k + 1 : Nat) : Int)) (lv' := [(3, .int (iI ((k + 1 : Nat) : Int))), (2, .int (dg g (k + 1))), (4, .int (((dg g k)) ^^^ ((g k)))), (0, .ref hm), (1, .int (iI (0 : Int)))]) hx hb dX5_checkOf_37 hl (k := 4) rfl (iA (by omega)) (by decide) rfl (fun ls hl => ?_)
        refine lv_goto (tgt := 4) hx hb dX5_checkOf_40 (by decide) ?_
        exact ih4 (k + 1) _ _ _ (by omega) (by omega) hP hD hS (lv_sub hl [3, 4, 1, 0] rfl)
  exact lp4 _ 0 _ _ _ (Nat.lt_succ_self _) (by omega) hP hD hS (lv_sub hl [2, 3, 1, 0] rfl)

abbrev rm_c_Mo_checkOf1 : Room := { frames := 1, cells := 0, slots := 0, locals := 22 }
set_option maxHeartbeats 4000000 in
set_option maxRecDepth 100000 in
theorem c_Mo_checkOf1 (l : Launch) (D : va_G) (cI cZ : ClassId) (hm : Nat) (cd : Int32) (x1 : Nat) (x2 : Nat) (x3 : Nat) (x4 : Nat) (x5 : Nat) (x6 : Nat) (x7 : Nat) (kt : Nat) (k1 : Nat) (k2 : Nat) (k3 : Nat) (k4 : Nat) (k5 : Nat) (y1 : Nat) (y2 : Nat) (y3 : Nat) (y4 : Nat) (y5 : Nat) (y6 : Nat) (y7 : Nat) (ms : Nat) (kw : Nat) (kd : Nat) (ma : Nat) (lk : Int) (g : Nat → Int32) (hk2 : k2 ≤ 300) : MI l yX5_checkOf wsX5_checkOf rm_c_Mo_checkOf1 D (kT cI cZ) [.ref hm, .int (iI (1 : Int))] [(hm, .inr (5, [.int cd, .ref x1, .ref x2, .ref x3, .ref x4, .ref x5, .ref x6, .ref x7, .int (iI ((kt : Nat) : Int)), .int (iI ((k1 : Nat) : Int)), .int (iI ((k2 : Nat) : Int)), .int (iI ((k3 : Nat) : Int)), .int (iI ((k4 : Nat) : Int)), .int (iI ((k5 : Nat) : Int)), .ref y1, .ref y2, .ref y3, .ref y4, .ref y5, .ref y6, .ref y7, .int (iI ((ms : Nat) : Int)), .int (iI ((kw : Nat) : Int)), .int (iI ((kd : Nat) : Int)), .int (iI ((ma : Nat) : Int)), .int (iI (lk : Int))])), (x3, .inl (cI, 300, .inl g))] (fun (r : Int32) (_ : Unit) => r = (dg g k2)) (fun (u : Unit) => match u with | _ => [(hm, .inr (5, [.int cd, .ref x1, .ref x2, .ref x3, .ref x4, .ref x5, .ref x6, .ref x7, .int (iI ((kt : Nat) : Int)), .int (iI ((k1 : Nat) : Int)), .int (iI ((k2 : Nat) : Int)), .int (iI ((k3 : Nat) : Int)), .int (iI ((k4 : Nat) : Int)), .int (iI ((k5 : Nat) : Int)), .ref y1, .ref y2, .ref y3, .ref y4, .ref y5, .ref y6, .ref y7, .int (iI ((ms : Nat) : Int)), .int (iI ((kw : Nat) : Int)), .int (iI ((kd : Nat) : Int)), .int (iI ((ma : Nat) : Int)), .int (iI (lk : Int))])), (x3, .inl (cI, 300, .inl g))]) 0 0 := by
  intro sz
  refine k_of (cc := cX5_checkOf) (maxL := 5) (ret := (some .int)) (by decide) rfl (Nat.le_of_ble_eq_true rfl) ?_
  intro p e s m args below meth c A Q hAe hQ hx hb hr hml hts hown hlocks hnm hP hK hD hS hA ls hl
  have hl : lv_has ls 5 [(0, .ref hm), (1, .int (iI (1 : Int)))] := hl
  refine lv_iconst (v := iI (0 : Int)) hx hb dX5_checkOf_0 rfl ?_
  refine lv_istore_n (lv' := [(2, .int (iI (0 : Int))), (0, .ref hm), (1, .int (iI (1 : Int)))]) hx hb dX5_checkOf_1 rfl hl (by decide) rfl (fun ls hl => ?_)
  refine lv_iconst (v := iI ((0 : Nat) : Int)) hx hb dX5_checkOf_2 rfl ?_
  refine lv_istore_n (lv' := [(3, .int (iI ((0 : Nat) : Int))), (2, .int (iI (0 : Int))), (0, .ref hm), (1, .int (iI (1 : Int)))]) hx hb dX5_checkOf_3 rfl hl (by decide) rfl (fun ls hl => ?_)
  have lp4 : ∀ (fu : Nat) (k : Nat) (H : Heap) (locs : List Loc) (ls : Array Slot), k2 - k < fu → (k ≤ k2) → va_P D vwCl [(hm, .inr (5, [.int cd, .ref x1, .ref x2, .ref x3, .ref x4, .ref x5, .ref x6, .ref x7, .int (iI ((kt : Nat) : Int)), .int (iI ((k1 : Nat) : Int)), .int (iI ((k2 : Nat) : Int)), .int (iI ((k3 : Nat) : Int)), .int (iI ((k4 : Nat) : Int)), .int (iI ((k5 : Nat) : Int)), .ref y1, .ref y2, .ref y3, .ref y4, .ref y5, .ref y6, .ref y7, .int (iI ((ms : Nat) : Int)), .int (iI ((kw : Nat) : Int)), .int (iI ((kd : Nat) : Int)), .int (iI ((ma : Nat) : Int)), .int (iI (lk : Int))])), (x3, .inl (cI, 300, .inl g))] H → va_D A [(hm, .inr (5, [.int cd, .ref x1, .ref x2, .ref x3, .ref x4, .ref x5, .ref x6, .ref x7, .int (iI ((kt : Nat) : Int)), .int (iI ((k1 : Nat) : Int)), .int (iI ((k2 : Nat) : Int)), .int (iI ((k3 : Nat) : Int)), .int (iI ((k4 : Nat) : Int)), .int (iI ((k5 : Nat) : Int)), .ref y1, .ref y2, .ref y3, .ref y4, .ref y5, .ref y6, .ref y7, .int (iI ((ms : Nat) : Int)), .int (iI ((kw : Nat) : Int)), .int (iI ((kd : Nat) : Int)), .int (iI ((ma : Nat) : Int)), .int (iI (lk : Int))])), (x3, .inl (cI, 300, .inl g))] → va_S A s.heap H locs → lv_has ls 5 [(0, .ref hm), (1, .int (iI (1 : Int))), (2, .int (dg g k)), (3, .int (iI ((k : Nat) : Int)))] → W p l e rm_c_Mo_checkOf1 s m args below meth c H locs 0 0 Q (F0 m 4 ls []) := by
    intro fu
    induction fu with
    | zero => intro k H locs ls hfu; exact absurd hfu (Nat.not_lt_zero _)
    | succ fu ih4 =>
      intro k H locs ls hfu hk hP hD hS hl
      refine lv_iload_n hx hb dX5_checkOf_4 rfl (lv_at hl 3 rfl) ?_
      refine lv_aload_n hx hb dX5_checkOf_5 rfl (lv_at hl 0 rfl) ?_
      refine lv_iload_n hx hb dX5_checkOf_6 rfl (lv_at hl 1 rfl) ?_
      refine k_calli (wc := [(hm, .inr (5, [.int cd, .ref x1, .ref x2, .ref x3, .ref x4, .ref x5, .ref x6, .ref x7, .int (iI ((kt : Nat) : Int)), .int (iI ((k1 : Nat) : Int)), .int (iI ((k2 : Nat) : Int)), .int (iI ((k3 : Nat) : Int)), .int (iI ((k4 : Nat) : Int)), .int (iI ((k5 : Nat) : Int)), .ref y1, .ref y2, .ref y3, .ref y4, .ref y5, .ref y6, .ref y7, .int (iI ((ms : Nat) : Int)), .int (iI ((kw : Nat) : Int)), .int (iI ((kd : Nat) : Int)), .int (iI ((ma : Nat) : Int)), .int (iI (lk : Int))]))]) (wr := [(x3, .inl (cI, 300, .inl g))]) (wf := fun _ => [(hm, .inr (5, [.int cd, .ref x1, .ref x2, .ref x3, .ref x4, .ref x5, .ref x6, .ref x7, .int (iI ((kt : Nat) : Int)), .int (iI ((k1 : Nat) : Int)), .int (iI ((k2 : Nat) : Int)), .int (iI ((k3 : Nat) : Int)), .int (iI ((k4 : Nat) : Int)), .int (iI ((k5 : Nat) : Int)), .ref y1, .ref y2, .ref y3, .ref y4, .ref y5, .ref y6, .ref y7, .int (iI ((ms : Nat) : Int)), .int (iI ((kw : Nat) : Int)), .int (iI ((kd : Nat) : Int)), .int (iI ((ma : Nat) : Int)), .int (iI (lk : Int))])), (x3, .inl (cI, 300, .inl g))]) hK hP hD hS hA [0] [1] [1, 0] ⟨⟨rfl, rfl, by decide⟩, rfl, by decide, by decide⟩ (fun _ => ⟨rfl, rfl⟩) (by decide) (fun hPc hDc => va_runV (As := [.int (iI (1 : Int))]) (rest := [.int (iI ((k : Nat) : Int))]) ⟨hx, hb, hml, hown, hts⟩ (c_Mo_sizeOf1 l D cI cZ (hm := hm) (cd := cd) (x1 := x1) (x2 := x2) (x3 := x3) (x4 := x4) (x5 := x5) (x6 := x6) (x7 := x7) (kt := kt) (k1 := k1) (k2 := k2) (k3 := k3) (k4 := k4) (k5 := k5) (y1 := y1) (y2 := y2) (y3 := y3) (y4 := y4) (y5 := y5) (y6 := y6) (y7 := y7) (ms := ms) (kw := kw) (kd := kd) (ma := ma) (lk := lk)  _) (cwV 1 hts (kgV wm567 wm569 wm22 wm44 wmcX5_sizeOf) rfl rfl rfl (by decide +kernel) ⟨Nat.le_of_ble_eq_true rfl, Nat.le_of_ble_eq_true rfl⟩) (k_preV hK hPc hDc (ci := 5) (q0 := 0) rfl rfl) rfl rfl hl.1 rfl (lv_room (Nat.le_of_ble_eq_true rfl)) dX5_checkOf_7 ⟨Nat.le_of_ble_eq_true rfl, Nat.le_of_ble_eq_true rfl⟩) (fun r7 u H locs hw hP hD hS => ?_)
      have hP : va_P D vwCl [(hm, .inr (5, [.int cd, .ref x1, .ref x2, .ref x3, .ref x4, .ref x5, .ref x6, .ref x7, .int (iI ((kt : Nat) : Int)), .int (iI ((k1 : Nat) : Int)), .int (iI ((k2 : Nat) : Int)), .int (iI ((k3 : Nat) : Int)), .int (iI ((k4 : Nat) : Int)), .int (iI ((k5 : Nat) : Int)), .ref y1, .ref y2, .ref y3, .ref y4, .ref y5, .ref y6, .ref y7, .int (iI ((ms : Nat) : Int)), .int (iI ((kw : Nat) : Int)), .int (iI ((kd : Nat) : Int)), .int (iI ((ma : Nat) : Int)), .int (iI (lk : Int))])), (x3, .inl (cI, 300, .inl g))] H := hP
      have hD : va_D A [(hm, .inr (5, [.int cd, .ref x1, .ref x2, .ref x3, .ref x4, .ref x5, .ref x6, .ref x7, .int (iI ((kt : Nat) : Int)), .int (iI ((k1 : Nat) : Int)), .int (iI ((k2 : Nat) : Int)), .int (iI ((k3 : Nat) : Int)), .int (iI ((k4 : Nat) : Int)), .int (iI ((k5 : Nat) : Int)), .ref y1, .ref y2, .ref y3, .ref y4, .ref y5, .ref y6, .ref y7, .int (iI ((ms : Nat) : Int)), .int (iI ((kw : Nat) : Int)), .int (iI ((kd : Nat) : Int)), .int (iI ((ma : Nat) : Int)), .int (iI (lk : Int))])), (x3, .inl (cI, 300, .inl g))] := hD
      refine W.widen (k := 0) (n := 0) (Nat.le_of_ble_eq_true rfl) (Nat.le_of_ble_eq_true rfl) ?_
      have hw : r7 = iI ((k2 : Nat) : Int) := hw
      subst hw
      refine lv_icmp_ge (tgt := 43) hx hb dX5_checkOf_10 (by decide) (fun c10 => ?_) (fun c10 => ?_)
      · skip
        have c10 := iI_leT (a := ((k2 : Nat) : Int)) (b := ((k : Nat) : Int)) c10 (by omega)
        refine lv_iload_n hx hb dX5_checkOf_43 rfl (lv_at hl 2 rfl) ?_
        exact k_iret () hx hb hr hlocks hK hP hD hS [0, 1] (by decide) rfl rfl ((by rw [show k = k2 by omega])) hAe hQ dX5_checkOf_44
      · skip
        have c10 := iI_leF (a := ((k2 : Nat) : Int)) (b := ((k : Nat) : Int)) c10 (by omega)
        refine lv_iload_n hx hb dX5_checkOf_13 rfl (lv_at hl 2 rfl) ?_
        refine lv_aload_n hx hb dX5_checkOf_14 rfl (lv_at hl 0 rfl) ?_
        refine lv_iload_n hx hb dX5_checkOf_15 rfl (lv_at hl 1 rfl) ?_
        refine lv_iload_n hx hb dX5_checkOf_16 rfl (lv_at hl 3 rfl) ?_
        refine k_calli (wc := [(hm, .inr (5, [.int cd, .ref x1, .ref x2, .ref x3, .ref x4, .ref x5, .ref x6, .ref x7, .int (iI ((kt : Nat) : Int)), .int (iI ((k1 : Nat) : Int)), .int (iI ((k2 : Nat) : Int)), .int (iI ((k3 : Nat) : Int)), .int (iI ((k4 : Nat) : Int)), .int (iI ((k5 : Nat) : Int)), .ref y1, .ref y2, .ref y3, .ref y4, .ref y5, .ref y6, .ref y7, .int (iI ((ms : Nat) : Int)), .int (iI ((kw : Nat) : Int)), .int (iI ((kd : Nat) : Int)), .int (iI ((ma : Nat) : Int)), .int (iI (lk : Int))])), (x3, .inl (cI, 300, .inl g))]) (wr := []) (wf := fun _ => [(hm, .inr (5, [.int cd, .ref x1, .ref x2, .ref x3, .ref x4, .ref x5, .ref x6, .ref x7, .int (iI ((kt : Nat) : Int)), .int (iI ((k1 : Nat) : Int)), .int (iI ((k2 : Nat) : Int)), .int (iI ((k3 : Nat) : Int)), .int (iI ((k4 : Nat) : Int)), .int (iI ((k5 : Nat) : Int)), .ref y1, .ref y2, .ref y3, .ref y4, .ref y5, .ref y6, .ref y7, .int (iI ((ms : Nat) : Int)), .int (iI ((kw : Nat) : Int)), .int (iI ((kd : Nat) : Int)), .int (iI ((ma : Nat) : Int)), .int (iI (lk : Int))])), (x3, .inl (cI, 300, .inl g))]) hK hP hD hS hA [0, 1] [] [0, 1] ⟨⟨rfl, rfl, by decide⟩, rfl, by decide, by decide⟩ (fun _ => ⟨rfl, rfl⟩) (by decide) (fun hPc hDc => va_runV (As := [.int (iI (1 : Int)), .int (iI ((k : Nat) : Int))]) (rest := [.int (dg g k)]) ⟨hx, hb, hml, hown, hts⟩ (c_Mo_byteOf1 l D cI cZ (hm := hm) (cd := cd) (x1 := x1) (x2 := x2) (x3 := x3) (x4 := x4) (x5 := x5) (x6 := x6) (x7 := x7) (kt := kt) (k1 := k1) (k2 := k2) (k3 := k3) (k4 := k4) (k5 := k5) (y1 := y1) (y2 := y2) (y3 := y3) (y4 := y4) (y5 := y5) (y6 := y6) (y7 := y7) (ms := ms) (kw := kw) (kd := kd) (ma := ma) (lk := lk) (g := g) (i := k) (hi := by omega) _) (cwV 2 hts (kgV wm571 wm573 wm23 wm44 wmcX5_byteOf) rfl rfl rfl (by decide +kernel) ⟨Nat.le_of_ble_eq_true rfl, Nat.le_of_ble_eq_true rfl⟩) (k_preV hK hPc hDc (ci := 5) (q0 := 0) rfl rfl) rfl rfl hl.1 rfl (lv_room (Nat.le_of_ble_eq_true rfl)) dX5_checkOf_17 ⟨Nat.le_of_ble_eq_true rfl, Nat.le_of_ble_eq_true rfl⟩) (fun r17 u H locs hw hP hD hS => ?_)
        have hP : va_P D vwCl [(hm, .inr (5, [.int cd, .ref x1, .ref x2, .ref x3, .ref x4, .ref x5, .ref x6, .ref x7, .int (iI ((kt : Nat) : Int)), .int (iI ((k1 : Nat) : Int)), .int (iI ((k2 : Nat) : Int)), .int (iI ((k3 : Nat) : Int)), .int (iI ((k4 : Nat) : Int)), .int (iI ((k5 : Nat) : Int)), .ref y1, .ref y2, .ref y3, .ref y4, .ref y5, .ref y6, .ref y7, .int (iI ((ms : Nat) : Int)), .int (iI ((kw : Nat) : Int)), .int (iI ((kd : Nat) : Int)), .int (iI ((ma : Nat) : Int)), .int (iI (lk : Int))])), (x3, .inl (cI, 300, .inl g))] H := hP
        have hD : va_D A [(hm, .inr (5, [.int cd, .ref x1, .ref x2, .ref x3, .ref x4, .ref x5, .ref x6, .ref x7, .int (iI ((kt : Nat) : Int)), .int (iI ((k1 : Nat) : Int)), .int (iI ((k2 : Nat) : Int)), .int (iI ((k3 : Nat) : Int)), .int (iI ((k4 : Nat) : Int)), .int (iI ((k5 : Nat) : Int)), .ref y1, .ref y2, .ref y3, .ref y4, .ref y5, .ref y6, .ref y7, .int (iI ((ms : Nat) : Int)), .int (iI ((kw : Nat) : Int)), .int (iI ((kd : Nat) : Int)), .int (iI ((ma : Nat) : Int)), .int (iI (lk : Int))])), (x3, .inl (cI, 300, .inl g))] := hD
        refine W.widen (k := 0) (n := 0) (Nat.le_of_ble_eq_true rfl) (Nat.le_of_ble_eq_true rfl) ?_
        have hw : r17 = (g k) := hw
        subst hw
        refine lv_ixor hx hb dX5_checkOf_20 ?_
        refine lv_istore (lv' := [(4, .int (((dg g k)) ^^^ ((g k)))), (0, .ref hm), (1, .int (iI (1 : Int))), (2, .int (dg g k)), (3, .int (iI ((k : Nat) : Int)))]) hx hb dX5_checkOf_21 hl (by decide) rfl (fun ls hl => ?_)
        refine lv_iload hx hb dX5_checkOf_23 (lv_at hl 0 rfl) ?_
        refine lv_iconst (v := iI (5 : Int)) hx hb dX5_checkOf_25 rfl ?_
        refine lv_ishl hx hb dX5_checkOf_26 ?_
        refine lv_iload hx hb dX5_checkOf_27 (lv_at hl 0 rfl) ?_
        refine lv_bipush (v := iI (27 : Int)) hx hb dX5_checkOf_29 (by decide) ?_
        refine lv_iushr hx hb dX5_checkOf_31 rfl ?_
        refine lv_ior hx hb dX5_checkOf_32 ?_
        refine lv_ldc (v := (-2048144777)) hx hb hown (hts _ (km wm587)) dX5_checkOf_33 ?_
        refine lv_imul hx hb dX5_checkOf_35 ?_
        refine kn_i (y := (dg g (k + 1))) (rfl) ?_
        refine lv_istore_n (lv' := [(2, .int (dg g (k + 1))), (4, .int (((dg g k)) ^^^ ((g k)))), (0, .ref hm), (1, .int (iI (1 : Int))), (3, .int (iI ((k : Nat) : Int)))]) hx hb dX5_checkOf_36 rfl hl (by decide) rfl (fun ls hl => ?_)
        refine lv_iinc (v := iI ((k + 1 : Nat) : Int)) (lv' := [(3, .int (iI ((k + 1 : Nat) : Int))), (2, .int (dg g (k + 1))), (4, .int (((dg g k)) ^^^ ((g k)))), (0, .ref hm), (1, .int (iI (1 : Int)))]) hx hb dX5_checkOf_37 hl (k := 4) rfl (iA (by omega)) (by decide) rfl (fun ls hl => ?_)
        refine lv_goto (tgt := 4) hx hb dX5_checkOf_40 (by decide) ?_
        exact ih4 (k + 1) _ _ _ (by omega) (by omega) hP hD hS (lv_sub hl [3, 4, 1, 0] rfl)
  exact lp4 _ 0 _ _ _ (Nat.lt_succ_self _) (by omega) hP hD hS (lv_sub hl [2, 3, 1, 0] rfl)

abbrev rm_c_Mo_checkOf2 : Room := { frames := 1, cells := 0, slots := 0, locals := 22 }
set_option maxHeartbeats 4000000 in
set_option maxRecDepth 100000 in
theorem c_Mo_checkOf2 (l : Launch) (D : va_G) (cI cZ : ClassId) (hm : Nat) (cd : Int32) (x1 : Nat) (x2 : Nat) (x3 : Nat) (x4 : Nat) (x5 : Nat) (x6 : Nat) (x7 : Nat) (kt : Nat) (k1 : Nat) (k2 : Nat) (k3 : Nat) (k4 : Nat) (k5 : Nat) (y1 : Nat) (y2 : Nat) (y3 : Nat) (y4 : Nat) (y5 : Nat) (y6 : Nat) (y7 : Nat) (ms : Nat) (kw : Nat) (kd : Nat) (ma : Nat) (lk : Int) (g : Nat → Int32) (hk3 : k3 ≤ 900) : MI l yX5_checkOf wsX5_checkOf rm_c_Mo_checkOf2 D (kT cI cZ) [.ref hm, .int (iI (2 : Int))] [(hm, .inr (5, [.int cd, .ref x1, .ref x2, .ref x3, .ref x4, .ref x5, .ref x6, .ref x7, .int (iI ((kt : Nat) : Int)), .int (iI ((k1 : Nat) : Int)), .int (iI ((k2 : Nat) : Int)), .int (iI ((k3 : Nat) : Int)), .int (iI ((k4 : Nat) : Int)), .int (iI ((k5 : Nat) : Int)), .ref y1, .ref y2, .ref y3, .ref y4, .ref y5, .ref y6, .ref y7, .int (iI ((ms : Nat) : Int)), .int (iI ((kw : Nat) : Int)), .int (iI ((kd : Nat) : Int)), .int (iI ((ma : Nat) : Int)), .int (iI (lk : Int))])), (x4, .inl (cI, 900, .inl g))] (fun (r : Int32) (_ : Unit) => r = (dg g k3)) (fun (u : Unit) => match u with | _ => [(hm, .inr (5, [.int cd, .ref x1, .ref x2, .ref x3, .ref x4, .ref x5, .ref x6, .ref x7, .int (iI ((kt : Nat) : Int)), .int (iI ((k1 : Nat) : Int)), .int (iI ((k2 : Nat) : Int)), .int (iI ((k3 : Nat) : Int)), .int (iI ((k4 : Nat) : Int)), .int (iI ((k5 : Nat) : Int)), .ref y1, .ref y2, .ref y3, .ref y4, .ref y5, .ref y6, .ref y7, .int (iI ((ms : Nat) : Int)), .int (iI ((kw : Nat) : Int)), .int (iI ((kd : Nat) : Int)), .int (iI ((ma : Nat) : Int)), .int (iI (lk : Int))])), (x4, .inl (cI, 900, .inl g))]) 0 0 := by
  intro sz
  refine k_of (cc := cX5_checkOf) (maxL := 5) (ret := (some .int)) (by decide) rfl (Nat.le_of_ble_eq_true rfl) ?_
  intro p e s m args below meth c A Q hAe hQ hx hb hr hml hts hown hlocks hnm hP hK hD hS hA ls hl
  have hl : lv_has ls 5 [(0, .ref hm), (1, .int (iI (2 : Int)))] := hl
  refine lv_iconst (v := iI (0 : Int)) hx hb dX5_checkOf_0 rfl ?_
  refine lv_istore_n (lv' := [(2, .int (iI (0 : Int))), (0, .ref hm), (1, .int (iI (2 : Int)))]) hx hb dX5_checkOf_1 rfl hl (by decide) rfl (fun ls hl => ?_)
  refine lv_iconst (v := iI ((0 : Nat) : Int)) hx hb dX5_checkOf_2 rfl ?_
  refine lv_istore_n (lv' := [(3, .int (iI ((0 : Nat) : Int))), (2, .int (iI (0 : Int))), (0, .ref hm), (1, .int (iI (2 : Int)))]) hx hb dX5_checkOf_3 rfl hl (by decide) rfl (fun ls hl => ?_)
  have lp4 : ∀ (fu : Nat) (k : Nat) (H : Heap) (locs : List Loc) (ls : Array Slot), k3 - k < fu → (k ≤ k3) → va_P D vwCl [(hm, .inr (5, [.int cd, .ref x1, .ref x2, .ref x3, .ref x4, .ref x5, .ref x6, .ref x7, .int (iI ((kt : Nat) : Int)), .int (iI ((k1 : Nat) : Int)), .int (iI ((k2 : Nat) : Int)), .int (iI ((k3 : Nat) : Int)), .int (iI ((k4 : Nat) : Int)), .int (iI ((k5 : Nat) : Int)), .ref y1, .ref y2, .ref y3, .ref y4, .ref y5, .ref y6, .ref y7, .int (iI ((ms : Nat) : Int)), .int (iI ((kw : Nat) : Int)), .int (iI ((kd : Nat) : Int)), .int (iI ((ma : Nat) : Int)), .int (iI (lk : Int))])), (x4, .inl (cI, 900, .inl g))] H → va_D A [(hm, .inr (5, [.int cd, .ref x1, .ref x2, .ref x3, .ref x4, .ref x5, .ref x6, .ref x7, .int (iI ((kt : Nat) : Int)), .int (iI ((k1 : Nat) : Int)), .int (iI ((k2 : Nat) : Int)), .int (iI ((k3 : Nat) : Int)), .int (iI ((k4 : Nat) : Int)), .int (iI ((k5 : Nat) : Int)), .ref y1, .ref y2, .ref y3, .ref y4, .ref y5, .ref y6, .ref y7, .int (iI ((ms : Nat) : Int)), .int (iI ((kw : Nat) : Int)), .int (iI ((kd : Nat) : Int)), .int (iI ((ma : Nat) : Int)), .int (iI (lk : Int))])), (x4, .inl (cI, 900, .inl g))] → va_S A s.heap H locs → lv_has ls 5 [(0, .ref hm), (1, .int (iI (2 : Int))), (2, .int (dg g k)), (3, .int (iI ((k : Nat) : Int)))] → W p l e rm_c_Mo_checkOf2 s m args below meth c H locs 0 0 Q (F0 m 4 ls []) := by
    intro fu
    induction fu with
    | zero => intro k H locs ls hfu; exact absurd hfu (Nat.not_lt_zero _)
    | succ fu ih4 =>
      intro k H locs ls hfu hk hP hD hS hl
      refine lv_iload_n hx hb dX5_checkOf_4 rfl (lv_at hl 3 rfl) ?_
      refine lv_aload_n hx hb dX5_checkOf_5 rfl (lv_at hl 0 rfl) ?_
      refine lv_iload_n hx hb dX5_checkOf_6 rfl (lv_at hl 1 rfl) ?_
      refine k_calli (wc := [(hm, .inr (5, [.int cd, .ref x1, .ref x2, .ref x3, .ref x4, .ref x5, .ref x6, .ref x7, .int (iI ((kt : Nat) : Int)), .int (iI ((k1 : Nat) : Int)), .int (iI ((k2 : Nat) : Int)), .int (iI ((k3 : Nat) : Int)), .int (iI ((k4 : Nat) : Int)), .int (iI ((k5 : Nat) : Int)), .ref y1, .ref y2, .ref y3, .ref y4, .ref y5, .ref y6, .ref y7, .int (iI ((ms : Nat) : Int)), .int (iI ((kw : Nat) : Int)), .int (iI ((kd : Nat) : Int)), .int (iI ((ma : Nat) : Int)), .int (iI (lk : Int))]))]) (wr := [(x4, .inl (cI, 900, .inl g))]) (wf := fun _ => [(hm, .inr (5, [.int cd, .ref x1, .ref x2, .ref x3, .ref x4, .ref x5, .ref x6, .ref x7, .int (iI ((kt : Nat) : Int)), .int (iI ((k1 : Nat) : Int)), .int (iI ((k2 : Nat) : Int)), .int (iI ((k3 : Nat) : Int)), .int (iI ((k4 : Nat) : Int)), .int (iI ((k5 : Nat) : Int)), .ref y1, .ref y2, .ref y3, .ref y4, .ref y5, .ref y6, .ref y7, .int (iI ((ms : Nat) : Int)), .int (iI ((kw : Nat) : Int)), .int (iI ((kd : Nat) : Int)), .int (iI ((ma : Nat) : Int)), .int (iI (lk : Int))])), (x4, .inl (cI, 900, .inl g))]) hK hP hD hS hA [0] [1] [1, 0] ⟨⟨rfl, rfl, by decide⟩, rfl, by decide, by decide⟩ (fun _ => ⟨rfl, rfl⟩) (by decide) (fun hPc hDc => va_runV (As := [.int (iI (2 : Int))]) (rest := [.int (iI ((k : Nat) : Int))]) ⟨hx, hb, hml, hown, hts⟩ (c_Mo_sizeOf2 l D cI cZ (hm := hm) (cd := cd) (x1 := x1) (x2 := x2) (x3 := x3) (x4 := x4) (x5 := x5) (x6 := x6) (x7 := x7) (kt := kt) (k1 := k1) (k2 := k2) (k3 := k3) (k4 := k4) (k5 := k5) (y1 := y1) (y2 := y2) (y3 := y3) (y4 := y4) (y5 := y5) (y6 := y6) (y7 := y7) (ms := ms) (kw := kw) (kd := kd) (ma := ma) (lk := lk)  _) (cwV 1 hts (kgV wm567 wm569 wm22 wm44 wmcX5_sizeOf) rfl rfl rfl (by decide +kernel) ⟨Nat.le_of_ble_eq_true rfl, Nat.le_of_ble_eq_true rfl⟩) (k_preV hK hPc hDc (ci := 5) (q0 := 0) rfl rfl) rfl rfl hl.1 rfl (lv_room (Nat.le_of_ble_eq_true rfl)) dX5_checkOf_7 ⟨Nat.le_of_ble_eq_true rfl, Nat.le_of_ble_eq_true rfl⟩) (fun r7 u H locs hw hP hD hS => ?_)
      have hP : va_P D vwCl [(hm, .inr (5, [.int cd, .ref x1, .ref x2, .ref x3, .ref x4, .ref x5, .ref x6, .ref x7, .int (iI ((kt : Nat) : Int)), .int (iI ((k1 : Nat) : Int)), .int (iI ((k2 : Nat) : Int)), .int (iI ((k3 : Nat) : Int)), .int (iI ((k4 : Nat) : Int)), .int (iI ((k5 : Nat) : Int)), .ref y1, .ref y2, .ref y3, .ref y4, .ref y5, .ref y6, .ref y7, .int (iI ((ms : Nat) : Int)), .int (iI ((kw : Nat) : Int)), .int (iI ((kd : Nat) : Int)), .int (iI ((ma : Nat) : Int)), .int (iI (lk : Int))])), (x4, .inl (cI, 900, .inl g))] H := hP
      have hD : va_D A [(hm, .inr (5, [.int cd, .ref x1, .ref x2, .ref x3, .ref x4, .ref x5, .ref x6, .ref x7, .int (iI ((kt : Nat) : Int)), .int (iI ((k1 : Nat) : Int)), .int (iI ((k2 : Nat) : Int)), .int (iI ((k3 : Nat) : Int)), .int (iI ((k4 : Nat) : Int)), .int (iI ((k5 : Nat) : Int)), .ref y1, .ref y2, .ref y3, .ref y4, .ref y5, .ref y6, .ref y7, .int (iI ((ms : Nat) : Int)), .int (iI ((kw : Nat) : Int)), .int (iI ((kd : Nat) : Int)), .int (iI ((ma : Nat) : Int)), .int (iI (lk : Int))])), (x4, .inl (cI, 900, .inl g))] := hD
      refine W.widen (k := 0) (n := 0) (Nat.le_of_ble_eq_true rfl) (Nat.le_of_ble_eq_true rfl) ?_
      have hw : r7 = iI ((k3 : Nat) : Int) := hw
      subst hw
      refine lv_icmp_ge (tgt := 43) hx hb dX5_checkOf_10 (by decide) (fun c10 => ?_) (fun c10 => ?_)
      · skip
        have c10 := iI_leT (a := ((k3 : Nat) : Int)) (b := ((k : Nat) : Int)) c10 (by omega)
        refine lv_iload_n hx hb dX5_checkOf_43 rfl (lv_at hl 2 rfl) ?_
        exact k_iret () hx hb hr hlocks hK hP hD hS [0, 1] (by decide) rfl rfl ((by rw [show k = k3 by omega])) hAe hQ dX5_checkOf_44
      · skip
        have c10 := iI_leF (a := ((k3 : Nat) : Int)) (b := ((k : Nat) : Int)) c10 (by omega)
        refine lv_iload_n hx hb dX5_checkOf_13 rfl (lv_at hl 2 rfl) ?_
        refine lv_aload_n hx hb dX5_checkOf_14 rfl (lv_at hl 0 rfl) ?_
        refine lv_iload_n hx hb dX5_checkOf_15 rfl (lv_at hl 1 rfl) ?_
        refine lv_iload_n hx hb dX5_checkOf_16 rfl (lv_at hl 3 rfl) ?_
        refine k_calli (wc := [(hm, .inr (5, [.int cd, .ref x1, .ref x2, .ref x3, .ref x4, .ref x5, .ref x6, .ref x7, .int (iI ((kt : Nat) : Int)), .int (iI ((k1 : Nat) : Int)), .int (iI ((k2 : Nat) : Int)), .int (iI ((k3 : Nat) : Int)), .int (iI ((k4 : Nat) : Int)), .int (iI ((k5 : Nat) : Int)), .ref y1, .ref y2, .ref y3, .ref y4, .ref y5, .ref y6, .ref y7, .int (iI ((ms : Nat) : Int)), .int (iI ((kw : Nat) : Int)), .int (iI ((kd : Nat) : Int)), .int (iI ((ma : Nat) : Int)), .int (iI (lk : Int))])), (x4, .inl (cI, 900, .inl g))]) (wr := []) (wf := fun _ => [(hm, .inr (5, [.int cd, .ref x1, .ref x2, .ref x3, .ref x4, .ref x5, .ref x6, .ref x7, .int (iI ((kt : Nat) : Int)), .int (iI ((k1 : Nat) : Int)), .int (iI ((k2 : Nat) : Int)), .int (iI ((k3 : Nat) : Int)), .int (iI ((k4 : Nat) : Int)), .int (iI ((k5 : Nat) : Int)), .ref y1, .ref y2, .ref y3, .ref y4, .ref y5, .ref y6, .ref y7, .int (iI ((ms : Nat) : Int)), .int (iI ((kw : Nat) : Int)), .int (iI ((kd : Nat) : Int)), .int (iI ((ma : Nat) : Int)), .int (iI (lk : Int))])), (x4, .inl (cI, 900, .inl g))]) hK hP hD hS hA [0, 1] [] [0, 1] ⟨⟨rfl, rfl, by decide⟩, rfl, by decide, by decide⟩ (fun _ => ⟨rfl, rfl⟩) (by decide) (fun hPc hDc => va_runV (As := [.int (iI (2 : Int)), .int (iI ((k : Nat) : Int))]) (rest := [.int (dg g k)]) ⟨hx, hb, hml, hown, hts⟩ (c_Mo_byteOf2 l D cI cZ (hm := hm) (cd := cd) (x1 := x1) (x2 := x2) (x3 := x3) (x4 := x4) (x5 := x5) (x6 := x6) (x7 := x7) (kt := kt) (k1 := k1) (k2 := k2) (k3 := k3) (k4 := k4) (k5 := k5) (y1 := y1) (y2 := y2) (y3 := y3) (y4 := y4) (y5 := y5) (y6 := y6) (y7 := y7) (ms := ms) (kw := kw) (kd := kd) (ma := ma) (lk := lk) (g := g) (i := k) (hi := by omega) _) (cwV 2 hts (kgV wm571 wm573 wm23 wm44 wmcX5_byteOf) rfl rfl rfl (by decide +kernel) ⟨Nat.le_of_ble_eq_true rfl, Nat.le_of_ble_eq_true rfl⟩) (k_preV hK hPc hDc (ci := 5) (q0 := 0) rfl rfl) rfl rfl hl.1 rfl (lv_room (Nat.le_of_ble_eq_true rfl)) dX5_checkOf_17 ⟨Nat.le_of_ble_eq_true rfl, Nat.le_of_ble_eq_true rfl⟩) (fun r17 u H locs hw hP hD hS => ?_)
        have hP : va_P D vwCl [(hm, .inr (5, [.int cd, .ref x1, .ref x2, .ref x3, .ref x4, .ref x5, .ref x6, .ref x7, .int (iI ((kt : Nat) : Int)), .int (iI ((k1 : Nat) : Int)), .int (iI ((k2 : Nat) : Int)), .int (iI ((k3 : Nat) : Int)), .int (iI ((k4 : Nat) : Int)), .int (iI ((k5 : Nat) : Int)), .ref y1, .ref y2, .ref y3, .ref y4, .ref y5, .ref y6, .ref y7, .int (iI ((ms : Nat) : Int)), .int (iI ((kw : Nat) : Int)), .int (iI ((kd : Nat) : Int)), .int (iI ((ma : Nat) : Int)), .int (iI (lk : Int))])), (x4, .inl (cI, 900, .inl g))] H := hP
        have hD : va_D A [(hm, .inr (5, [.int cd, .ref x1, .ref x2, .ref x3, .ref x4, .ref x5, .ref x6, .ref x7, .int (iI ((kt : Nat) : Int)), .int (iI ((k1 : Nat) : Int)), .int (iI ((k2 : Nat) : Int)), .int (iI ((k3 : Nat) : Int)), .int (iI ((k4 : Nat) : Int)), .int (iI ((k5 : Nat) : Int)), .ref y1, .ref y2, .ref y3, .ref y4, .ref y5, .ref y6, .ref y7, .int (iI ((ms : Nat) : Int)), .int (iI ((kw : Nat) : Int)), .int (iI ((kd : Nat) : Int)), .int (iI ((ma : Nat) : Int)), .int (iI (lk : Int))])), (x4, .inl (cI, 900, .inl g))] := hD
        refine W.widen (k := 0) (n := 0) (Nat.le_of_ble_eq_true rfl) (Nat.le_of_ble_eq_true rfl) ?_
        have hw : r17 = (g k) := hw
        subst hw
        refine lv_ixor hx hb dX5_checkOf_20 ?_
        refine lv_istore (lv' := [(4, .int (((dg g k)) ^^^ ((g k)))), (0, .ref hm), (1, .int (iI (2 : Int))), (2, .int (dg g k)), (3, .int (iI ((k : Nat) : Int)))]) hx hb dX5_checkOf_21 hl (by decide) rfl (fun ls hl => ?_)
        refine lv_iload hx hb dX5_checkOf_23 (lv_at hl 0 rfl) ?_
        refine lv_iconst (v := iI (5 : Int)) hx hb dX5_checkOf_25 rfl ?_
        refine lv_ishl hx hb dX5_checkOf_26 ?_
        refine lv_iload hx hb dX5_checkOf_27 (lv_at hl 0 rfl) ?_
        refine lv_bipush (v := iI (27 : Int)) hx hb dX5_checkOf_29 (by decide) ?_
        refine lv_iushr hx hb dX5_checkOf_31 rfl ?_
        refine lv_ior hx hb dX5_checkOf_32 ?_
        refine lv_ldc (v := (-2048144777)) hx hb hown (hts _ (km wm587)) dX5_checkOf_33 ?_
        refine lv_imul hx hb dX5_checkOf_35 ?_
        refine kn_i (y := (dg g (k + 1))) (rfl) ?_
        refine lv_istore_n (lv' := [(2, .int (dg g (k + 1))), (4, .int (((dg g k)) ^^^ ((g k)))), (0, .ref hm), (1, .int (iI (2 : Int))), (3, .int (iI ((k : Nat) : Int)))]) hx hb dX5_checkOf_36 rfl hl (by decide) rfl (fun ls hl => ?_)
        refine lv_iinc (v := iI ((k + 1 : Nat) : Int)) (lv' := [(3, .int (iI ((k + 1 : Nat) : Int))), (2, .int (dg g (k + 1))), (4, .int (((dg g k)) ^^^ ((g k)))), (0, .ref hm), (1, .int (iI (2 : Int)))]) hx hb dX5_checkOf_37 hl (k := 4) rfl (iA (by omega)) (by decide) rfl (fun ls hl => ?_)
        refine lv_goto (tgt := 4) hx hb dX5_checkOf_40 (by decide) ?_
        exact ih4 (k + 1) _ _ _ (by omega) (by omega) hP hD hS (lv_sub hl [3, 4, 1, 0] rfl)
  exact lp4 _ 0 _ _ _ (Nat.lt_succ_self _) (by omega) hP hD hS (lv_sub hl [2, 3, 1, 0] rfl)

abbrev rm_c_Mo_checkOf3 : Room := { frames := 1, cells := 0, slots := 0, locals := 22 }
set_option maxHeartbeats 4000000 in
set_option maxRecDepth 100000 in
theorem c_Mo_checkOf3 (l : Launch) (D : va_G) (cI cZ : ClassId) (hm : Nat) (cd : Int32) (x1 : Nat) (x2 : Nat) (x3 : Nat) (x4 : Nat) (x5 : Nat) (x6 : Nat) (x7 : Nat) (kt : Nat) (k1 : Nat) (k2 : Nat) (k3 : Nat) (k4 : Nat) (k5 : Nat) (y1 : Nat) (y2 : Nat) (y3 : Nat) (y4 : Nat) (y5 : Nat) (y6 : Nat) (y7 : Nat) (ms : Nat) (kw : Nat) (kd : Nat) (ma : Nat) (lk : Int) (g : Nat → Int32) (hk4 : k4 ≤ 300) : MI l yX5_checkOf wsX5_checkOf rm_c_Mo_checkOf3 D (kT cI cZ) [.ref hm, .int (iI (3 : Int))] [(hm, .inr (5, [.int cd, .ref x1, .ref x2, .ref x3, .ref x4, .ref x5, .ref x6, .ref x7, .int (iI ((kt : Nat) : Int)), .int (iI ((k1 : Nat) : Int)), .int (iI ((k2 : Nat) : Int)), .int (iI ((k3 : Nat) : Int)), .int (iI ((k4 : Nat) : Int)), .int (iI ((k5 : Nat) : Int)), .ref y1, .ref y2, .ref y3, .ref y4, .ref y5, .ref y6, .ref y7, .int (iI ((ms : Nat) : Int)), .int (iI ((kw : Nat) : Int)), .int (iI ((kd : Nat) : Int)), .int (iI ((ma : Nat) : Int)), .int (iI (lk : Int))])), (x5, .inl (cI, 300, .inl g))] (fun (r : Int32) (_ : Unit) => r = (dg g k4)) (fun (u : Unit) => match u with | _ => [(hm, .inr (5, [.int cd, .ref x1, .ref x2, .ref x3, .ref x4, .ref x5, .ref x6, .ref x7, .int (iI ((kt : Nat) : Int)), .int (iI ((k1 : Nat) : Int)), .int (iI ((k2 : Nat) : Int)), .int (iI ((k3 : Nat) : Int)), .int (iI ((k4 : Nat) : Int)), .int (iI ((k5 : Nat) : Int)), .ref y1, .ref y2, .ref y3, .ref y4, .ref y5, .ref y6, .ref y7, .int (iI ((ms : Nat) : Int)), .int (iI ((kw : Nat) : Int)), .int (iI ((kd : Nat) : Int)), .int (iI ((ma : Nat) : Int)), .int (iI (lk : Int))])), (x5, .inl (cI, 300, .inl g))]) 0 0 := by
  intro sz
  refine k_of (cc := cX5_checkOf) (maxL := 5) (ret := (some .int)) (by decide) rfl (Nat.le_of_ble_eq_true rfl) ?_
  intro p e s m args below meth c A Q hAe hQ hx hb hr hml hts hown hlocks hnm hP hK hD hS hA ls hl
  have hl : lv_has ls 5 [(0, .ref hm), (1, .int (iI (3 : Int)))] := hl
  refine lv_iconst (v := iI (0 : Int)) hx hb dX5_checkOf_0 rfl ?_
  refine lv_istore_n (lv' := [(2, .int (iI (0 : Int))), (0, .ref hm), (1, .int (iI (3 : Int)))]) hx hb dX5_checkOf_1 rfl hl (by decide) rfl (fun ls hl => ?_)
  refine lv_iconst (v := iI ((0 : Nat) : Int)) hx hb dX5_checkOf_2 rfl ?_
  refine lv_istore_n (lv' := [(3, .int (iI ((0 : Nat) : Int))), (2, .int (iI (0 : Int))), (0, .ref hm), (1, .int (iI (3 : Int)))]) hx hb dX5_checkOf_3 rfl hl (by decide) rfl (fun ls hl => ?_)
  have lp4 : ∀ (fu : Nat) (k : Nat) (H : Heap) (locs : List Loc) (ls : Array Slot), k4 - k < fu → (k ≤ k4) → va_P D vwCl [(hm, .inr (5, [.int cd, .ref x1, .ref x2, .ref x3, .ref x4, .ref x5, .ref x6, .ref x7, .int (iI ((kt : Nat) : Int)), .int (iI ((k1 : Nat) : Int)), .int (iI ((k2 : Nat) : Int)), .int (iI ((k3 : Nat) : Int)), .int (iI ((k4 : Nat) : Int)), .int (iI ((k5 : Nat) : Int)), .ref y1, .ref y2, .ref y3, .ref y4, .ref y5, .ref y6, .ref y7, .int (iI ((ms : Nat) : Int)), .int (iI ((kw : Nat) : Int)), .int (iI ((kd : Nat) : Int)), .int (iI ((ma : Nat) : Int)), .int (iI (lk : Int))])), (x5, .inl (cI, 300, .inl g))] H → va_D A [(hm, .inr (5, [.int cd, .ref x1, .ref x2, .ref x3, .ref x4, .ref x5, .ref x6, .ref x7, .int (iI ((kt : Nat) : Int)), .int (iI ((k1 : Nat) : Int)), .int (iI ((k2 : Nat) : Int)), .int (iI ((k3 : Nat) : Int)), .int (iI ((k4 : Nat) : Int)), .int (iI ((k5 : Nat) : Int)), .ref y1, .ref y2, .ref y3, .ref y4, .ref y5, .ref y6, .ref y7, .int (iI ((ms : Nat) : Int)), .int (iI ((kw : Nat) : Int)), .int (iI ((kd : Nat) : Int)), .int (iI ((ma : Nat) : Int)), .int (iI (lk : Int))])), (x5, .inl (cI, 300, .inl g))] → va_S A s.heap H locs → lv_has ls 5 [(0, .ref hm), (1, .int (iI (3 : Int))), (2, .int (dg g k)), (3, .int (iI ((k : Nat) : Int)))] → W p l e rm_c_Mo_checkOf3 s m args below meth c H locs 0 0 Q (F0 m 4 ls []) := by
    intro fu
    induction fu with
    | zero => intro k H locs ls hfu; exact absurd hfu (Nat.not_lt_zero _)
    | succ fu ih4 =>
      intro k H locs ls hfu hk hP hD hS hl
      refine lv_iload_n hx hb dX5_checkOf_4 rfl (lv_at hl 3 rfl) ?_
      refine lv_aload_n hx hb dX5_checkOf_5 rfl (lv_at hl 0 rfl) ?_
      refine lv_iload_n hx hb dX5_checkOf_6 rfl (lv_at hl 1 rfl) ?_
      refine k_calli (wc := [(hm, .inr (5, [.int cd, .ref x1, .ref x2, .ref x3, .ref x4, .ref x5, .ref x6, .ref x7, .int (iI ((kt : Nat) : Int)), .int (iI ((k1 : Nat) : Int)), .int (iI ((k2 : Nat) : Int)), .int (iI ((k3 : Nat) : Int)), .int (iI ((k4 : Nat) : Int)), .int (iI ((k5 : Nat) : Int)), .ref y1, .ref y2, .ref y3, .ref y4, .ref y5, .ref y6, .ref y7, .int (iI ((ms : Nat) : Int)), .int (iI ((kw : Nat) : Int)), .int (iI ((kd : Nat) : Int)), .int (iI ((ma : Nat) : Int)), .int (iI (lk : Int))]))]) (wr := [(x5, .inl (cI, 300, .inl g))]) (wf := fun _ => [(hm, .inr (5, [.int cd, .ref x1, .ref x2, .ref x3, .ref x4, .ref x5, .ref x6, .ref x7, .int (iI ((kt : Nat) : Int)), .int (iI ((k1 : Nat) : Int)), .int (iI ((k2 : Nat) : Int)), .int (iI ((k3 : Nat) : Int)), .int (iI ((k4 : Nat) : Int)), .int (iI ((k5 : Nat) : Int)), .ref y1, .ref y2, .ref y3, .ref y4, .ref y5, .ref y6, .ref y7, .int (iI ((ms : Nat) : Int)), .int (iI ((kw : Nat) : Int)), .int (iI ((kd : Nat) : Int)), .int (iI ((ma : Nat) : Int)), .int (iI (lk : Int))])), (x5, .inl (cI, 300, .inl g))]) hK hP hD hS hA [0] [1] [1, 0] ⟨⟨rfl, rfl, by decide⟩, rfl, by decide, by decide⟩ (fun _ => ⟨rfl, rfl⟩) (by decide) (fun hPc hDc => va_runV (As := [.int (iI (3 : Int))]) (rest := [.int (iI ((k : Nat) : Int))]) ⟨hx, hb, hml, hown, hts⟩ (c_Mo_sizeOf3 l D cI cZ (hm := hm) (cd := cd) (x1 := x1) (x2 := x2) (x3 := x3) (x4 := x4) (x5 := x5) (x6 := x6) (x7 := x7) (kt := kt) (k1 := k1) (k2 := k2) (k3 := k3) (k4 := k4) (k5 := k5) (y1 := y1) (y2 := y2) (y3 := y3) (y4 := y4) (y5 := y5) (y6 := y6) (y7 := y7) (ms := ms) (kw := kw) (kd := kd) (ma := ma) (lk := lk)  _) (cwV 1 hts (kgV wm567 wm569 wm22 wm44 wmcX5_sizeOf) rfl rfl rfl (by decide +kernel) ⟨Nat.le_of_ble_eq_true rfl, Nat.le_of_ble_eq_true rfl⟩) (k_preV hK hPc hDc (ci := 5) (q0 := 0) rfl rfl) rfl rfl hl.1 rfl (lv_room (Nat.le_of_ble_eq_true rfl)) dX5_checkOf_7 ⟨Nat.le_of_ble_eq_true rfl, Nat.le_of_ble_eq_true rfl⟩) (fun r7 u H locs hw hP hD hS => ?_)
      have hP : va_P D vwCl [(hm, .inr (5, [.int cd, .ref x1, .ref x2, .ref x3, .ref x4, .ref x5, .ref x6, .ref x7, .int (iI ((kt : Nat) : Int)), .int (iI ((k1 : Nat) : Int)), .int (iI ((k2 : Nat) : Int)), .int (iI ((k3 : Nat) : Int)), .int (iI ((k4 : Nat) : Int)), .int (iI ((k5 : Nat) : Int)), .ref y1, .ref y2, .ref y3, .ref y4, .ref y5, .ref y6, .ref y7, .int (iI ((ms : Nat) : Int)), .int (iI ((kw : Nat) : Int)), .int (iI ((kd : Nat) : Int)), .int (iI ((ma : Nat) : Int)), .int (iI (lk : Int))])), (x5, .inl (cI, 300, .inl g))] H := hP
      have hD : va_D A [(hm, .inr (5, [.int cd, .ref x1, .ref x2, .ref x3, .ref x4, .ref x5, .ref x6, .ref x7, .int (iI ((kt : Nat) : Int)), .int (iI ((k1 : Nat) : Int)), .int (iI ((k2 : Nat) : Int)), .int (iI ((k3 : Nat) : Int)), .int (iI ((k4 : Nat) : Int)), .int (iI ((k5 : Nat) : Int)), .ref y1, .ref y2, .ref y3, .ref y4, .ref y5, .ref y6, .ref y7, .int (iI ((ms : Nat) : Int)), .int (iI ((kw : Nat) : Int)), .int (iI ((kd : Nat) : Int)), .int (iI ((ma : Nat) : Int)), .int (iI (lk : Int))])), (x5, .inl (cI, 300, .inl g))] := hD
      refine W.widen (k := 0) (n := 0) (Nat.le_of_ble_eq_true rfl) (Nat.le_of_ble_eq_true rfl) ?_
      have hw : r7 = iI ((k4 : Nat) : Int) := hw
      subst hw
      refine lv_icmp_ge (tgt := 43) hx hb dX5_checkOf_10 (by decide) (fun c10 => ?_) (fun c10 => ?_)
      · skip
        have c10 := iI_leT (a := ((k4 : Nat) : Int)) (b := ((k : Nat) : Int)) c10 (by omega)
        refine lv_iload_n hx hb dX5_checkOf_43 rfl (lv_at hl 2 rfl) ?_
        exact k_iret () hx hb hr hlocks hK hP hD hS [0, 1] (by decide) rfl rfl ((by rw [show k = k4 by omega])) hAe hQ dX5_checkOf_44
      · skip
        have c10 := iI_leF (a := ((k4 : Nat) : Int)) (b := ((k : Nat) : Int)) c10 (by omega)
        refine lv_iload_n hx hb dX5_checkOf_13 rfl (lv_at hl 2 rfl) ?_
        refine lv_aload_n hx hb dX5_checkOf_14 rfl (lv_at hl 0 rfl) ?_
        refine lv_iload_n hx hb dX5_checkOf_15 rfl (lv_at hl 1 rfl) ?_
        refine lv_iload_n hx hb dX5_checkOf_16 rfl (lv_at hl 3 rfl) ?_
        refine k_calli (wc := [(hm, .inr (5, [.int cd, .ref x1, .ref x2, .ref x3, .ref x4, .ref x5, .ref x6, .ref x7, .int (iI ((kt : Nat) : Int)), .int (iI ((k1 : Nat) : Int)), .int (iI ((k2 : Nat) : Int)), .int (iI ((k3 : Nat) : Int)), .int (iI ((k4 : Nat) : Int)), .int (iI ((k5 : Nat) : Int)), .ref y1, .ref y2, .ref y3, .ref y4, .ref y5, .ref y6, .ref y7, .int (iI ((ms : Nat) : Int)), .int (iI ((kw : Nat) : Int)), .int (iI ((kd : Nat) : Int)), .int (iI ((ma : Nat) : Int)), .int (iI (lk : Int))])), (x5, .inl (cI, 300, .inl g))]) (wr := []) (wf := fun _ => [(hm, .inr (5, [.int cd, .ref x1, .ref x2, .ref x3, .ref x4, .ref x5, .ref x6, .ref x7, .int (iI ((kt : Nat) : Int)), .int (iI ((k1 : Nat) : Int)), .int (iI ((k2 : Nat) : Int)), .int (iI ((k3 : Nat) : Int)), .int (iI ((k4 : Nat) : Int)), .int (iI ((k5 : Nat) : Int)), .ref y1, .ref y2, .ref y3, .ref y4, .ref y5, .ref y6, .ref y7, .int (iI ((ms : Nat) : Int)), .int (iI ((kw : Nat) : Int)), .int (iI ((kd : Nat) : Int)), .int (iI ((ma : Nat) : Int)), .int (iI (lk : Int))])), (x5, .inl (cI, 300, .inl g))]) hK hP hD hS hA [0, 1] [] [0, 1] ⟨⟨rfl, rfl, by decide⟩, rfl, by decide, by decide⟩ (fun _ => ⟨rfl, rfl⟩) (by decide) (fun hPc hDc => va_runV (As := [.int (iI (3 : Int)), .int (iI ((k : Nat) : Int))]) (rest := [.int (dg g k)]) ⟨hx, hb, hml, hown, hts⟩ (c_Mo_byteOf3 l D cI cZ (hm := hm) (cd := cd) (x1 := x1) (x2 := x2) (x3 := x3) (x4 := x4) (x5 := x5) (x6 := x6) (x7 := x7) (kt := kt) (k1 := k1) (k2 := k2) (k3 := k3) (k4 := k4) (k5 := k5) (y1 := y1) (y2 := y2) (y3 := y3) (y4 := y4) (y5 := y5) (y6 := y6) (y7 := y7) (ms := ms) (kw := kw) (kd := kd) (ma := ma) (lk := lk) (g := g) (i := k) (hi := by omega) _) (cwV 2 hts (kgV wm571 wm573 wm23 wm44 wmcX5_byteOf) rfl rfl rfl (by decide +kernel) ⟨Nat.le_of_ble_eq_true rfl, Nat.le_of_ble_eq_true rfl⟩) (k_preV hK hPc hDc (ci := 5) (q0 := 0) rfl rfl) rfl rfl hl.1 rfl (lv_room (Nat.le_of_ble_eq_true rfl)) dX5_checkOf_17 ⟨Nat.le_of_ble_eq_true rfl, Nat.le_of_ble_eq_true rfl⟩) (fun r17 u H locs hw hP hD hS => ?_)
        have hP : va_P D vwCl [(hm, .inr (5, [.int cd, .ref x1, .ref x2, .ref x3, .ref x4, .ref x5, .ref x6, .ref x7, .int (iI ((kt : Nat) : Int)), .int (iI ((k1 : Nat) : Int)), .int (iI ((k2 : Nat) : Int)), .int (iI ((k3 : Nat) : Int)), .int (iI ((k4 : Nat) : Int)), .int (iI ((k5 : Nat) : Int)), .ref y1, .ref y2, .ref y3, .ref y4, .ref y5, .ref y6, .ref y7, .int (iI ((ms : Nat) : Int)), .int (iI ((kw : Nat) : Int)), .int (iI ((kd : Nat) : Int)), .int (iI ((ma : Nat) : Int)), .int (iI (lk : Int))])), (x5, .inl (cI, 300, .inl g))] H := hP
        have hD : va_D A [(hm, .inr (5, [.int cd, .ref x1, .ref x2, .ref x3, .ref x4, .ref x5, .ref x6, .ref x7, .int (iI ((kt : Nat) : Int)), .int (iI ((k1 : Nat) : Int)), .int (iI ((k2 : Nat) : Int)), .int (iI ((k3 : Nat) : Int)), .int (iI ((k4 : Nat) : Int)), .int (iI ((k5 : Nat) : Int)), .ref y1, .ref y2, .ref y3, .ref y4, .ref y5, .ref y6, .ref y7, .int (iI ((ms : Nat) : Int)), .int (iI ((kw : Nat) : Int)), .int (iI ((kd : Nat) : Int)), .int (iI ((ma : Nat) : Int)), .int (iI (lk : Int))])), (x5, .inl (cI, 300, .inl g))] := hD
        refine W.widen (k := 0) (n := 0) (Nat.le_of_ble_eq_true rfl) (Nat.le_of_ble_eq_true rfl) ?_
        have hw : r17 = (g k) := hw
        subst hw
        refine lv_ixor hx hb dX5_checkOf_20 ?_
        refine lv_istore (lv' := [(4, .int (((dg g k)) ^^^ ((g k)))), (0, .ref hm), (1, .int (iI (3 : Int))), (2, .int (dg g k)), (3, .int (iI ((k : Nat) : Int)))]) hx hb dX5_checkOf_21 hl (by decide) rfl (fun ls hl => ?_)
        refine lv_iload hx hb dX5_checkOf_23 (lv_at hl 0 rfl) ?_
        refine lv_iconst (v := iI (5 : Int)) hx hb dX5_checkOf_25 rfl ?_
        refine lv_ishl hx hb dX5_checkOf_26 ?_
        refine lv_iload hx hb dX5_checkOf_27 (lv_at hl 0 rfl) ?_
        refine lv_bipush (v := iI (27 : Int)) hx hb dX5_checkOf_29 (by decide) ?_
        refine lv_iushr hx hb dX5_checkOf_31 rfl ?_
        refine lv_ior hx hb dX5_checkOf_32 ?_
        refine lv_ldc (v := (-2048144777)) hx hb hown (hts _ (km wm587)) dX5_checkOf_33 ?_
        refine lv_imul hx hb dX5_checkOf_35 ?_
        refine kn_i (y := (dg g (k + 1))) (rfl) ?_
        refine lv_istore_n (lv' := [(2, .int (dg g (k + 1))), (4, .int (((dg g k)) ^^^ ((g k)))), (0, .ref hm), (1, .int (iI (3 : Int))), (3, .int (iI ((k : Nat) : Int)))]) hx hb dX5_checkOf_36 rfl hl (by decide) rfl (fun ls hl => ?_)
        refine lv_iinc (v := iI ((k + 1 : Nat) : Int)) (lv' := [(3, .int (iI ((k + 1 : Nat) : Int))), (2, .int (dg g (k + 1))), (4, .int (((dg g k)) ^^^ ((g k)))), (0, .ref hm), (1, .int (iI (3 : Int)))]) hx hb dX5_checkOf_37 hl (k := 4) rfl (iA (by omega)) (by decide) rfl (fun ls hl => ?_)
        refine lv_goto (tgt := 4) hx hb dX5_checkOf_40 (by decide) ?_
        exact ih4 (k + 1) _ _ _ (by omega) (by omega) hP hD hS (lv_sub hl [3, 4, 1, 0] rfl)
  exact lp4 _ 0 _ _ _ (Nat.lt_succ_self _) (by omega) hP hD hS (lv_sub hl [2, 3, 1, 0] rfl)

abbrev rm_c_Mo_checkOf4 : Room := { frames := 1, cells := 0, slots := 0, locals := 22 }
set_option maxHeartbeats 4000000 in
set_option maxRecDepth 100000 in
theorem c_Mo_checkOf4 (l : Launch) (D : va_G) (cI cZ : ClassId) (hm : Nat) (cd : Int32) (x1 : Nat) (x2 : Nat) (x3 : Nat) (x4 : Nat) (x5 : Nat) (x6 : Nat) (x7 : Nat) (kt : Nat) (k1 : Nat) (k2 : Nat) (k3 : Nat) (k4 : Nat) (k5 : Nat) (y1 : Nat) (y2 : Nat) (y3 : Nat) (y4 : Nat) (y5 : Nat) (y6 : Nat) (y7 : Nat) (ms : Nat) (kw : Nat) (kd : Nat) (ma : Nat) (lk : Int) (g : Nat → Int32) (hk5 : k5 ≤ 300) : MI l yX5_checkOf wsX5_checkOf rm_c_Mo_checkOf4 D (kT cI cZ) [.ref hm, .int (iI (4 : Int))] [(hm, .inr (5, [.int cd, .ref x1, .ref x2, .ref x3, .ref x4, .ref x5, .ref x6, .ref x7, .int (iI ((kt : Nat) : Int)), .int (iI ((k1 : Nat) : Int)), .int (iI ((k2 : Nat) : Int)), .int (iI ((k3 : Nat) : Int)), .int (iI ((k4 : Nat) : Int)), .int (iI ((k5 : Nat) : Int)), .ref y1, .ref y2, .ref y3, .ref y4, .ref y5, .ref y6, .ref y7, .int (iI ((ms : Nat) : Int)), .int (iI ((kw : Nat) : Int)), .int (iI ((kd : Nat) : Int)), .int (iI ((ma : Nat) : Int)), .int (iI (lk : Int))])), (x6, .inl (cI, 300, .inl g))] (fun (r : Int32) (_ : Unit) => r = (dg g k5)) (fun (u : Unit) => match u with | _ => [(hm, .inr (5, [.int cd, .ref x1, .ref x2, .ref x3, .ref x4, .ref x5, .ref x6, .ref x7, .int (iI ((kt : Nat) : Int)), .int (iI ((k1 : Nat) : Int)), .int (iI ((k2 : Nat) : Int)), .int (iI ((k3 : Nat) : Int)), .int (iI ((k4 : Nat) : Int)), .int (iI ((k5 : Nat) : Int)), .ref y1, .ref y2, .ref y3, .ref y4, .ref y5, .ref y6, .ref y7, .int (iI ((ms : Nat) : Int)), .int (iI ((kw : Nat) : Int)), .int (iI ((kd : Nat) : Int)), .int (iI ((ma : Nat) : Int)), .int (iI (lk : Int))])), (x6, .inl (cI, 300, .inl g))]) 0 0 := by
  intro sz
  refine k_of (cc := cX5_checkOf) (maxL := 5) (ret := (some .int)) (by decide) rfl (Nat.le_of_ble_eq_true rfl) ?_
  intro p e s m args below meth c A Q hAe hQ hx hb hr hml hts hown hlocks hnm hP hK hD hS hA ls hl
  have hl : lv_has ls 5 [(0, .ref hm), (1, .int (iI (4 : Int)))] := hl
  refine lv_iconst (v := iI (0 : Int)) hx hb dX5_checkOf_0 rfl ?_
  refine lv_istore_n (lv' := [(2, .int (iI (0 : Int))), (0, .ref hm), (1, .int (iI (4 : Int)))]) hx hb dX5_checkOf_1 rfl hl (by decide) rfl (fun ls hl => ?_)
  refine lv_iconst (v := iI ((0 : Nat) : Int)) hx hb dX5_checkOf_2 rfl ?_
  refine lv_istore_n (lv' := [(3, .int (iI ((0 : Nat) : Int))), (2, .int (iI (0 : Int))), (0, .ref hm), (1, .int (iI (4 : Int)))]) hx hb dX5_checkOf_3 rfl hl (by decide) rfl (fun ls hl => ?_)
  have lp4 : ∀ (fu : Nat) (k : Nat) (H : Heap) (locs : List Loc) (ls : Array Slot), k5 - k < fu → (k ≤ k5) → va_P D vwCl [(hm, .inr (5, [.int cd, .ref x1, .ref x2, .ref x3, .ref x4, .ref x5, .ref x6, .ref x7, .int (iI ((kt : Nat) : Int)), .int (iI ((k1 : Nat) : Int)), .int (iI ((k2 : Nat) : Int)), .int (iI ((k3 : Nat) : Int)), .int (iI ((k4 : Nat) : Int)), .int (iI ((k5 : Nat) : Int)), .ref y1, .ref y2, .ref y3, .ref y4, .ref y5, .ref y6, .ref y7, .int (iI ((ms : Nat) : Int)), .int (iI ((kw : Nat) : Int)), .int (iI ((kd : Nat) : Int)), .int (iI ((ma : Nat) : Int)), .int (iI (lk : Int))])), (x6, .inl (cI, 300, .inl g))] H → va_D A [(hm, .inr (5, [.int cd, .ref x1, .ref x2, .ref x3, .ref x4, .ref x5, .ref x6, .ref x7, .int (iI ((kt : Nat) : Int)), .int (iI ((k1 : Nat) : Int)), .int (iI ((k2 : Nat) : Int)), .int (iI ((k3 : Nat) : Int)), .int (iI ((k4 : Nat) : Int)), .int (iI ((k5 : Nat) : Int)), .ref y1, .ref y2, .ref y3, .ref y4, .ref y5, .ref y6, .ref y7, .int (iI ((ms : Nat) : Int)), .int (iI ((kw : Nat) : Int)), .int (iI ((kd : Nat) : Int)), .int (iI ((ma : Nat) : Int)), .int (iI (lk : Int))])), (x6, .inl (cI, 300, .inl g))] → va_S A s.heap H locs → lv_has ls 5 [(0, .ref hm), (1, .int (iI (4 : Int))), (2, .int (dg g k)), (3, .int (iI ((k : Nat) : Int)))] → W p l e rm_c_Mo_checkOf4 s m args below meth c H locs 0 0 Q (F0 m 4 ls []) := by
    intro fu
    induction fu with
    | zero => intro k H locs ls hfu; exact absurd hfu (Nat.not_lt_zero _)
    | succ fu ih4 =>
      intro k H locs ls hfu hk hP hD hS hl
      refine lv_iload_n hx hb dX5_checkOf_4 rfl (lv_at hl 3 rfl) ?_
      refine lv_aload_n hx hb dX5_checkOf_5 rfl (lv_at hl 0 rfl) ?_
      refine lv_iload_n hx hb dX5_checkOf_6 rfl (lv_at hl 1 rfl) ?_
      refine k_calli (wc := [(hm, .inr (5, [.int cd, .ref x1, .ref x2, .ref x3, .ref x4, .ref x5, .ref x6, .ref x7, .int (iI ((kt : Nat) : Int)), .int (iI ((k1 : Nat) : Int)), .int (iI ((k2 : Nat) : Int)), .int (iI ((k3 : Nat) : Int)), .int (iI ((k4 : Nat) : Int)), .int (iI ((k5 : Nat) : Int)), .ref y1, .ref y2, .ref y3, .ref y4, .ref y5, .ref y6, .ref y7, .int (iI ((ms : Nat) : Int)), .int (iI ((kw : Nat) : Int)), .int (iI ((kd : Nat) : Int)), .int (iI ((ma : Nat) : Int)), .int (iI (lk : Int))]))]) (wr := [(x6, .inl (cI, 300, .inl g))]) (wf := fun _ => [(hm, .inr (5, [.int cd, .ref x1, .ref x2, .ref x3, .ref x4, .ref x5, .ref x6, .ref x7, .int (iI ((kt : Nat) : Int)), .int (iI ((k1 : Nat) : Int)), .int (iI ((k2 : Nat) : Int)), .int (iI ((k3 : Nat) : Int)), .int (iI ((k4 : Nat) : Int)), .int (iI ((k5 : Nat) : Int)), .ref y1, .ref y2, .ref y3, .ref y4, .ref y5, .ref y6, .ref y7, .int (iI ((ms : Nat) : Int)), .int (iI ((kw : Nat) : Int)), .int (iI ((kd : Nat) : Int)), .int (iI ((ma : Nat) : Int)), .int (iI (lk : Int))])), (x6, .inl (cI, 300, .inl g))]) hK hP hD hS hA [0] [1] [1, 0] ⟨⟨rfl, rfl, by decide⟩, rfl, by decide, by decide⟩ (fun _ => ⟨rfl, rfl⟩) (by decide) (fun hPc hDc => va_runV (As := [.int (iI (4 : Int))]) (rest := [.int (iI ((k : Nat) : Int))]) ⟨hx, hb, hml, hown, hts⟩ (c_Mo_sizeOf4 l D cI cZ (hm := hm) (cd := cd) (x1 := x1) (x2 := x2) (x3 := x3) (x4 := x4) (x5 := x5) (x6 := x6) (x7 := x7) (kt := kt) (k1 := k1) (k2 := k2) (k3 := k3) (k4 := k4) (k5 := k5) (y1 := y1) (y2 := y2) (y3 := y3) (y4 := y4) (y5 := y5) (y6 := y6) (y7 := y7) (ms := ms) (kw := kw) (kd := kd) (ma := ma) (lk := lk)  _) (cwV 1 hts (kgV wm567 wm569 wm22 wm44 wmcX5_sizeOf) rfl rfl rfl (by decide +kernel) ⟨Nat.le_of_ble_eq_true rfl, Nat.le_of_ble_eq_true rfl⟩) (k_preV hK hPc hDc (ci := 5) (q0 := 0) rfl rfl) rfl rfl hl.1 rfl (lv_room (Nat.le_of_ble_eq_true rfl)) dX5_checkOf_7 ⟨Nat.le_of_ble_eq_true rfl, Nat.le_of_ble_eq_true rfl⟩) (fun r7 u H locs hw hP hD hS => ?_)
      have hP : va_P D vwCl [(hm, .inr (5, [.int cd, .ref x1, .ref x2, .ref x3, .ref x4, .ref x5, .ref x6, .ref x7, .int (iI ((kt : Nat) : Int)), .int (iI ((k1 : Nat) : Int)), .int (iI ((k2 : Nat) : Int)), .int (iI ((k3 : Nat) : Int)), .int (iI ((k4 : Nat) : Int)), .int (iI ((k5 : Nat) : Int)), .ref y1, .ref y2, .ref y3, .ref y4, .ref y5, .ref y6, .ref y7, .int (iI ((ms : Nat) : Int)), .int (iI ((kw : Nat) : Int)), .int (iI ((kd : Nat) : Int)), .int (iI ((ma : Nat) : Int)), .int (iI (lk : Int))])), (x6, .inl (cI, 300, .inl g))] H := hP
      have hD : va_D A [(hm, .inr (5, [.int cd, .ref x1, .ref x2, .ref x3, .ref x4, .ref x5, .ref x6, .ref x7, .int (iI ((kt : Nat) : Int)), .int (iI ((k1 : Nat) : Int)), .int (iI ((k2 : Nat) : Int)), .int (iI ((k3 : Nat) : Int)), .int (iI ((k4 : Nat) : Int)), .int (iI ((k5 : Nat) : Int)), .ref y1, .ref y2, .ref y3, .ref y4, .ref y5, .ref y6, .ref y7, .int (iI ((ms : Nat) : Int)), .int (iI ((kw : Nat) : Int)), .int (iI ((kd : Nat) : Int)), .int (iI ((ma : Nat) : Int)), .int (iI (lk : Int))])), (x6, .inl (cI, 300, .inl g))] := hD
      refine W.widen (k := 0) (n := 0) (Nat.le_of_ble_eq_true rfl) (Nat.le_of_ble_eq_true rfl) ?_
      have hw : r7 = iI ((k5 : Nat) : Int) := hw
      subst hw
      refine lv_icmp_ge (tgt := 43) hx hb dX5_checkOf_10 (by decide) (fun c10 => ?_) (fun c10 => ?_)
      · skip
        have c10 := iI_leT (a := ((k5 : Nat) : Int)) (b := ((k : Nat) : Int)) c10 (by omega)
        refine lv_iload_n hx hb dX5_checkOf_43 rfl (lv_at hl 2 rfl) ?_
        exact k_iret () hx hb hr hlocks hK hP hD hS [0, 1] (by decide) rfl rfl ((by rw [show k = k5 by omega])) hAe hQ dX5_checkOf_44
      · skip
        have c10 := iI_leF (a := ((k5 : Nat) : Int)) (b := ((k : Nat) : Int)) c10 (by omega)
        refine lv_iload_n hx hb dX5_checkOf_13 rfl (lv_at hl 2 rfl) ?_
        refine lv_aload_n hx hb dX5_checkOf_14 rfl (lv_at hl 0 rfl) ?_
        refine lv_iload_n hx hb dX5_checkOf_15 rfl (lv_at hl 1 rfl) ?_
        refine lv_iload_n hx hb dX5_checkOf_16 rfl (lv_at hl 3 rfl) ?_
        refine k_calli (wc := [(hm, .inr (5, [.int cd, .ref x1, .ref x2, .ref x3, .ref x4, .ref x5, .ref x6, .ref x7, .int (iI ((kt : Nat) : Int)), .int (iI ((k1 : Nat) : Int)), .int (iI ((k2 : Nat) : Int)), .int (iI ((k3 : Nat) : Int)), .int (iI ((k4 : Nat) : Int)), .int (iI ((k5 : Nat) : Int)), .ref y1, .ref y2, .ref y3, .ref y4, .ref y5, .ref y6, .ref y7, .int (iI ((ms : Nat) : Int)), .int (iI ((kw : Nat) : Int)), .int (iI ((kd : Nat) : Int)), .int (iI ((ma : Nat) : Int)), .int (iI (lk : Int))])), (x6, .inl (cI, 300, .inl g))]) (wr := []) (wf := fun _ => [(hm, .inr (5, [.int cd, .ref x1, .ref x2, .ref x3, .ref x4, .ref x5, .ref x6, .ref x7, .int (iI ((kt : Nat) : Int)), .int (iI ((k1 : Nat) : Int)), .int (iI ((k2 : Nat) : Int)), .int (iI ((k3 : Nat) : Int)), .int (iI ((k4 : Nat) : Int)), .int (iI ((k5 : Nat) : Int)), .ref y1, .ref y2, .ref y3, .ref y4, .ref y5, .ref y6, .ref y7, .int (iI ((ms : Nat) : Int)), .int (iI ((kw : Nat) : Int)), .int (iI ((kd : Nat) : Int)), .int (iI ((ma : Nat) : Int)), .int (iI (lk : Int))])), (x6, .inl (cI, 300, .inl g))]) hK hP hD hS hA [0, 1] [] [0, 1] ⟨⟨rfl, rfl, by decide⟩, rfl, by decide, by decide⟩ (fun _ => ⟨rfl, rfl⟩) (by decide) (fun hPc hDc => va_runV (As := [.int (iI (4 : Int)), .int (iI ((k : Nat) : Int))]) (rest := [.int (dg g k)]) ⟨hx, hb, hml, hown, hts⟩ (c_Mo_byteOf4 l D cI cZ (hm := hm) (cd := cd) (x1 := x1) (x2 := x2) (x3 := x3) (x4 := x4) (x5 := x5) (x6 := x6) (x7 := x7) (kt := kt) (k1 := k1) (k2 := k2) (k3 := k3) (k4 := k4) (k5 := k5) (y1 := y1) (y2 := y2) (y3 := y3) (y4 := y4) (y5 := y5) (y6 := y6) (y7 := y7) (ms := ms) (kw := kw) (kd := kd) (ma := ma) (lk := lk) (g := g) (i := k) (hi := by omega) _) (cwV 2 hts (kgV wm571 wm573 wm23 wm44 wmcX5_byteOf) rfl rfl rfl (by decide +kernel) ⟨Nat.le_of_ble_eq_true rfl, Nat.le_of_ble_eq_true rfl⟩) (k_preV hK hPc hDc (ci := 5) (q0 := 0) rfl rfl) rfl rfl hl.1 rfl (lv_room (Nat.le_of_ble_eq_true rfl)) dX5_checkOf_17 ⟨Nat.le_of_ble_eq_true rfl, Nat.le_of_ble_eq_true rfl⟩) (fun r17 u H locs hw hP hD hS => ?_)
        have hP : va_P D vwCl [(hm, .inr (5, [.int cd, .ref x1, .ref x2, .ref x3, .ref x4, .ref x5, .ref x6, .ref x7, .int (iI ((kt : Nat) : Int)), .int (iI ((k1 : Nat) : Int)), .int (iI ((k2 : Nat) : Int)), .int (iI ((k3 : Nat) : Int)), .int (iI ((k4 : Nat) : Int)), .int (iI ((k5 : Nat) : Int)), .ref y1, .ref y2, .ref y3, .ref y4, .ref y5, .ref y6, .ref y7, .int (iI ((ms : Nat) : Int)), .int (iI ((kw : Nat) : Int)), .int (iI ((kd : Nat) : Int)), .int (iI ((ma : Nat) : Int)), .int (iI (lk : Int))])), (x6, .inl (cI, 300, .inl g))] H := hP
        have hD : va_D A [(hm, .inr (5, [.int cd, .ref x1, .ref x2, .ref x3, .ref x4, .ref x5, .ref x6, .ref x7, .int (iI ((kt : Nat) : Int)), .int (iI ((k1 : Nat) : Int)), .int (iI ((k2 : Nat) : Int)), .int (iI ((k3 : Nat) : Int)), .int (iI ((k4 : Nat) : Int)), .int (iI ((k5 : Nat) : Int)), .ref y1, .ref y2, .ref y3, .ref y4, .ref y5, .ref y6, .ref y7, .int (iI ((ms : Nat) : Int)), .int (iI ((kw : Nat) : Int)), .int (iI ((kd : Nat) : Int)), .int (iI ((ma : Nat) : Int)), .int (iI (lk : Int))])), (x6, .inl (cI, 300, .inl g))] := hD
        refine W.widen (k := 0) (n := 0) (Nat.le_of_ble_eq_true rfl) (Nat.le_of_ble_eq_true rfl) ?_
        have hw : r17 = (g k) := hw
        subst hw
        refine lv_ixor hx hb dX5_checkOf_20 ?_
        refine lv_istore (lv' := [(4, .int (((dg g k)) ^^^ ((g k)))), (0, .ref hm), (1, .int (iI (4 : Int))), (2, .int (dg g k)), (3, .int (iI ((k : Nat) : Int)))]) hx hb dX5_checkOf_21 hl (by decide) rfl (fun ls hl => ?_)
        refine lv_iload hx hb dX5_checkOf_23 (lv_at hl 0 rfl) ?_
        refine lv_iconst (v := iI (5 : Int)) hx hb dX5_checkOf_25 rfl ?_
        refine lv_ishl hx hb dX5_checkOf_26 ?_
        refine lv_iload hx hb dX5_checkOf_27 (lv_at hl 0 rfl) ?_
        refine lv_bipush (v := iI (27 : Int)) hx hb dX5_checkOf_29 (by decide) ?_
        refine lv_iushr hx hb dX5_checkOf_31 rfl ?_
        refine lv_ior hx hb dX5_checkOf_32 ?_
        refine lv_ldc (v := (-2048144777)) hx hb hown (hts _ (km wm587)) dX5_checkOf_33 ?_
        refine lv_imul hx hb dX5_checkOf_35 ?_
        refine kn_i (y := (dg g (k + 1))) (rfl) ?_
        refine lv_istore_n (lv' := [(2, .int (dg g (k + 1))), (4, .int (((dg g k)) ^^^ ((g k)))), (0, .ref hm), (1, .int (iI (4 : Int))), (3, .int (iI ((k : Nat) : Int)))]) hx hb dX5_checkOf_36 rfl hl (by decide) rfl (fun ls hl => ?_)
        refine lv_iinc (v := iI ((k + 1 : Nat) : Int)) (lv' := [(3, .int (iI ((k + 1 : Nat) : Int))), (2, .int (dg g (k + 1))), (4, .int (((dg g k)) ^^^ ((g k)))), (0, .ref hm), (1, .int (iI (4 : Int)))]) hx hb dX5_checkOf_37 hl (k := 4) rfl (iA (by omega)) (by decide) rfl (fun ls hl => ?_)
        refine lv_goto (tgt := 4) hx hb dX5_checkOf_40 (by decide) ?_
        exact ih4 (k + 1) _ _ _ (by omega) (by omega) hP hD hS (lv_sub hl [3, 4, 1, 0] rfl)
  exact lp4 _ 0 _ _ _ (Nat.lt_succ_self _) (by omega) hP hD hS (lv_sub hl [2, 3, 1, 0] rfl)

abbrev rm_c_Mo_check : Room := { frames := 2, cells := 0, slots := 0, locals := 46 }
set_option maxHeartbeats 4000000 in
set_option maxRecDepth 100000 in
theorem c_Mo_check (l : Launch) (D : va_G) (cI cZ : ClassId) (hm : Nat) (cd : Int32) (x1 : Nat) (x2 : Nat) (x3 : Nat) (x4 : Nat) (x5 : Nat) (x6 : Nat) (x7 : Nat) (kt : Nat) (k1 : Nat) (k2 : Nat) (k3 : Nat) (k4 : Nat) (k5 : Nat) (y1 : Nat) (y2 : Nat) (y3 : Nat) (y4 : Nat) (y5 : Nat) (y6 : Nat) (y7 : Nat) (ms : Nat) (kw : Nat) (kd : Nat) (ma : Nat) (lk : Int) (g1 : Nat → Int32) (g2 : Nat → Int32) (g3 : Nat → Int32) (g4 : Nat → Int32) (g5 : Nat → Int32) (z : Int) (hk1 : k1 ≤ 300) (hk2 : k2 ≤ 300) (hk3 : k3 ≤ 900) (hk4 : k4 ≤ 300) (hk5 : k5 ≤ 300) (hzr : -2147483648 ≤ z ∧ z < 2147483648) : MI l yX5_check wsX5_check rm_c_Mo_check D (kT cI cZ) [.ref hm, .int (iI (z : Int))] [(hm, .inr (5, [.int cd, .ref x1, .ref x2, .ref x3, .ref x4, .ref x5, .ref x6, .ref x7, .int (iI ((kt : Nat) : Int)), .int (iI ((k1 : Nat) : Int)), .int (iI ((k2 : Nat) : Int)), .int (iI ((k3 : Nat) : Int)), .int (iI ((k4 : Nat) : Int)), .int (iI ((k5 : Nat) : Int)), .ref y1, .ref y2, .ref y3, .ref y4, .ref y5, .ref y6, .ref y7, .int (iI ((ms : Nat) : Int)), .int (iI ((kw : Nat) : Int)), .int (iI ((kd : Nat) : Int)), .int (iI ((ma : Nat) : Int)), .int (iI (lk : Int))])), (x2, .inl (cI, 300, .inl g1)), (x3, .inl (cI, 300, .inl g2)), (x4, .inl (cI, 900, .inl g3)), (x5, .inl (cI, 300, .inl g4)), (x6, .inl (cI, 300, .inl g5))] (fun (r : Int32) (_ : Unit) => r = (ixF z (dg g1 k1) (dg g2 k2) (dg g3 k3) (dg g4 k4) (dg g5 k5) (iI (0 : Int)))) (fun (u : Unit) => match u with | _ => [(hm, .inr (5, [.int (iI (0 : Int)), .ref x1, .ref x2, .ref x3, .ref x4, .ref x5, .ref x6, .ref x7, .int (iI ((kt : Nat) : Int)), .int (iI ((k1 : Nat) : Int)), .int (iI ((k2 : Nat) : Int)), .int (iI ((k3 : Nat) : Int)), .int (iI ((k4 : Nat) : Int)), .int (iI ((k5 : Nat) : Int)), .ref y1, .ref y2, .ref y3, .ref y4, .ref y5, .ref y6, .ref y7, .int (iI ((ms : Nat) : Int)), .int (iI ((kw : Nat) : Int)), .int (iI ((kd : Nat) : Int)), .int (iI ((ma : Nat) : Int)), .int (iI (lk : Int))])), (x2, .inl (cI, 300, .inl g1)), (x3, .inl (cI, 300, .inl g2)), (x4, .inl (cI, 900, .inl g3)), (x5, .inl (cI, 300, .inl g4)), (x6, .inl (cI, 300, .inl g5))]) 0 0 := by
  intro sz
  refine k_of (cc := cX5_check) (maxL := 2) (ret := (some .int)) (by decide) rfl (Nat.le_of_ble_eq_true rfl) ?_
  intro p e s m args below meth c A Q hAe hQ hx hb hr hml hts hown hlocks hnm hP hK hD hS hA ls hl
  have hl : lv_has ls 2 [(0, .ref hm), (1, .int (iI (z : Int)))] := hl
  have hi_X5 : ∀ w ∈ u_ws RX5 TX5 26, w ∈ wsX5_check := fun w h => km (ikX5 w h)
  have fl52 := hts _ (km wm475)
  refine lv_aload_n hx hb dX5_check_0 rfl (lv_at hl 0 rfl) ?_
  refine lv_iconst (v := iI (0 : Int)) hx hb dX5_check_1 rfl ?_
  refine va_put (D := D) (ci := 5) (v := .int (iI (0 : Int))) (ty := .int) (C := RX5) (T := TX5) (N := 26) hx hb hts hi_X5 tyX5 tyX5_ok nmX5 hown hK hP hD hS 0 rfl rfl 0 (by decide) fl52 (fun _ h9 => h9) rfl (by decide +kernel) rfl rfl (Nat.le_of_ble_eq_true rfl) dX5_check_2 (fun H locs hP hD hS => ?_)
  have hP : va_P D vwCl [(hm, .inr (5, [.int (iI (0 : Int)), .ref x1, .ref x2, .ref x3, .ref x4, .ref x5, .ref x6, .ref x7, .int (iI ((kt : Nat) : Int)), .int (iI ((k1 : Nat) : Int)), .int (iI ((k2 : Nat) : Int)), .int (iI ((k3 : Nat) : Int)), .int (iI ((k4 : Nat) : Int)), .int (iI ((k5 : Nat) : Int)), .ref y1, .ref y2, .ref y3, .ref y4, .ref y5, .ref y6, .ref y7, .int (iI ((ms : Nat) : Int)), .int (iI ((kw : Nat) : Int)), .int (iI ((kd : Nat) : Int)), .int (iI ((ma : Nat) : Int)), .int (iI (lk : Int))])), (x2, .inl (cI, 300, .inl g1)), (x3, .inl (cI, 300, .inl g2)), (x4, .inl (cI, 900, .inl g3)), (x5, .inl (cI, 300, .inl g4)), (x6, .inl (cI, 300, .inl g5))] H := hP
  have hD : va_D A [(hm, .inr (5, [.int (iI (0 : Int)), .ref x1, .ref x2, .ref x3, .ref x4, .ref x5, .ref x6, .ref x7, .int (iI ((kt : Nat) : Int)), .int (iI ((k1 : Nat) : Int)), .int (iI ((k2 : Nat) : Int)), .int (iI ((k3 : Nat) : Int)), .int (iI ((k4 : Nat) : Int)), .int (iI ((k5 : Nat) : Int)), .ref y1, .ref y2, .ref y3, .ref y4, .ref y5, .ref y6, .ref y7, .int (iI ((ms : Nat) : Int)), .int (iI ((kw : Nat) : Int)), .int (iI ((kd : Nat) : Int)), .int (iI ((ma : Nat) : Int)), .int (iI (lk : Int))])), (x2, .inl (cI, 300, .inl g1)), (x3, .inl (cI, 300, .inl g2)), (x4, .inl (cI, 900, .inl g3)), (x5, .inl (cI, 300, .inl g4)), (x6, .inl (cI, 300, .inl g5))] := hD
  refine lv_iload_n hx hb dX5_check_5 rfl (lv_at hl 1 rfl) ?_
  refine lv_if_lt (tgt := 14) hx hb dX5_check_6 (by decide) (fun c6 => ?_) (fun c6 => ?_)
  · skip
    have c6 := iI_ltT (a := (z : Int)) (b := (0 : Int)) c6 (by omega)
    refine lv_iconst (v := iI (0 : Int)) hx hb dX5_check_14 rfl ?_
    refine lv_goto (tgt := 23) hx hb dX5_check_15 (by decide) ?_
    exact k_iret () hx hb hr hlocks hK hP hD hS [0, 1, 2, 3, 4, 5] (by decide) rfl rfl ((ixF_out (by omega)).symm) hAe hQ dX5_check_23
  · skip
    have c6 := iI_ltF (a := (z : Int)) (b := (0 : Int)) c6 (by omega)
    refine lv_iload_n hx hb dX5_check_9 rfl (lv_at hl 1 rfl) ?_
    refine lv_iconst (v := iI (4 : Int)) hx hb dX5_check_10 rfl ?_
    refine lv_icmp_le (tgt := 18) hx hb dX5_check_11 (by decide) (fun c11 => ?_) (fun c11 => ?_)
    · skip
      have c11 := iI_leT (a := (z : Int)) (b := (4 : Int)) c11 (by omega)
      rcases (show (z = 0) ∨ (z = 1) ∨ (z = 2) ∨ (z = 3) ∨ (z = 4) by omega) with hz | hz | hz | hz | hz
      · skip
        rw [show iI (z : Int) = iI (0 : Int) from congrArg iI hz] at hl
        refine lv_aload_n hx hb dX5_check_18 rfl (lv_at hl 0 rfl) ?_
        refine lv_iload_n hx hb dX5_check_19 rfl (lv_at hl 1 rfl) ?_
        refine k_calli (wc := [(hm, .inr (5, [.int (iI (0 : Int)), .ref x1, .ref x2, .ref x3, .ref x4, .ref x5, .ref x6, .ref x7, .int (iI ((kt : Nat) : Int)), .int (iI ((k1 : Nat) : Int)), .int (iI ((k2 : Nat) : Int)), .int (iI ((k3 : Nat) : Int)), .int (iI ((k4 : Nat) : Int)), .int (iI ((k5 : Nat) : Int)), .ref y1, .ref y2, .ref y3, .ref y4, .ref y5, .ref y6, .ref y7, .int (iI ((ms : Nat) : Int)), .int (iI ((kw : Nat) : Int)), .int (iI ((kd : Nat) : Int)), .int (iI ((ma : Nat) : Int)), .int (iI (lk : Int))])), (x2, .inl (cI, 300, .inl g1))]) (wr := [(x3, .inl (cI, 300, .inl g2)), (x4, .inl (cI, 900, .inl g3)), (x5, .inl (cI, 300, .inl g4)), (x6, .inl (cI, 300, .inl g5))]) (wf := fun _ => [(hm, .inr (5, [.int (iI (0 : Int)), .ref x1, .ref x2, .ref x3, .ref x4, .ref x5, .ref x6, .ref x7, .int (iI ((kt : Nat) : Int)), .int (iI ((k1 : Nat) : Int)), .int (iI ((k2 : Nat) : Int)), .int (iI ((k3 : Nat) : Int)), .int (iI ((k4 : Nat) : Int)), .int (iI ((k5 : Nat) : Int)), .ref y1, .ref y2, .ref y3, .ref y4, .ref y5, .ref y6, .ref y7, .int (iI ((ms : Nat) : Int)), .int (iI ((kw : Nat) : Int)), .int (iI ((kd : Nat) : Int)), .int (iI ((ma : Nat) : Int)), .int (iI (lk : Int))])), (x2, .inl (cI, 300, .inl g1)), (x3, .inl (cI, 300, .inl g2)), (x4, .inl (cI, 900, .inl g3)), (x5, .inl (cI, 300, .inl g4)), (x6, .inl (cI, 300, .inl g5))]) hK hP hD hS hA [0, 1] [2, 3, 4, 5] [4, 5, 0, 1, 2, 3] ⟨⟨rfl, rfl, by decide⟩, rfl, by decide, by decide⟩ (fun _ => ⟨rfl, rfl⟩) (by decide) (fun hPc hDc => va_runV (As := [.int (iI (0 : Int))]) (rest := []) ⟨hx, hb, hml, hown, hts⟩ (c_Mo_checkOf0 l D cI cZ (hm := hm) (cd := iI (0 : Int)) (x1 := x1) (x2 := x2) (x3 := x3) (x4 := x4) (x5 := x5) (x6 := x6) (x7 := x7) (kt := kt) (k1 := k1) (k2 := k2) (k3 := k3) (k4 := k4) (k5 := k5) (y1 := y1) (y2 := y2) (y3 := y3) (y4 := y4) (y5 := y5) (y6 := y6) (y7 := y7) (ms := ms) (kw := kw) (kd := kd) (ma := ma) (lk := lk) (g := g1) (hk1 := by omega) _) (cwV 1 hts (kgV wm583 wm585 wm24 wm44 wmcX5_checkOf) rfl rfl rfl (by decide +kernel) ⟨Nat.le_of_ble_eq_true rfl, Nat.le_of_ble_eq_true rfl⟩) (k_preV hK hPc hDc (ci := 5) (q0 := 0) rfl rfl) rfl rfl hl.1 rfl (lv_room (Nat.le_of_ble_eq_true rfl)) dX5_check_20 ⟨Nat.le_of_ble_eq_true rfl, Nat.le_of_ble_eq_true rfl⟩) (fun r20 u H locs hw hP hD hS => ?_)
        have hP : va_P D vwCl [(hm, .inr (5, [.int (iI (0 : Int)), .ref x1, .ref x2, .ref x3, .ref x4, .ref x5, .ref x6, .ref x7, .int (iI ((kt : Nat) : Int)), .int (iI ((k1 : Nat) : Int)), .int (iI ((k2 : Nat) : Int)), .int (iI ((k3 : Nat) : Int)), .int (iI ((k4 : Nat) : Int)), .int (iI ((k5 : Nat) : Int)), .ref y1, .ref y2, .ref y3, .ref y4, .ref y5, .ref y6, .ref y7, .int (iI ((ms : Nat) : Int)), .int (iI ((kw : Nat) : Int)), .int (iI ((kd : Nat) : Int)), .int (iI ((ma : Nat) : Int)), .int (iI (lk : Int))])), (x2, .inl (cI, 300, .inl g1)), (x3, .inl (cI, 300, .inl g2)), (x4, .inl (cI, 900, .inl g3)), (x5, .inl (cI, 300, .inl g4)), (x6, .inl (cI, 300, .inl g5))] H := hP
        have hD : va_D A [(hm, .inr (5, [.int (iI (0 : Int)), .ref x1, .ref x2, .ref x3, .ref x4, .ref x5, .ref x6, .ref x7, .int (iI ((kt : Nat) : Int)), .int (iI ((k1 : Nat) : Int)), .int (iI ((k2 : Nat) : Int)), .int (iI ((k3 : Nat) : Int)), .int (iI ((k4 : Nat) : Int)), .int (iI ((k5 : Nat) : Int)), .ref y1, .ref y2, .ref y3, .ref y4, .ref y5, .ref y6, .ref y7, .int (iI ((ms : Nat) : Int)), .int (iI ((kw : Nat) : Int)), .int (iI ((kd : Nat) : Int)), .int (iI ((ma : Nat) : Int)), .int (iI (lk : Int))])), (x2, .inl (cI, 300, .inl g1)), (x3, .inl (cI, 300, .inl g2)), (x4, .inl (cI, 900, .inl g3)), (x5, .inl (cI, 300, .inl g4)), (x6, .inl (cI, 300, .inl g5))] := hD
        refine W.widen (k := 0) (n := 0) (Nat.le_of_ble_eq_true rfl) (Nat.le_of_ble_eq_true rfl) ?_
        have hw : r20 = (dg g1 k1) := hw
        subst hw
        exact k_iret () hx hb hr hlocks hK hP hD hS [0, 1, 2, 3, 4, 5] (by decide) rfl rfl (by rw [hz]; rfl) hAe hQ dX5_check_23
      · skip
        rw [show iI (z : Int) = iI (1 : Int) from congrArg iI hz] at hl
        refine lv_aload_n hx hb dX5_check_18 rfl (lv_at hl 0 rfl) ?_
        refine lv_iload_n hx hb dX5_check_19 rfl (lv_at hl 1 rfl) ?_
        refine k_calli (wc := [(hm, .inr (5, [.int (iI (0 : Int)), .ref x1, .ref x2, .ref x3, .ref x4, .ref x5, .ref x6, .ref x7, .int (iI ((kt : Nat) : Int)), .int (iI ((k1 : Nat) : Int)), .int (iI ((k2 : Nat) : Int)), .int (iI ((k3 : Nat) : Int)), .int (iI ((k4 : Nat) : Int)), .int (iI ((k5 : Nat) : Int)), .ref y1, .ref y2, .ref y3, .ref y4, .ref y5, .ref y6, .ref y7, .int (iI ((ms : Nat) : Int)), .int (iI ((kw : Nat) : Int)), .int (iI ((kd : Nat) : Int)), .int (iI ((ma : Nat) : Int)), .int (iI (lk : Int))])), (x3, .inl (cI, 300, .inl g2))]) (wr := [(x2, .inl (cI, 300, .inl g1)), (x4, .inl (cI, 900, .inl g3)), (x5, .inl (cI, 300, .inl g4)), (x6, .inl (cI, 300, .inl g5))]) (wf := fun _ => [(hm, .inr (5, [.int (iI (0 : Int)), .ref x1, .ref x2, .ref x3, .ref x4, .ref x5, .ref x6, .ref x7, .int (iI ((kt : Nat) : Int)), .int (iI ((k1 : Nat) : Int)), .int (iI ((k2 : Nat) : Int)), .int (iI ((k3 : Nat) : Int)), .int (iI ((k4 : Nat) : Int)), .int (iI ((k5 : Nat) : Int)), .ref y1, .ref y2, .ref y3, .ref y4, .ref y5, .ref y6, .ref y7, .int (iI ((ms : Nat) : Int)), .int (iI ((kw : Nat) : Int)), .int (iI ((kd : Nat) : Int)), .int (iI ((ma : Nat) : Int)), .int (iI (lk : Int))])), (x2, .inl (cI, 300, .inl g1)), (x3, .inl (cI, 300, .inl g2)), (x4, .inl (cI, 900, .inl g3)), (x5, .inl (cI, 300, .inl g4)), (x6, .inl (cI, 300, .inl g5))]) hK hP hD hS hA [0, 2] [1, 3, 4, 5] [4, 0, 5, 1, 2, 3] ⟨⟨rfl, rfl, by decide⟩, rfl, by decide, by decide⟩ (fun _ => ⟨rfl, rfl⟩) (by decide) (fun hPc hDc => va_runV (As := [.int (iI (1 : Int))]) (rest := []) ⟨hx, hb, hml, hown, hts⟩ (c_Mo_checkOf1 l D cI cZ (hm := hm) (cd := iI (0 : Int)) (x1 := x1) (x2 := x2) (x3 := x3) (x4 := x4) (x5 := x5) (x6 := x6) (x7 := x7) (kt := kt) (k1 := k1) (k2 := k2) (k3 := k3) (k4 := k4) (k5 := k5) (y1 := y1) (y2 := y2) (y3 := y3) (y4 := y4) (y5 := y5) (y6 := y6) (y7 := y7) (ms := ms) (kw := kw) (kd := kd) (ma := ma) (lk := lk) (g := g2) (hk2 := by omega) _) (cwV 1 hts (kgV wm583 wm585 wm24 wm44 wmcX5_checkOf) rfl rfl rfl (by decide +kernel) ⟨Nat.le_of_ble_eq_true rfl, Nat.le_of_ble_eq_true rfl⟩) (k_preV hK hPc hDc (ci := 5) (q0 := 0) rfl rfl) rfl rfl hl.1 rfl (lv_room (Nat.le_of_ble_eq_true rfl)) dX5_check_20 ⟨Nat.le_of_ble_eq_true rfl, Nat.le_of_ble_eq_true rfl⟩) (fun r20 u H locs hw hP hD hS => ?_)
        have hP : va_P D vwCl [(hm, .inr (5, [.int (iI (0 : Int)), .ref x1, .ref x2, .ref x3, .ref x4, .ref x5, .ref x6, .ref x7, .int (iI ((kt : Nat) : Int)), .int (iI ((k1 : Nat) : Int)), .int (iI ((k2 : Nat) : Int)), .int (iI ((k3 : Nat) : Int)), .int (iI ((k4 : Nat) : Int)), .int (iI ((k5 : Nat) : Int)), .ref y1, .ref y2, .ref y3, .ref y4, .ref y5, .ref y6, .ref y7, .int (iI ((ms : Nat) : Int)), .int (iI ((kw : Nat) : Int)), .int (iI ((kd : Nat) : Int)), .int (iI ((ma : Nat) : Int)), .int (iI (lk : Int))])), (x2, .inl (cI, 300, .inl g1)), (x3, .inl (cI, 300, .inl g2)), (x4, .inl (cI, 900, .inl g3)), (x5, .inl (cI, 300, .inl g4)), (x6, .inl (cI, 300, .inl g5))] H := hP
        have hD : va_D A [(hm, .inr (5, [.int (iI (0 : Int)), .ref x1, .ref x2, .ref x3, .ref x4, .ref x5, .ref x6, .ref x7, .int (iI ((kt : Nat) : Int)), .int (iI ((k1 : Nat) : Int)), .int (iI ((k2 : Nat) : Int)), .int (iI ((k3 : Nat) : Int)), .int (iI ((k4 : Nat) : Int)), .int (iI ((k5 : Nat) : Int)), .ref y1, .ref y2, .ref y3, .ref y4, .ref y5, .ref y6, .ref y7, .int (iI ((ms : Nat) : Int)), .int (iI ((kw : Nat) : Int)), .int (iI ((kd : Nat) : Int)), .int (iI ((ma : Nat) : Int)), .int (iI (lk : Int))])), (x2, .inl (cI, 300, .inl g1)), (x3, .inl (cI, 300, .inl g2)), (x4, .inl (cI, 900, .inl g3)), (x5, .inl (cI, 300, .inl g4)), (x6, .inl (cI, 300, .inl g5))] := hD
        refine W.widen (k := 0) (n := 0) (Nat.le_of_ble_eq_true rfl) (Nat.le_of_ble_eq_true rfl) ?_
        have hw : r20 = (dg g2 k2) := hw
        subst hw
        exact k_iret () hx hb hr hlocks hK hP hD hS [0, 1, 2, 3, 4, 5] (by decide) rfl rfl (by rw [hz]; rfl) hAe hQ dX5_check_23
      · skip
        rw [show iI (z : Int) = iI (2 : Int) from congrArg iI hz] at hl
        refine lv_aload_n hx hb dX5_check_18 rfl (lv_at hl 0 rfl) ?_
        refine lv_iload_n hx hb dX5_check_19 rfl (lv_at hl 1 rfl) ?_
        refine k_calli (wc := [(hm, .inr (5, [.int (iI (0 : Int)), .ref x1, .ref x2, .ref x3, .ref x4, .ref x5, .ref x6, .ref x7, .int (iI ((kt : Nat) : Int)), .int (iI ((k1 : Nat) : Int)), .int (iI ((k2 : Nat) : Int)), .int (iI ((k3 : Nat) : Int)), .int (iI ((k4 : Nat) : Int)), .int (iI ((k5 : Nat) : Int)), .ref y1, .ref y2, .ref y3, .ref y4, .ref y5, .ref y6, .ref y7, .int (iI ((ms : Nat) : Int)), .int (iI ((kw : Nat) : Int)), .int (iI ((kd : Nat) : Int)), .int (iI ((ma : Nat) : Int)), .int (iI (lk : Int))])), (x4, .inl (cI, 900, .inl g3))]) (wr := [(x2, .inl (cI, 300, .inl g1)), (x3, .inl (cI, 300, .inl g2)), (x5, .inl (cI, 300, .inl g4)), (x6, .inl (cI, 300, .inl g5))]) (wf := fun _ => [(hm, .inr (5, [.int (iI (0 : Int)), .ref x1, .ref x2, .ref x3, .ref x4, .ref x5, .ref x6, .ref x7, .int (iI ((kt : Nat) : Int)), .int (iI ((k1 : Nat) : Int)), .int (iI ((k2 : Nat) : Int)), .int (iI ((k3 : Nat) : Int)), .int (iI ((k4 : Nat) : Int)), .int (iI ((k5 : Nat) : Int)), .ref y1, .ref y2, .ref y3, .ref y4, .ref y5, .ref y6, .ref y7, .int (iI ((ms : Nat) : Int)), .int (iI ((kw : Nat) : Int)), .int (iI ((kd : Nat) : Int)), .int (iI ((ma : Nat) : Int)), .int (iI (lk : Int))])), (x2, .inl (cI, 300, .inl g1)), (x3, .inl (cI, 300, .inl g2)), (x4, .inl (cI, 900, .inl g3)), (x5, .inl (cI, 300, .inl g4)), (x6, .inl (cI, 300, .inl g5))]) hK hP hD hS hA [0, 3] [1, 2, 4, 5] [4, 0, 1, 5, 2, 3] ⟨⟨rfl, rfl, by decide⟩, rfl, by decide, by decide⟩ (fun _ => ⟨rfl, rfl⟩) (by decide) (fun hPc hDc => va_runV (As := [.int (iI (2 : Int))]) (rest := []) ⟨hx, hb, hml, hown, hts⟩ (c_Mo_checkOf2 l D cI cZ (hm := hm) (cd := iI (0 : Int)) (x1 := x1) (x2 := x2) (x3 := x3) (x4 := x4) (x5 := x5) (x6 := x6) (x7 := x7) (kt := kt) (k1 := k1) (k2 := k2) (k3 := k3) (k4 := k4) (k5 := k5) (y1 := y1) (y2 := y2) (y3 := y3) (y4 := y4) (y5 := y5) (y6 := y6) (y7 := y7) (ms := ms) (kw := kw) (kd := kd) (ma := ma) (lk := lk) (g := g3) (hk3 := by omega) _) (cwV 1 hts (kgV wm583 wm585 wm24 wm44 wmcX5_checkOf) rfl rfl rfl (by decide +kernel) ⟨Nat.le_of_ble_eq_true rfl, Nat.le_of_ble_eq_true rfl⟩) (k_preV hK hPc hDc (ci := 5) (q0 := 0) rfl rfl) rfl rfl hl.1 rfl (lv_room (Nat.le_of_ble_eq_true rfl)) dX5_check_20 ⟨Nat.le_of_ble_eq_true rfl, Nat.le_of_ble_eq_true rfl⟩) (fun r20 u H locs hw hP hD hS => ?_)
        have hP : va_P D vwCl [(hm, .inr (5, [.int (iI (0 : Int)), .ref x1, .ref x2, .ref x3, .ref x4, .ref x5, .ref x6, .ref x7, .int (iI ((kt : Nat) : Int)), .int (iI ((k1 : Nat) : Int)), .int (iI ((k2 : Nat) : Int)), .int (iI ((k3 : Nat) : Int)), .int (iI ((k4 : Nat) : Int)), .int (iI ((k5 : Nat) : Int)), .ref y1, .ref y2, .ref y3, .ref y4, .ref y5, .ref y6, .ref y7, .int (iI ((ms : Nat) : Int)), .int (iI ((kw : Nat) : Int)), .int (iI ((kd : Nat) : Int)), .int (iI ((ma : Nat) : Int)), .int (iI (lk : Int))])), (x2, .inl (cI, 300, .inl g1)), (x3, .inl (cI, 300, .inl g2)), (x4, .inl (cI, 900, .inl g3)), (x5, .inl (cI, 300, .inl g4)), (x6, .inl (cI, 300, .inl g5))] H := hP
        have hD : va_D A [(hm, .inr (5, [.int (iI (0 : Int)), .ref x1, .ref x2, .ref x3, .ref x4, .ref x5, .ref x6, .ref x7, .int (iI ((kt : Nat) : Int)), .int (iI ((k1 : Nat) : Int)), .int (iI ((k2 : Nat) : Int)), .int (iI ((k3 : Nat) : Int)), .int (iI ((k4 : Nat) : Int)), .int (iI ((k5 : Nat) : Int)), .ref y1, .ref y2, .ref y3, .ref y4, .ref y5, .ref y6, .ref y7, .int (iI ((ms : Nat) : Int)), .int (iI ((kw : Nat) : Int)), .int (iI ((kd : Nat) : Int)), .int (iI ((ma : Nat) : Int)), .int (iI (lk : Int))])), (x2, .inl (cI, 300, .inl g1)), (x3, .inl (cI, 300, .inl g2)), (x4, .inl (cI, 900, .inl g3)), (x5, .inl (cI, 300, .inl g4)), (x6, .inl (cI, 300, .inl g5))] := hD
        refine W.widen (k := 0) (n := 0) (Nat.le_of_ble_eq_true rfl) (Nat.le_of_ble_eq_true rfl) ?_
        have hw : r20 = (dg g3 k3) := hw
        subst hw
        exact k_iret () hx hb hr hlocks hK hP hD hS [0, 1, 2, 3, 4, 5] (by decide) rfl rfl (by rw [hz]; rfl) hAe hQ dX5_check_23
      · skip
        rw [show iI (z : Int) = iI (3 : Int) from congrArg iI hz] at hl
        refine lv_aload_n hx hb dX5_check_18 rfl (lv_at hl 0 rfl) ?_
        refine lv_iload_n hx hb dX5_check_19 rfl (lv_at hl 1 rfl) ?_
        refine k_calli (wc := [(hm, .inr (5, [.int (iI (0 : Int)), .ref x1, .ref x2, .ref x3, .ref x4, .ref x5, .ref x6, .ref x7, .int (iI ((kt : Nat) : Int)), .int (iI ((k1 : Nat) : Int)), .int (iI ((k2 : Nat) : Int)), .int (iI ((k3 : Nat) : Int)), .int (iI ((k4 : Nat) : Int)), .int (iI ((k5 : Nat) : Int)), .ref y1, .ref y2, .ref y3, .ref y4, .ref y5, .ref y6, .ref y7, .int (iI ((ms : Nat) : Int)), .int (iI ((kw : Nat) : Int)), .int (iI ((kd : Nat) : Int)), .int (iI ((ma : Nat) : Int)), .int (iI (lk : Int))])), (x5, .inl (cI, 300, .inl g4))]) (wr := [(x2, .inl (cI, 300, .inl g1)), (x3, .inl (cI, 300, .inl g2)), (x4, .inl (cI, 900, .inl g3)), (x6, .inl (cI, 300, .inl g5))]) (wf := fun _ => [(hm, .inr (5, [.int (iI (0 : Int)), .ref x1, .ref x2, .ref x3, .ref x4, .ref x5, .ref x6, .ref x7, .int (iI ((kt : Nat) : Int)), .int (iI ((k1 : Nat) : Int)), .int (iI ((k2 : Nat) : Int)), .int (iI ((k3 : Nat) : Int)), .int (iI ((k4 : Nat) : Int)), .int (iI ((k5 : Nat) : Int)), .ref y1, .ref y2, .ref y3, .ref y4, .ref y5, .ref y6, .ref y7, .int (iI ((ms : Nat) : Int)), .int (iI ((kw : Nat) : Int)), .int (iI ((kd : Nat) : Int)), .int (iI ((ma : Nat) : Int)), .int (iI (lk : Int))])), (x2, .inl (cI, 300, .inl g1)), (x3, .inl (cI, 300, .inl g2)), (x4, .inl (cI, 900, .inl g3)), (x5, .inl (cI, 300, .inl g4)), (x6, .inl (cI, 300, .inl g5))]) hK hP hD hS hA [0, 4] [1, 2, 3, 5] [4, 0, 1, 2, 5, 3] ⟨⟨rfl, rfl, by decide⟩, rfl, by decide, by decide⟩ (fun _ => ⟨rfl, rfl⟩) (by decide) (fun hPc hDc => va_runV (As := [.int (iI (3 : Int))]) (rest := []) ⟨hx, hb, hml, hown, hts⟩ (c_Mo_checkOf3 l D cI cZ (hm := hm) (cd := iI (0 : Int)) (x1 := x1) (x2 := x2) (x3 := x3) (x4 := x4) (x5 := x5) (x6 := x6) (x7 := x7) (kt := kt) (k1 := k1) (k2 := k2) (k3 := k3) (k4 := k4) (k5 := k5) (y1 := y1) (y2 := y2) (y3 := y3) (y4 := y4) (y5 := y5) (y6 := y6) (y7 := y7) (ms := ms) (kw := kw) (kd := kd) (ma := ma) (lk := lk) (g := g4) (hk4 := by omega) _) (cwV 1 hts (kgV wm583 wm585 wm24 wm44 wmcX5_checkOf) rfl rfl rfl (by decide +kernel) ⟨Nat.le_of_ble_eq_true rfl, Nat.le_of_ble_eq_true rfl⟩) (k_preV hK hPc hDc (ci := 5) (q0 := 0) rfl rfl) rfl rfl hl.1 rfl (lv_room (Nat.le_of_ble_eq_true rfl)) dX5_check_20 ⟨Nat.le_of_ble_eq_true rfl, Nat.le_of_ble_eq_true rfl⟩) (fun r20 u H locs hw hP hD hS => ?_)
        have hP : va_P D vwCl [(hm, .inr (5, [.int (iI (0 : Int)), .ref x1, .ref x2, .ref x3, .ref x4, .ref x5, .ref x6, .ref x7, .int (iI ((kt : Nat) : Int)), .int (iI ((k1 : Nat) : Int)), .int (iI ((k2 : Nat) : Int)), .int (iI ((k3 : Nat) : Int)), .int (iI ((k4 : Nat) : Int)), .int (iI ((k5 : Nat) : Int)), .ref y1, .ref y2, .ref y3, .ref y4, .ref y5, .ref y6, .ref y7, .int (iI ((ms : Nat) : Int)), .int (iI ((kw : Nat) : Int)), .int (iI ((kd : Nat) : Int)), .int (iI ((ma : Nat) : Int)), .int (iI (lk : Int))])), (x2, .inl (cI, 300, .inl g1)), (x3, .inl (cI, 300, .inl g2)), (x4, .inl (cI, 900, .inl g3)), (x5, .inl (cI, 300, .inl g4)), (x6, .inl (cI, 300, .inl g5))] H := hP
        have hD : va_D A [(hm, .inr (5, [.int (iI (0 : Int)), .ref x1, .ref x2, .ref x3, .ref x4, .ref x5, .ref x6, .ref x7, .int (iI ((kt : Nat) : Int)), .int (iI ((k1 : Nat) : Int)), .int (iI ((k2 : Nat) : Int)), .int (iI ((k3 : Nat) : Int)), .int (iI ((k4 : Nat) : Int)), .int (iI ((k5 : Nat) : Int)), .ref y1, .ref y2, .ref y3, .ref y4, .ref y5, .ref y6, .ref y7, .int (iI ((ms : Nat) : Int)), .int (iI ((kw : Nat) : Int)), .int (iI ((kd : Nat) : Int)), .int (iI ((ma : Nat) : Int)), .int (iI (lk : Int))])), (x2, .inl (cI, 300, .inl g1)), (x3, .inl (cI, 300, .inl g2)), (x4, .inl (cI, 900, .inl g3)), (x5, .inl (cI, 300, .inl g4)), (x6, .inl (cI, 300, .inl g5))] := hD
        refine W.widen (k := 0) (n := 0) (Nat.le_of_ble_eq_true rfl) (Nat.le_of_ble_eq_true rfl) ?_
        have hw : r20 = (dg g4 k4) := hw
        subst hw
        exact k_iret () hx hb hr hlocks hK hP hD hS [0, 1, 2, 3, 4, 5] (by decide) rfl rfl (by rw [hz]; rfl) hAe hQ dX5_check_23
      · skip
        rw [show iI (z : Int) = iI (4 : Int) from congrArg iI hz] at hl
        refine lv_aload_n hx hb dX5_check_18 rfl (lv_at hl 0 rfl) ?_
        refine lv_iload_n hx hb dX5_check_19 rfl (lv_at hl 1 rfl) ?_
        refine k_calli (wc := [(hm, .inr (5, [.int (iI (0 : Int)), .ref x1, .ref x2, .ref x3, .ref x4, .ref x5, .ref x6, .ref x7, .int (iI ((kt : Nat) : Int)), .int (iI ((k1 : Nat) : Int)), .int (iI ((k2 : Nat) : Int)), .int (iI ((k3 : Nat) : Int)), .int (iI ((k4 : Nat) : Int)), .int (iI ((k5 : Nat) : Int)), .ref y1, .ref y2, .ref y3, .ref y4, .ref y5, .ref y6, .ref y7, .int (iI ((ms : Nat) : Int)), .int (iI ((kw : Nat) : Int)), .int (iI ((kd : Nat) : Int)), .int (iI ((ma : Nat) : Int)), .int (iI (lk : Int))])), (x6, .inl (cI, 300, .inl g5))]) (wr := [(x2, .inl (cI, 300, .inl g1)), (x3, .inl (cI, 300, .inl g2)), (x4, .inl (cI, 900, .inl g3)), (x5, .inl (cI, 300, .inl g4))]) (wf := fun _ => [(hm, .inr (5, [.int (iI (0 : Int)), .ref x1, .ref x2, .ref x3, .ref x4, .ref x5, .ref x6, .ref x7, .int (iI ((kt : Nat) : Int)), .int (iI ((k1 : Nat) : Int)), .int (iI ((k2 : Nat) : Int)), .int (iI ((k3 : Nat) : Int)), .int (iI ((k4 : Nat) : Int)), .int (iI ((k5 : Nat) : Int)), .ref y1, .ref y2, .ref y3, .ref y4, .ref y5, .ref y6, .ref y7, .int (iI ((ms : Nat) : Int)), .int (iI ((kw : Nat) : Int)), .int (iI ((kd : Nat) : Int)), .int (iI ((ma : Nat) : Int)), .int (iI (lk : Int))])), (x2, .inl (cI, 300, .inl g1)), (x3, .inl (cI, 300, .inl g2)), (x4, .inl (cI, 900, .inl g3)), (x5, .inl (cI, 300, .inl g4)), (x6, .inl (cI, 300, .inl g5))]) hK hP hD hS hA [0, 5] [1, 2, 3, 4] [4, 0, 1, 2, 3, 5] ⟨⟨rfl, rfl, by decide⟩, rfl, by decide, by decide⟩ (fun _ => ⟨rfl, rfl⟩) (by decide) (fun hPc hDc => va_runV (As := [.int (iI (4 : Int))]) (rest := []) ⟨hx, hb, hml, hown, hts⟩ (c_Mo_checkOf4 l D cI cZ (hm := hm) (cd := iI (0 : Int)) (x1 := x1) (x2 := x2) (x3 := x3) (x4 := x4) (x5 := x5) (x6 := x6) (x7 := x7) (kt := kt) (k1 := k1) (k2 := k2) (k3 := k3) (k4 := k4) (k5 := k5) (y1 := y1) (y2 := y2) (y3 := y3) (y4 := y4) (y5 := y5) (y6 := y6) (y7 := y7) (ms := ms) (kw := kw) (kd := kd) (ma := ma) (lk := lk) (g := g5) (hk5 := by omega) _) (cwV 1 hts (kgV wm583 wm585 wm24 wm44 wmcX5_checkOf) rfl rfl rfl (by decide +kernel) ⟨Nat.le_of_ble_eq_true rfl, Nat.le_of_ble_eq_true rfl⟩) (k_preV hK hPc hDc (ci := 5) (q0 := 0) rfl rfl) rfl rfl hl.1 rfl (lv_room (Nat.le_of_ble_eq_true rfl)) dX5_check_20 ⟨Nat.le_of_ble_eq_true rfl, Nat.le_of_ble_eq_true rfl⟩) (fun r20 u H locs hw hP hD hS => ?_)
        have hP : va_P D vwCl [(hm, .inr (5, [.int (iI (0 : Int)), .ref x1, .ref x2, .ref x3, .ref x4, .ref x5, .ref x6, .ref x7, .int (iI ((kt : Nat) : Int)), .int (iI ((k1 : Nat) : Int)), .int (iI ((k2 : Nat) : Int)), .int (iI ((k3 : Nat) : Int)), .int (iI ((k4 : Nat) : Int)), .int (iI ((k5 : Nat) : Int)), .ref y1, .ref y2, .ref y3, .ref y4, .ref y5, .ref y6, .ref y7, .int (iI ((ms : Nat) : Int)), .int (iI ((kw : Nat) : Int)), .int (iI ((kd : Nat) : Int)), .int (iI ((ma : Nat) : Int)), .int (iI (lk : Int))])), (x2, .inl (cI, 300, .inl g1)), (x3, .inl (cI, 300, .inl g2)), (x4, .inl (cI, 900, .inl g3)), (x5, .inl (cI, 300, .inl g4)), (x6, .inl (cI, 300, .inl g5))] H := hP
        have hD : va_D A [(hm, .inr (5, [.int (iI (0 : Int)), .ref x1, .ref x2, .ref x3, .ref x4, .ref x5, .ref x6, .ref x7, .int (iI ((kt : Nat) : Int)), .int (iI ((k1 : Nat) : Int)), .int (iI ((k2 : Nat) : Int)), .int (iI ((k3 : Nat) : Int)), .int (iI ((k4 : Nat) : Int)), .int (iI ((k5 : Nat) : Int)), .ref y1, .ref y2, .ref y3, .ref y4, .ref y5, .ref y6, .ref y7, .int (iI ((ms : Nat) : Int)), .int (iI ((kw : Nat) : Int)), .int (iI ((kd : Nat) : Int)), .int (iI ((ma : Nat) : Int)), .int (iI (lk : Int))])), (x2, .inl (cI, 300, .inl g1)), (x3, .inl (cI, 300, .inl g2)), (x4, .inl (cI, 900, .inl g3)), (x5, .inl (cI, 300, .inl g4)), (x6, .inl (cI, 300, .inl g5))] := hD
        refine W.widen (k := 0) (n := 0) (Nat.le_of_ble_eq_true rfl) (Nat.le_of_ble_eq_true rfl) ?_
        have hw : r20 = (dg g5 k5) := hw
        subst hw
        exact k_iret () hx hb hr hlocks hK hP hD hS [0, 1, 2, 3, 4, 5] (by decide) rfl rfl (by rw [hz]; rfl) hAe hQ dX5_check_23
    · skip
      have c11 := iI_leF (a := (z : Int)) (b := (4 : Int)) c11 (by omega)
      refine lv_iconst (v := iI (0 : Int)) hx hb dX5_check_14 rfl ?_
      refine lv_goto (tgt := 23) hx hb dX5_check_15 (by decide) ?_
      exact k_iret () hx hb hr hlocks hK hP hD hS [0, 1, 2, 3, 4, 5] (by decide) rfl rfl ((ixF_out (by omega)).symm) hAe hQ dX5_check_23
