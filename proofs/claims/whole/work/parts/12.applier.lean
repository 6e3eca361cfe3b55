abbrev rm_c_Applier_doAdd : Room := { frames := 2, cells := 0, slots := 0, locals := 46 }
set_option maxHeartbeats 4000000 in
set_option maxRecDepth 100000 in
theorem c_Applier_doAdd (l : Launch) (D : va_G) (cI cZ : ClassId) (ha : Nat) (h3 : Nat) (h1 : Nat) (h4 : Nat) (a0 : Nat) (b0 : Nat) (ds : Int) (dc : Int32) (a3 : Nat) (n3 : Nat) (F : Nat → Nat) (a4 : Nat) (f4 : Nat → Int32) (T : List Int32) (len : Nat) (hat : a0 ≤ n3) (hn3 : n3 ≤ 900) (hds : 0 ≤ ds ∧ ds ≤ 300) (hTl : (T.length : Int) ≤ ds) (hlen : 1 ≤ len ∧ len < 268435456) : MI l yX0_doAdd wsX0_doAdd rm_c_Applier_doAdd D (kT cI cZ) [.ref ha, .int (iI ((len : Nat) : Int))] [(ha, .inr (0, [.ref h3, .ref h1, .ref h4, .int (iI ((a0 : Nat) : Int)), .int (iI ((b0 : Nat) : Int)), .int (iI (ds : Int)), .int dc])), (h3, .inr (3, [.ref a3, .int (iI ((n3 : Nat) : Int))])), (a3, .inl (cI, 900, .inl (kN F))), (h4, .inr (3, [.ref a4, .int (iI (((T).length : Nat) : Int))])), (a4, .inl (cI, 300, .inl (apL f4 0 (T))))] (fun (r : Int32) (u : Nat × Nat × List Int32) => r = iI (adF F n3 ds a0 b0 T len).1 ∧ u = (adF F n3 ds a0 b0 T len).2) (fun (u : Nat × Nat × List Int32) => match u with | ⟨a9, b9, T9⟩ => [(ha, .inr (0, [.ref h3, .ref h1, .ref h4, .int (iI ((a9 : Nat) : Int)), .int (iI ((b9 : Nat) : Int)), .int (iI (ds : Int)), .int dc])), (h3, .inr (3, [.ref a3, .int (iI ((n3 : Nat) : Int))])), (a3, .inl (cI, 900, .inl (kN F))), (h4, .inr (3, [.ref a4, .int (iI (((T9).length : Nat) : Int))])), (a4, .inl (cI, 300, .inl (apL f4 0 (T9))))]) 0 0 := by
  intro sz
  refine k_of (cc := cX0_doAdd) (maxL := 2) (ret := (some .int)) (by decide) rfl (Nat.le_of_ble_eq_true rfl) ?_
  intro p e s m args below meth c A Q hAe hQ hx hb hr hml hts hown hlocks hnm hP hK hD hS hA ls hl
  have hl : lv_has ls 2 [(0, .ref ha), (1, .int (iI ((len : Nat) : Int)))] := hl
  have hi_X0 : ∀ w ∈ u_ws RX0 TX0 7, w ∈ wsX0_doAdd := fun w h => km (ikX0 w h)
  have fl28 := hts _ (km wm108)
  have fl18 := hts _ (km wm105)
  have fl9 := hts _ (km wm103)
  have fl21 := hts _ (km wm106)
  refine lv_aload_n hx hb dX0_doAdd_0 rfl (lv_at hl 0 rfl) ?_
  refine k_calli (wc := [(ha, .inr (0, [.ref h3, .ref h1, .ref h4, .int (iI ((a0 : Nat) : Int)), .int (iI ((b0 : Nat) : Int)), .int (iI (ds : Int)), .int dc])), (h3, .inr (3, [.ref a3, .int (iI ((n3 : Nat) : Int))])), (a3, .inl (cI, 900, .inl (kN F)))]) (wr := [(h4, .inr (3, [.ref a4, .int (iI (((T).length : Nat) : Int))])), (a4, .inl (cI, 300, .inl (apL f4 0 (T))))]) (wf := fun _ => [(ha, .inr (0, [.ref h3, .ref h1, .ref h4, .int (iI ((a0 : Nat) : Int)), .int (iI ((b0 : Nat) : Int)), .int (iI (ds : Int)), .int dc])), (h3, .inr (3, [.ref a3, .int (iI ((n3 : Nat) : Int))])), (a3, .inl (cI, 900, .inl (kN F))), (h4, .inr (3, [.ref a4, .int (iI (((T).length : Nat) : Int))])), (a4, .inl (cI, 300, .inl (apL f4 0 (T))))]) hK hP hD hS hA [0, 1, 2] [3, 4] [2, 3, 4, 0, 1] ⟨⟨rfl, rfl, by decide⟩, rfl, by decide, by decide⟩ (fun _ => ⟨rfl, rfl⟩) (by decide) (fun hPc hDc => va_runV (As := []) (rest := []) ⟨hx, hb, hml, hown, hts⟩ (c_Applier_unread l D cI cZ (ha := ha) (h3 := h3) (h1 := h1) (h4 := h4) (a0 := a0) (b0 := b0) (ds := ds) (dc := dc) (a3 := a3) (n3 := n3) (F := F) (hat := by omega) (hn3 := by omega) _) (cwV 0 hts (kgV wm354 wm356 wm6 wm42 wmcX0_unread) rfl rfl rfl (by decide +kernel) ⟨Nat.le_of_ble_eq_true rfl, Nat.le_of_ble_eq_true rfl⟩) (k_preV hK hPc hDc (ci := 0) (q0 := 0) rfl rfl) rfl rfl hl.1 rfl (lv_room (Nat.le_of_ble_eq_true rfl)) dX0_doAdd_1 ⟨Nat.le_of_ble_eq_true rfl, Nat.le_of_ble_eq_true rfl⟩) (fun r1 u H locs hw hP hD hS => ?_)
  have hP : va_P D vwCl [(ha, .inr (0, [.ref h3, .ref h1, .ref h4, .int (iI ((a0 : Nat) : Int)), .int (iI ((b0 : Nat) : Int)), .int (iI (ds : Int)), .int dc])), (h3, .inr (3, [.ref a3, .int (iI ((n3 : Nat) : Int))])), (a3, .inl (cI, 900, .inl (kN F))), (h4, .inr (3, [.ref a4, .int (iI (((T).length : Nat) : Int))])), (a4, .inl (cI, 300, .inl (apL f4 0 (T))))] H := hP
  have hD : va_D A [(ha, .inr (0, [.ref h3, .ref h1, .ref h4, .int (iI ((a0 : Nat) : Int)), .int (iI ((b0 : Nat) : Int)), .int (iI (ds : Int)), .int dc])), (h3, .inr (3, [.ref a3, .int (iI ((n3 : Nat) : Int))])), (a3, .inl (cI, 900, .inl (kN F))), (h4, .inr (3, [.ref a4, .int (iI (((T).length : Nat) : Int))])), (a4, .inl (cI, 300, .inl (apL f4 0 (T))))] := hD
  refine W.widen (k := 0) (n := 0) (Nat.le_of_ble_eq_true rfl) (Nat.le_of_ble_eq_true rfl) ?_
  have hw : r1 = iI (((n3 - a0) : Nat) : Int) := hw
  subst hw
  refine lv_iload_n hx hb dX0_doAdd_4 rfl (lv_at hl 1 rfl) ?_
  refine lv_icmp_ge (tgt := 10) hx hb dX0_doAdd_5 (by decide) (fun c5 => ?_) (fun c5 => ?_)
  · skip
    have c5 := iI_leT (a := ((len : Nat) : Int)) (b := (((n3 - a0) : Nat) : Int)) c5 (by omega)
    refine lv_iload_n hx hb dX0_doAdd_10 rfl (lv_at hl 1 rfl) ?_
    refine lv_aload_n hx hb dX0_doAdd_11 rfl (lv_at hl 0 rfl) ?_
    refine va_get (D := D) (ci := 0) (v := .int (iI (ds : Int))) (C := RX0) (T := TX0) (N := 7) hx hb hts hi_X0 hown hK hP 0 rfl rfl 5 (by decide) fl28 (fun _ h9 => h9) rfl dX0_doAdd_12 ?_
    refine lv_aload_n hx hb dX0_doAdd_15 rfl (lv_at hl 0 rfl) ?_
    refine va_get (D := D) (ci := 0) (v := .ref h4) (C := RX0) (T := TX0) (N := 7) hx hb hts hi_X0 hown hK hP 0 rfl rfl 2 (by decide) fl18 (fun _ h9 => h9) rfl dX0_doAdd_16 ?_
    refine k_calli (wc := [(h4, .inr (3, [.ref a4, .int (iI (((T).length : Nat) : Int))])), (a4, .inl (cI, 300, .inl (apL f4 0 (T))))]) (wr := [(ha, .inr (0, [.ref h3, .ref h1, .ref h4, .int (iI ((a0 : Nat) : Int)), .int (iI ((b0 : Nat) : Int)), .int (iI (ds : Int)), .int dc])), (h3, .inr (3, [.ref a3, .int (iI ((n3 : Nat) : Int))])), (a3, .inl (cI, 900, .inl (kN F)))]) (wf := fun _ => [(ha, .inr (0, [.ref h3, .ref h1, .ref h4, .int (iI ((a0 : Nat) : Int)), .int (iI ((b0 : Nat) : Int)), .int (iI (ds : Int)), .int dc])), (h3, .inr (3, [.ref a3, .int (iI ((n3 : Nat) : Int))])), (a3, .inl (cI, 900, .inl (kN F))), (h4, .inr (3, [.ref a4, .int (iI ((((T).length) : Nat) : Int))])), (a4, .inl (cI, 300, .inl (apL f4 0 (T))))]) hK hP hD hS hA [3, 4] [0, 1, 2] [0, 1, 2, 3, 4] ⟨⟨rfl, rfl, by decide⟩, rfl, by decide, by decide⟩ (fun _ => ⟨rfl, rfl⟩) (by decide) (fun hPc hDc => va_runV (As := []) (rest := [.int (iI (ds : Int)), .int (iI ((len : Nat) : Int))]) ⟨hx, hb, hml, hown, hts⟩ (c_Row_count l D cI cZ (h := h4) (a := a4) (M := 300) (n := (T).length) (f := (apL f4 0 (T)))  _) (cwV 0 hts (kgV wm358 wm193 wm194 wm39 wmcX3_count) rfl rfl rfl (by decide +kernel) ⟨Nat.le_of_ble_eq_true rfl, Nat.le_of_ble_eq_true rfl⟩) (k_preV hK hPc hDc (ci := 3) (q0 := 0) rfl rfl) rfl rfl hl.1 rfl (lv_room (Nat.le_of_ble_eq_true rfl)) dX0_doAdd_19 ⟨Nat.le_of_ble_eq_true rfl, Nat.le_of_ble_eq_true rfl⟩) (fun r19 u H locs hw hP hD hS => ?_)
    have hP : va_P D vwCl [(ha, .inr (0, [.ref h3, .ref h1, .ref h4, .int (iI ((a0 : Nat) : Int)), .int (iI ((b0 : Nat) : Int)), .int (iI (ds : Int)), .int dc])), (h3, .inr (3, [.ref a3, .int (iI ((n3 : Nat) : Int))])), (a3, .inl (cI, 900, .inl (kN F))), (h4, .inr (3, [.ref a4, .int (iI ((((T).length) : Nat) : Int))])), (a4, .inl (cI, 300, .inl (apL f4 0 (T))))] H := hP
    have hD : va_D A [(ha, .inr (0, [.ref h3, .ref h1, .ref h4, .int (iI ((a0 : Nat) : Int)), .int (iI ((b0 : Nat) : Int)), .int (iI (ds : Int)), .int dc])), (h3, .inr (3, [.ref a3, .int (iI ((n3 : Nat) : Int))])), (a3, .inl (cI, 900, .inl (kN F))), (h4, .inr (3, [.ref a4, .int (iI ((((T).length) : Nat) : Int))])), (a4, .inl (cI, 300, .inl (apL f4 0 (T))))] := hD
    refine W.widen (k := 0) (n := 0) (Nat.le_of_ble_eq_true rfl) (Nat.le_of_ble_eq_true rfl) ?_
    have hw : r19 = iI ((((T).length) : Nat) : Int) := hw
    subst hw
    refine lv_isub hx hb dX0_doAdd_22 ?_
    refine kn_i (iB (c := ((ds : Int) - ((((T).length) : Nat) : Int) : Int)) (by omega)) ?_
    refine lv_icmp_le (tgt := 29) hx hb dX0_doAdd_23 (by decide) (fun c23 => ?_) (fun c23 => ?_)
    · skip
      have c23 := iI_leT (a := ((len : Nat) : Int)) (b := ((ds : Int) - ((((T).length) : Nat) : Int) : Int)) c23 (by omega)
      refine lv_aload_n hx hb dX0_doAdd_29 rfl (lv_at hl 0 rfl) ?_
      refine va_get (D := D) (ci := 0) (v := .ref h4) (C := RX0) (T := TX0) (N := 7) hx hb hts hi_X0 hown hK hP 0 rfl rfl 2 (by decide) fl18 (fun _ h9 => h9) rfl dX0_doAdd_30 ?_
      refine lv_aload_n hx hb dX0_doAdd_33 rfl (lv_at hl 0 rfl) ?_
      refine va_get (D := D) (ci := 0) (v := .ref h3) (C := RX0) (T := TX0) (N := 7) hx hb hts hi_X0 hown hK hP 0 rfl rfl 0 (by decide) fl9 (fun _ h9 => h9) rfl dX0_doAdd_34 ?_
      refine lv_aload_n hx hb dX0_doAdd_37 rfl (lv_at hl 0 rfl) ?_
      refine va_get (D := D) (ci := 0) (v := .int (iI ((a0 : Nat) : Int))) (C := RX0) (T := TX0) (N := 7) hx hb hts hi_X0 hown hK hP 0 rfl rfl 3 (by decide) fl21 (fun _ h9 => h9) rfl dX0_doAdd_38 ?_
      refine lv_iload_n hx hb dX0_doAdd_41 rfl (lv_at hl 1 rfl) ?_
      refine k_callv (wc := [(h4, .inr (3, [.ref a4, .int (iI ((((T).length) : Nat) : Int))])), (a4, .inl (cI, 300, .inl (apL f4 0 (T)))), (h3, .inr (3, [.ref a3, .int (iI ((n3 : Nat) : Int))])), (a3, .inl (cI, 900, .inl (kN F)))]) (wr := [(ha, .inr (0, [.ref h3, .ref h1, .ref h4, .int (iI ((a0 : Nat) : Int)), .int (iI ((b0 : Nat) : Int)), .int (iI (ds : Int)), .int dc]))]) (wf := fun _ => [(ha, .inr (0, [.ref h3, .ref h1, .ref h4, .int (iI ((a0 : Nat) : Int)), .int (iI ((b0 : Nat) : Int)), .int (iI (ds : Int)), .int dc])), (h3, .inr (3, [.ref a3, .int (iI ((n3 : Nat) : Int))])), (a3, .inl (cI, 900, .inl (kN F))), (h4, .inr (3, [.ref a4, .int (iI ((((T).length) + len : Nat) : Int))])), (a4, .inl (cI, 300, .inl (apL (apL f4 0 (T)) ((T).length) (sl (kN F) a0 len))))]) hK hP hD hS hA [3, 4, 1, 2] [0] [0, 3, 4, 1, 2] ⟨⟨rfl, rfl, by decide⟩, rfl, by decide, by decide⟩ (fun _ => ⟨rfl, rfl⟩) (by decide) (fun hPc hDc => va_runV (As := [.ref h3, .int (iI ((a0 : Nat) : Int)), .int (iI ((len : Nat) : Int))]) (rest := []) ⟨hx, hb, hml, hown, hts⟩ (c_Row_addFrom l D cI cZ (h := h4) (a := a4) (M := 300) (n := ((T).length)) (f := (apL f4 0 (T))) (h2 := h3) (a2 := a3) (M2 := 900) (n2 := n3) (g := (kN F)) (st := a0) (k := len) (hM := by omega) (hM2 := by omega) (hn2 := by omega) (hst := by omega) (hk := by omega) _) (cwV 3 hts (kgV wm376 wm218 wm219 wm39 wmcX3_addFrom) rfl rfl rfl (by decide +kernel) ⟨Nat.le_of_ble_eq_true rfl, Nat.le_of_ble_eq_true rfl⟩) (k_preV hK hPc hDc (ci := 3) (q0 := 0) rfl rfl) rfl rfl hl.1 rfl (lv_room (Nat.le_of_ble_eq_true rfl)) dX0_doAdd_42 ⟨Nat.le_of_ble_eq_true rfl, Nat.le_of_ble_eq_true rfl⟩) (fun u H locs hw hP hD hS => ?_)
      have hP : va_P D vwCl [(ha, .inr (0, [.ref h3, .ref h1, .ref h4, .int (iI ((a0 : Nat) : Int)), .int (iI ((b0 : Nat) : Int)), .int (iI (ds : Int)), .int dc])), (h3, .inr (3, [.ref a3, .int (iI ((n3 : Nat) : Int))])), (a3, .inl (cI, 900, .inl (kN F))), (h4, .inr (3, [.ref a4, .int (iI ((((T).length) + len : Nat) : Int))])), (a4, .inl (cI, 300, .inl (apL (apL f4 0 (T)) ((T).length) (sl (kN F) a0 len))))] H := hP
      have hD : va_D A [(ha, .inr (0, [.ref h3, .ref h1, .ref h4, .int (iI ((a0 : Nat) : Int)), .int (iI ((b0 : Nat) : Int)), .int (iI (ds : Int)), .int dc])), (h3, .inr (3, [.ref a3, .int (iI ((n3 : Nat) : Int))])), (a3, .inl (cI, 900, .inl (kN F))), (h4, .inr (3, [.ref a4, .int (iI ((((T).length) + len : Nat) : Int))])), (a4, .inl (cI, 300, .inl (apL (apL f4 0 (T)) ((T).length) (sl (kN F) a0 len))))] := hD
      refine W.widen (k := 0) (n := 0) (Nat.le_of_ble_eq_true rfl) (Nat.le_of_ble_eq_true rfl) ?_
      rw [show (apL (apL f4 0 (T)) ((T).length) (sl (kN F) a0 len)) = (apL f4 0 (T ++ sl (kN F) a0 len)) from apL0] at hP hD
      rw [show iI ((((T).length) + len : Nat) : Int) = iI (((T ++ sl (kN F) a0 len).length : Nat) : Int) from len_s] at hP hD
      refine lv_aload_n hx hb dX0_doAdd_45 rfl (lv_at hl 0 rfl) ?_
      refine lv_dup hx hb dX0_doAdd_46 rfl ?_
      refine va_get (D := D) (ci := 0) (v := .int (iI ((a0 : Nat) : Int))) (C := RX0) (T := TX0) (N := 7) hx hb hts hi_X0 hown hK hP 0 rfl rfl 3 (by decide) fl21 (fun _ h9 => h9) rfl dX0_doAdd_47 ?_
      refine lv_iload_n hx hb dX0_doAdd_50 rfl (lv_at hl 1 rfl) ?_
      refine lv_iadd hx hb dX0_doAdd_51 ?_
      refine kn_i (iA (c := (((a0 + len) : Nat) : Int)) (by omega)) ?_
      refine va_put (D := D) (ci := 0) (v := .int (iI (((a0 + len) : Nat) : Int))) (ty := .int) (C := RX0) (T := TX0) (N := 7) hx hb hts hi_X0 tyX0 tyX0_ok nmX0 hown hK hP hD hS 0 rfl rfl 3 (by decide) fl21 (fun _ h9 => h9) rfl (by decide +kernel) rfl rfl (Nat.le_of_ble_eq_true rfl) dX0_doAdd_52 (fun H locs hP hD hS => ?_)
      have hP : va_P D vwCl [(ha, .inr (0, [.ref h3, .ref h1, .ref h4, .int (iI (((a0 + len) : Nat) : Int)), .int (iI ((b0 : Nat) : Int)), .int (iI (ds : Int)), .int dc])), (h3, .inr (3, [.ref a3, .int (iI ((n3 : Nat) : Int))])), (a3, .inl (cI, 900, .inl (kN F))), (h4, .inr (3, [.ref a4, .int (iI (((T ++ sl (kN F) a0 len).length : Nat) : Int))])), (a4, .inl (cI, 300, .inl (apL f4 0 (T ++ sl (kN F) a0 len))))] H := hP
      have hD : va_D A [(ha, .inr (0, [.ref h3, .ref h1, .ref h4, .int (iI (((a0 + len) : Nat) : Int)), .int (iI ((b0 : Nat) : Int)), .int (iI (ds : Int)), .int dc])), (h3, .inr (3, [.ref a3, .int (iI ((n3 : Nat) : Int))])), (a3, .inl (cI, 900, .inl (kN F))), (h4, .inr (3, [.ref a4, .int (iI (((T ++ sl (kN F) a0 len).length : Nat) : Int))])), (a4, .inl (cI, 300, .inl (apL f4 0 (T ++ sl (kN F) a0 len))))] := hD
      refine lv_iconst (v := iI (0 : Int)) hx hb dX0_doAdd_55 rfl ?_
      have hE : adF F n3 ds a0 b0 T len = (0, a0 + len, b0, T ++ sl (kN F) a0 len) := by unfold adF; rw [if_neg (by omega), if_neg (by omega)]
      exact k_iret (a0 + len, b0, T ++ sl (kN F) a0 len) hx hb hr hlocks hK hP hD hS [0, 1, 2, 3, 4] (by decide) rfl rfl (⟨by rw [hE], by rw [hE]⟩) hAe hQ dX0_doAdd_56
    · skip
      have c23 := iI_leF (a := ((len : Nat) : Int)) (b := ((ds : Int) - ((((T).length) : Nat) : Int) : Int)) c23 (by omega)
      refine lv_bipush (v := iI (-6 : Int)) hx hb dX0_doAdd_26 (by decide) ?_
      have hE : adF F n3 ds a0 b0 T len = (-6, a0, b0, T) := by unfold adF; rw [if_neg (by omega), if_pos (by omega)]
      exact k_iret (a0, b0, T) hx hb hr hlocks hK hP hD hS [0, 1, 2, 3, 4] (by decide) rfl rfl (⟨by rw [hE], by rw [hE]⟩) hAe hQ dX0_doAdd_28
  · skip
    have c5 := iI_leF (a := ((len : Nat) : Int)) (b := (((n3 - a0) : Nat) : Int)) c5 (by omega)
    refine lv_iconst (v := iI (-1 : Int)) hx hb dX0_doAdd_8 rfl ?_
    have hE : adF F n3 ds a0 b0 T len = (-1, a0, b0, T) := by unfold adF; rw [if_pos (by omega)]
    exact k_iret (a0, b0, T) hx hb hr hlocks hK hP hD hS [0, 1, 2, 3, 4] (by decide) rfl rfl (⟨by rw [hE], by rw [hE]⟩) hAe hQ dX0_doAdd_9

abbrev rm_c_Applier_doCopy : Room := { frames := 2, cells := 0, slots := 0, locals := 46 }
set_option maxHeartbeats 4000000 in
set_option maxRecDepth 100000 in
theorem c_Applier_doCopy (l : Launch) (D : va_G) (cI cZ : ClassId) (ha : Nat) (h3 : Nat) (h1 : Nat) (h4 : Nat) (a0 : Nat) (b0 : Nat) (ds : Int) (dc : Int32) (a3 : Nat) (n3 : Nat) (F : Nat → Nat) (a1 : Nat) (n1 : Nat) (f1 : Nat → Int32) (a4 : Nat) (f4 : Nat → Int32) (T : List Int32) (len : Nat) (hat : a0 ≤ n3) (hn3 : n3 ≤ 900) (hB : ∀ j, j < n3 → F j < 256) (hn1 : n1 ≤ 300) (hb0 : b0 ≤ n1) (hds : 0 ≤ ds ∧ ds ≤ 300) (hTl : (T.length : Int) ≤ ds) (hlen : 1 ≤ len ∧ len < 268435456) : MI l yX0_doCopy wsX0_doCopy rm_c_Applier_doCopy D (kT cI cZ) [.ref ha, .int (iI ((len : Nat) : Int))] [(ha, .inr (0, [.ref h3, .ref h1, .ref h4, .int (iI ((a0 : Nat) : Int)), .int (iI ((b0 : Nat) : Int)), .int (iI (ds : Int)), .int dc])), (h3, .inr (3, [.ref a3, .int (iI ((n3 : Nat) : Int))])), (a3, .inl (cI, 900, .inl (kN F))), (h1, .inr (3, [.ref a1, .int (iI ((n1 : Nat) : Int))])), (a1, .inl (cI, 300, .inl f1)), (h4, .inr (3, [.ref a4, .int (iI (((T).length : Nat) : Int))])), (a4, .inl (cI, 300, .inl (apL f4 0 (T))))] (fun (r : Int32) (u : Nat × Nat × List Int32) => r = iI (cpF F n3 f1 n1 ds a0 b0 T len).1 ∧ u = (cpF F n3 f1 n1 ds a0 b0 T len).2) (fun (u : Nat × Nat × List Int32) => match u with | ⟨a9, b9, T9⟩ => [(ha, .inr (0, [.ref h3, .ref h1, .ref h4, .int (iI ((a9 : Nat) : Int)), .int (iI ((b9 : Nat) : Int)), .int (iI (ds : Int)), .int dc])), (h3, .inr (3, [.ref a3, .int (iI ((n3 : Nat) : Int))])), (a3, .inl (cI, 900, .inl (kN F))), (h1, .inr (3, [.ref a1, .int (iI ((n1 : Nat) : Int))])), (a1, .inl (cI, 300, .inl f1)), (h4, .inr (3, [.ref a4, .int (iI (((T9).length : Nat) : Int))])), (a4, .inl (cI, 300, .inl (apL f4 0 (T9))))]) 0 0 := by
  intro sz
  refine k_of (cc := cX0_doCopy) (maxL := 4) (ret := (some .int)) (by decide) rfl (Nat.le_of_ble_eq_true rfl) ?_
  intro p e s m args below meth c A Q hAe hQ hx hb hr hml hts hown hlocks hnm hP hK hD hS hA ls hl
  have hl : lv_has ls 4 [(0, .ref ha), (1, .int (iI ((len : Nat) : Int)))] := hl
  have hi_X0 : ∀ w ∈ u_ws RX0 TX0 7, w ∈ wsX0_doCopy := fun w h => km (ikX0 w h)
  have fl25 := hts _ (km wm107)
  have fl15 := hts _ (km wm104)
  have fl28 := hts _ (km wm108)
  have fl18 := hts _ (km wm105)
  refine lv_aload_n hx hb dX0_doCopy_0 rfl (lv_at hl 0 rfl) ?_
  refine k_calli (wc := [(ha, .inr (0, [.ref h3, .ref h1, .ref h4, .int (iI ((a0 : Nat) : Int)), .int (iI ((b0 : Nat) : Int)), .int (iI (ds : Int)), .int dc])), (h3, .inr (3, [.ref a3, .int (iI ((n3 : Nat) : Int))])), (a3, .inl (cI, 900, .inl (kN F)))]) (wr := [(h1, .inr (3, [.ref a1, .int (iI ((n1 : Nat) : Int))])), (a1, .inl (cI, 300, .inl f1)), (h4, .inr (3, [.ref a4, .int (iI (((T).length : Nat) : Int))])), (a4, .inl (cI, 300, .inl (apL f4 0 (T))))]) (wf := fun _ => [(ha, .inr (0, [.ref h3, .ref h1, .ref h4, .int (iI (((rv F n3 a0).2 : Nat) : Int)), .int (iI ((b0 : Nat) : Int)), .int (iI (ds : Int)), .int dc])), (h3, .inr (3, [.ref a3, .int (iI ((n3 : Nat) : Int))])), (a3, .inl (cI, 900, .inl (kN F))), (h1, .inr (3, [.ref a1, .int (iI ((n1 : Nat) : Int))])), (a1, .inl (cI, 300, .inl f1)), (h4, .inr (3, [.ref a4, .int (iI (((T).length : Nat) : Int))])), (a4, .inl (cI, 300, .inl (apL f4 0 (T))))]) hK hP hD hS hA [0, 1, 2] [3, 4, 5, 6] [4, 5, 6, 0, 1, 2, 3] ⟨⟨rfl, rfl, by decide⟩, rfl, by decide, by decide⟩ (fun _ => ⟨rfl, rfl⟩) (by decide) (fun hPc hDc => va_runV (As := []) (rest := []) ⟨hx, hb, hml, hown, hts⟩ (c_Applier_readVarint l D cI cZ (ha := ha) (h3 := h3) (h1 := h1) (h4 := h4) (a0 := a0) (b0 := b0) (ds := ds) (dc := dc) (a3 := a3) (n3 := n3) (F := F) (hat := by omega) (hn3 := by omega) (hB := by omega) _) (cwV 0 hts (kgV wm349 wm351 wm5 wm42 wmcX0_readVarint) rfl rfl rfl (by decide +kernel) ⟨Nat.le_of_ble_eq_true rfl, Nat.le_of_ble_eq_true rfl⟩) (k_preV hK hPc hDc (ci := 0) (q0 := 0) rfl rfl) rfl rfl hl.1 rfl (lv_room (Nat.le_of_ble_eq_true rfl)) dX0_doCopy_1 ⟨Nat.le_of_ble_eq_true rfl, Nat.le_of_ble_eq_true rfl⟩) (fun r1 u H locs hw hP hD hS => ?_)
  have hP : va_P D vwCl [(ha, .inr (0, [.ref h3, .ref h1, .ref h4, .int (iI (((rv F n3 a0).2 : Nat) : Int)), .int (iI ((b0 : Nat) : Int)), .int (iI (ds : Int)), .int dc])), (h3, .inr (3, [.ref a3, .int (iI ((n3 : Nat) : Int))])), (a3, .inl (cI, 900, .inl (kN F))), (h1, .inr (3, [.ref a1, .int (iI ((n1 : Nat) : Int))])), (a1, .inl (cI, 300, .inl f1)), (h4, .inr (3, [.ref a4, .int (iI (((T).length : Nat) : Int))])), (a4, .inl (cI, 300, .inl (apL f4 0 (T))))] H := hP
  have hD : va_D A [(ha, .inr (0, [.ref h3, .ref h1, .ref h4, .int (iI (((rv F n3 a0).2 : Nat) : Int)), .int (iI ((b0 : Nat) : Int)), .int (iI (ds : Int)), .int dc])), (h3, .inr (3, [.ref a3, .int (iI ((n3 : Nat) : Int))])), (a3, .inl (cI, 900, .inl (kN F))), (h1, .inr (3, [.ref a1, .int (iI ((n1 : Nat) : Int))])), (a1, .inl (cI, 300, .inl f1)), (h4, .inr (3, [.ref a4, .int (iI (((T).length : Nat) : Int))])), (a4, .inl (cI, 300, .inl (apL f4 0 (T))))] := hD
  refine W.widen (k := 0) (n := 0) (Nat.le_of_ble_eq_true rfl) (Nat.le_of_ble_eq_true rfl) ?_
  have hw : r1 = iI ((rv F n3 a0).1 : Int) := hw
  subst hw
  have hrv := rv_rng F n3 a0
  refine lv_istore_n (lv' := [(2, .int (iI ((rv F n3 a0).1 : Int))), (0, .ref ha), (1, .int (iI ((len : Nat) : Int)))]) hx hb dX0_doCopy_4 rfl hl (by decide) rfl (fun ls hl => ?_)
  refine lv_iload_n hx hb dX0_doCopy_5 rfl (lv_at hl 0 rfl) ?_
  refine lv_iconst (v := iI (-1 : Int)) hx hb dX0_doCopy_6 rfl ?_
  refine lv_icmp_ne (tgt := 12) hx hb dX0_doCopy_7 (by decide) (fun c7 => ?_) (fun c7 => ?_)
  · skip
    have c7 := iI_eqF (a := ((rv F n3 a0).1 : Int)) (b := (-1 : Int)) c7 (by omega)
    refine lv_aload_n hx hb dX0_doCopy_12 rfl (lv_at hl 1 rfl) ?_
    refine va_get (D := D) (ci := 0) (v := .int (iI ((b0 : Nat) : Int))) (C := RX0) (T := TX0) (N := 7) hx hb hts hi_X0 hown hK hP 0 rfl rfl 4 (by decide) fl25 (fun _ h9 => h9) rfl dX0_doCopy_13 ?_
    have huz := uz_rng (z := (rv F n3 a0).1.toNat) (by omega)
    refine lv_iload_n hx hb dX0_doCopy_16 rfl (lv_at hl 0 rfl) ?_
    refine k_calli (wc := []) (wr := [(ha, .inr (0, [.ref h3, .ref h1, .ref h4, .int (iI (((rv F n3 a0).2 : Nat) : Int)), .int (iI ((b0 : Nat) : Int)), .int (iI (ds : Int)), .int dc])), (h3, .inr (3, [.ref a3, .int (iI ((n3 : Nat) : Int))])), (a3, .inl (cI, 900, .inl (kN F))), (h1, .inr (3, [.ref a1, .int (iI ((n1 : Nat) : Int))])), (a1, .inl (cI, 300, .inl f1)), (h4, .inr (3, [.ref a4, .int (iI (((T).length : Nat) : Int))])), (a4, .inl (cI, 300, .inl (apL f4 0 (T))))]) (wf := fun _ => [(ha, .inr (0, [.ref h3, .ref h1, .ref h4, .int (iI (((rv F n3 a0).2 : Nat) : Int)), .int (iI ((b0 : Nat) : Int)), .int (iI (ds : Int)), .int dc])), (h3, .inr (3, [.ref a3, .int (iI ((n3 : Nat) : Int))])), (a3, .inl (cI, 900, .inl (kN F))), (h1, .inr (3, [.ref a1, .int (iI ((n1 : Nat) : Int))])), (a1, .inl (cI, 300, .inl f1)), (h4, .inr (3, [.ref a4, .int (iI (((T).length : Nat) : Int))])), (a4, .inl (cI, 300, .inl (apL f4 0 (T))))]) hK hP hD hS hA [] [0, 1, 2, 3, 4, 5, 6] [0, 1, 2, 3, 4, 5, 6] ⟨⟨rfl, rfl, by decide⟩, rfl, by decide, by decide⟩ (fun _ => ⟨rfl, rfl⟩) (by decide) (fun hPc hDc => va_runS (As := [.int (iI ((rv F n3 a0).1 : Int))]) (rest := [.int (iI ((b0 : Nat) : Int))]) ⟨hx, hb, hml, hown, hts⟩ (c_Applier_withSign l D cI cZ (z := (rv F n3 a0).1) (hz := by omega) _) (cwS 1 hts (kgS wm381 wm382 wm42 wmcX0_withSign) rfl rfl rfl (by decide +kernel) ⟨Nat.le_of_ble_eq_true rfl, Nat.le_of_ble_eq_true rfl⟩) (k_preS hK hPc hDc) rfl rfl hl.1 rfl (lv_room (Nat.le_of_ble_eq_true rfl)) dX0_doCopy_17 ⟨Nat.le_of_ble_eq_true rfl, Nat.le_of_ble_eq_true rfl⟩) (fun r17 u H locs hw hP hD hS => ?_)
    have hP : va_P D vwCl [(ha, .inr (0, [.ref h3, .ref h1, .ref h4, .int (iI (((rv F n3 a0).2 : Nat) : Int)), .int (iI ((b0 : Nat) : Int)), .int (iI (ds : Int)), .int dc])), (h3, .inr (3, [.ref a3, .int (iI ((n3 : Nat) : Int))])), (a3, .inl (cI, 900, .inl (kN F))), (h1, .inr (3, [.ref a1, .int (iI ((n1 : Nat) : Int))])), (a1, .inl (cI, 300, .inl f1)), (h4, .inr (3, [.ref a4, .int (iI (((T).length : Nat) : Int))])), (a4, .inl (cI, 300, .inl (apL f4 0 (T))))] H := hP
    have hD : va_D A [(ha, .inr (0, [.ref h3, .ref h1, .ref h4, .int (iI (((rv F n3 a0).2 : Nat) : Int)), .int (iI ((b0 : Nat) : Int)), .int (iI (ds : Int)), .int dc])), (h3, .inr (3, [.ref a3, .int (iI ((n3 : Nat) : Int))])), (a3, .inl (cI, 900, .inl (kN F))), (h1, .inr (3, [.ref a1, .int (iI ((n1 : Nat) : Int))])), (a1, .inl (cI, 300, .inl f1)), (h4, .inr (3, [.ref a4, .int (iI (((T).length : Nat) : Int))])), (a4, .inl (cI, 300, .inl (apL f4 0 (T))))] := hD
    refine W.widen (k := 0) (n := 0) (Nat.le_of_ble_eq_true rfl) (Nat.le_of_ble_eq_true rfl) ?_
    have hw : r17 = iI (uz ((rv F n3 a0).1).toNat : Int) := hw
    subst hw
    refine lv_iadd hx hb dX0_doCopy_20 ?_
    refine kn_i (iA (c := (((b0 : Nat) : Int) + uz (rv F n3 a0).1.toNat : Int)) (by omega)) ?_
    refine lv_istore_n (lv' := [(3, .int (iI (((b0 : Nat) : Int) + uz (rv F n3 a0).1.toNat : Int))), (2, .int (iI ((rv F n3 a0).1 : Int))), (0, .ref ha), (1, .int (iI ((len : Nat) : Int)))]) hx hb dX0_doCopy_21 rfl hl (by decide) rfl (fun ls hl => ?_)
    refine lv_iload_n hx hb dX0_doCopy_22 rfl (lv_at hl 0 rfl) ?_
    refine lv_if_lt (tgt := 39) hx hb dX0_doCopy_23 (by decide) (fun c23 => ?_) (fun c23 => ?_)
    · skip
      have c23 := iI_ltT (a := (((b0 : Nat) : Int) + uz (rv F n3 a0).1.toNat : Int)) (b := (0 : Int)) c23 (by omega)
      refine lv_bipush (v := iI (-5 : Int)) hx hb dX0_doCopy_39 (by decide) ?_
      have hE : cpF F n3 f1 n1 ds a0 b0 T len = (-5, (rv F n3 a0).2, b0, T) := by unfold cpF; rw [if_neg (by omega), if_pos (by omega)]
      exact k_iret ((rv F n3 a0).2, b0, T) hx hb hr hlocks hK hP hD hS [0, 1, 2, 3, 4, 5, 6] (by decide) rfl rfl (⟨by rw [hE], by rw [hE]⟩) hAe hQ dX0_doCopy_41
    · skip
      have c23 := iI_ltF (a := (((b0 : Nat) : Int) + uz (rv F n3 a0).1.toNat : Int)) (b := (0 : Int)) c23 (by omega)
      refine lv_iload_n hx hb dX0_doCopy_26 rfl (lv_at hl 3 rfl) ?_
      refine lv_aload_n hx hb dX0_doCopy_27 rfl (lv_at hl 2 rfl) ?_
      refine va_get (D := D) (ci := 0) (v := .ref h1) (C := RX0) (T := TX0) (N := 7) hx hb hts hi_X0 hown hK hP 0 rfl rfl 1 (by decide) fl15 (fun _ h9 => h9) rfl dX0_doCopy_28 ?_
      refine k_calli (wc := [(h1, .inr (3, [.ref a1, .int (iI ((n1 : Nat) : Int))])), (a1, .inl (cI, 300, .inl f1))]) (wr := [(ha, .inr (0, [.ref h3, .ref h1, .ref h4, .int (iI (((rv F n3 a0).2 : Nat) : Int)), .int (iI ((b0 : Nat) : Int)), .int (iI (ds : Int)), .int dc])), (h3, .inr (3, [.ref a3, .int (iI ((n3 : Nat) : Int))])), (a3, .inl (cI, 900, .inl (kN F))), (h4, .inr (3, [.ref a4, .int (iI (((T).length : Nat) : Int))])), (a4, .inl (cI, 300, .inl (apL f4 0 (T))))]) (wf := fun _ => [(ha, .inr (0, [.ref h3, .ref h1, .ref h4, .int (iI (((rv F n3 a0).2 : Nat) : Int)), .int (iI ((b0 : Nat) : Int)), .int (iI (ds : Int)), .int dc])), (h3, .inr (3, [.ref a3, .int (iI ((n3 : Nat) : Int))])), (a3, .inl (cI, 900, .inl (kN F))), (h1, .inr (3, [.ref a1, .int (iI ((n1 : Nat) : Int))])), (a1, .inl (cI, 300, .inl f1)), (h4, .inr (3, [.ref a4, .int (iI (((T).length : Nat) : Int))])), (a4, .inl (cI, 300, .inl (apL f4 0 (T))))]) hK hP hD hS hA [3, 4] [0, 1, 2, 5, 6] [0, 1, 2, 5, 6, 3, 4] ⟨⟨rfl, rfl, by decide⟩, rfl, by decide, by decide⟩ (fun _ => ⟨rfl, rfl⟩) (by decide) (fun hPc hDc => va_runV (As := []) (rest := [.int (iI ((len : Nat) : Int))]) ⟨hx, hb, hml, hown, hts⟩ (c_Row_count l D cI cZ (h := h1) (a := a1) (M := 300) (n := n1) (f := f1)  _) (cwV 0 hts (kgV wm358 wm193 wm194 wm39 wmcX3_count) rfl rfl rfl (by decide +kernel) ⟨Nat.le_of_ble_eq_true rfl, Nat.le_of_ble_eq_true rfl⟩) (k_preV hK hPc hDc (ci := 3) (q0 := 0) rfl rfl) rfl rfl hl.1 rfl (lv_room (Nat.le_of_ble_eq_true rfl)) dX0_doCopy_31 ⟨Nat.le_of_ble_eq_true rfl, Nat.le_of_ble_eq_true rfl⟩) (fun r31 u H locs hw hP hD hS => ?_)
      have hP : va_P D vwCl [(ha, .inr (0, [.ref h3, .ref h1, .ref h4, .int (iI (((rv F n3 a0).2 : Nat) : Int)), .int (iI ((b0 : Nat) : Int)), .int (iI (ds : Int)), .int dc])), (h3, .inr (3, [.ref a3, .int (iI ((n3 : Nat) : Int))])), (a3, .inl (cI, 900, .inl (kN F))), (h1, .inr (3, [.ref a1, .int (iI ((n1 : Nat) : Int))])), (a1, .inl (cI, 300, .inl f1)), (h4, .inr (3, [.ref a4, .int (iI (((T).length : Nat) : Int))])), (a4, .inl (cI, 300, .inl (apL f4 0 (T))))] H := hP
      have hD : va_D A [(ha, .inr (0, [.ref h3, .ref h1, .ref h4, .int (iI (((rv F n3 a0).2 : Nat) : Int)), .int (iI ((b0 : Nat) : Int)), .int (iI (ds : Int)), .int dc])), (h3, .inr (3, [.ref a3, .int (iI ((n3 : Nat) : Int))])), (a3, .inl (cI, 900, .inl (kN F))), (h1, .inr (3, [.ref a1, .int (iI ((n1 : Nat) : Int))])), (a1, .inl (cI, 300, .inl f1)), (h4, .inr (3, [.ref a4, .int (iI (((T).length : Nat) : Int))])), (a4, .inl (cI, 300, .inl (apL f4 0 (T))))] := hD
      refine W.widen (k := 0) (n := 0) (Nat.le_of_ble_eq_true rfl) (Nat.le_of_ble_eq_true rfl) ?_
      have hw : r31 = iI ((n1 : Nat) : Int) := hw
      subst hw
      refine lv_iload_n hx hb dX0_doCopy_34 rfl (lv_at hl 0 rfl) ?_
      refine lv_isub hx hb dX0_doCopy_35 ?_
      refine kn_i (iB (c := (((n1 : Nat) : Int) - (((b0 : Nat) : Int) + uz (rv F n3 a0).1.toNat : Int) : Int)) (by omega)) ?_
      refine lv_icmp_le (tgt := 42) hx hb dX0_doCopy_36 (by decide) (fun c36 => ?_) (fun c36 => ?_)
      · skip
        have c36 := iI_leT (a := ((len : Nat) : Int)) (b := (((n1 : Nat) : Int) - (((b0 : Nat) : Int) + uz (rv F n3 a0).1.toNat : Int) : Int)) c36 (by omega)
        refine lv_iload_n hx hb dX0_doCopy_42 rfl (lv_at hl 3 rfl) ?_
        refine lv_aload_n hx hb dX0_doCopy_43 rfl (lv_at hl 2 rfl) ?_
        refine va_get (D := D) (ci := 0) (v := .int (iI (ds : Int))) (C := RX0) (T := TX0) (N := 7) hx hb hts hi_X0 hown hK hP 0 rfl rfl 5 (by decide) fl28 (fun _ h9 => h9) rfl dX0_doCopy_44 ?_
        refine lv_aload_n hx hb dX0_doCopy_47 rfl (lv_at hl 2 rfl) ?_
        refine va_get (D := D) (ci := 0) (v := .ref h4) (C := RX0) (T := TX0) (N := 7) hx hb hts hi_X0 hown hK hP 0 rfl rfl 2 (by decide) fl18 (fun _ h9 => h9) rfl dX0_doCopy_48 ?_
        refine k_calli (wc := [(h4, .inr (3, [.ref a4, .int (iI (((T).length : Nat) : Int))])), (a4, .inl (cI, 300, .inl (apL f4 0 (T))))]) (wr := [(ha, .inr (0, [.ref h3, .ref h1, .ref h4, .int (iI (((rv F n3 a0).2 : Nat) : Int)), .int (iI ((b0 : Nat) : Int)), .int (iI (ds : Int)), .int dc])), (h3, .inr (3, [.ref a3, .int (iI ((n3 : Nat) : Int))])), (a3, .inl (cI, 900, .inl (kN F))), (h1, .inr (3, [.ref a1, .int (iI ((n1 : Nat) : Int))])), (a1, .inl (cI, 300, .inl f1))]) (wf := fun _ => [(ha, .inr (0, [.ref h3, .ref h1, .ref h4, .int (iI (((rv F n3 a0).2 : Nat) : Int)), .int (iI ((b0 : Nat) : Int)), .int (iI (ds : Int)), .int dc])), (h3, .inr (3, [.ref a3, .int (iI ((n3 : Nat) : Int))])), (a3, .inl (cI, 900, .inl (kN F))), (h1, .inr (3, [.ref a1, .int (iI ((n1 : Nat) : Int))])), (a1, .inl (cI, 300, .inl f1)), (h4, .inr (3, [.ref a4, .int (iI ((((T).length) : Nat) : Int))])), (a4, .inl (cI, 300, .inl (apL f4 0 (T))))]) hK hP hD hS hA [5, 6] [0, 1, 2, 3, 4] [0, 1, 2, 3, 4, 5, 6] ⟨⟨rfl, rfl, by decide⟩, rfl, by decide, by decide⟩ (fun _ => ⟨rfl, rfl⟩) (by decide) (fun hPc hDc => va_runV (As := []) (rest := [.int (iI (ds : Int)), .int (iI ((len : Nat) : Int))]) ⟨hx, hb, hml, hown, hts⟩ (c_Row_count l D cI cZ (h := h4) (a := a4) (M := 300) (n := (T).length) (f := (apL f4 0 (T)))  _) (cwV 0 hts (kgV wm358 wm193 wm194 wm39 wmcX3_count) rfl rfl rfl (by decide +kernel) ⟨Nat.le_of_ble_eq_true rfl, Nat.le_of_ble_eq_true rfl⟩) (k_preV hK hPc hDc (ci := 3) (q0 := 0) rfl rfl) rfl rfl hl.1 rfl (lv_room (Nat.le_of_ble_eq_true rfl)) dX0_doCopy_51 ⟨Nat.le_of_ble_eq_true rfl, Nat.le_of_ble_eq_true rfl⟩) (fun r51 u H locs hw hP hD hS => ?_)
        have hP : va_P D vwCl [(ha, .inr (0, [.ref h3, .ref h1, .ref h4, .int (iI (((rv F n3 a0).2 : Nat) : Int)), .int (iI ((b0 : Nat) : Int)), .int (iI (ds : Int)), .int dc])), (h3, .inr (3, [.ref a3, .int (iI ((n3 : Nat) : Int))])), (a3, .inl (cI, 900, .inl (kN F))), (h1, .inr (3, [.ref a1, .int (iI ((n1 : Nat) : Int))])), (a1, .inl (cI, 300, .inl f1)), (h4, .inr (3, [.ref a4, .int (iI ((((T).length) : Nat) : Int))])), (a4, .inl (cI, 300, .inl (apL f4 0 (T))))] H := hP
        have hD : va_D A [(ha, .inr (0, [.ref h3, .ref h1, .ref h4, .int (iI (((rv F n3 a0).2 : Nat) : Int)), .int (iI ((b0 : Nat) : Int)), .int (iI (ds : Int)), .int dc])), (h3, .inr (3, [.ref a3, .int (iI ((n3 : Nat) : Int))])), (a3, .inl (cI, 900, .inl (kN F))), (h1, .inr (3, [.ref a1, .int (iI ((n1 : Nat) : Int))])), (a1, .inl (cI, 300, .inl f1)), (h4, .inr (3, [.ref a4, .int (iI ((((T).length) : Nat) : Int))])), (a4, .inl (cI, 300, .inl (apL f4 0 (T))))] := hD
        refine W.widen (k := 0) (n := 0) (Nat.le_of_ble_eq_true rfl) (Nat.le_of_ble_eq_true rfl) ?_
        have hw : r51 = iI ((((T).length) : Nat) : Int) := hw
        subst hw
        refine lv_isub hx hb dX0_doCopy_54 ?_
        refine kn_i (iB (c := ((ds : Int) - ((((T).length) : Nat) : Int) : Int)) (by omega)) ?_
        refine lv_icmp_le (tgt := 61) hx hb dX0_doCopy_55 (by decide) (fun c55 => ?_) (fun c55 => ?_)
        · skip
          have c55 := iI_leT (a := ((len : Nat) : Int)) (b := ((ds : Int) - ((((T).length) : Nat) : Int) : Int)) c55 (by omega)
          rw [show iI (((b0 : Nat) : Int) + uz (rv F n3 a0).1.toNat : Int) = iI (((((b0 : Nat) : Int) + uz (rv F n3 a0).1.toNat).toNat : Nat) : Int) from congrArg iI (by omega)] at hl
          refine lv_aload_n hx hb dX0_doCopy_61 rfl (lv_at hl 2 rfl) ?_
          refine va_get (D := D) (ci := 0) (v := .ref h4) (C := RX0) (T := TX0) (N := 7) hx hb hts hi_X0 hown hK hP 0 rfl rfl 2 (by decide) fl18 (fun _ h9 => h9) rfl dX0_doCopy_62 ?_
          refine lv_aload_n hx hb dX0_doCopy_65 rfl (lv_at hl 2 rfl) ?_
          refine va_get (D := D) (ci := 0) (v := .ref h1) (C := RX0) (T := TX0) (N := 7) hx hb hts hi_X0 hown hK hP 0 rfl rfl 1 (by decide) fl15 (fun _ h9 => h9) rfl dX0_doCopy_66 ?_
          refine lv_iload_n hx hb dX0_doCopy_69 rfl (lv_at hl 0 rfl) ?_
          refine lv_iload_n hx hb dX0_doCopy_70 rfl (lv_at hl 3 rfl) ?_
          refine k_callv (wc := [(h4, .inr (3, [.ref a4, .int (iI ((((T).length) : Nat) : Int))])), (a4, .inl (cI, 300, .inl (apL f4 0 (T)))), (h1, .inr (3, [.ref a1, .int (iI ((n1 : Nat) : Int))])), (a1, .inl (cI, 300, .inl f1))]) (wr := [(ha, .inr (0, [.ref h3, .ref h1, .ref h4, .int (iI (((rv F n3 a0).2 : Nat) : Int)), .int (iI ((b0 : Nat) : Int)), .int (iI (ds : Int)), .int dc])), (h3, .inr (3, [.ref a3, .int (iI ((n3 : Nat) : Int))])), (a3, .inl (cI, 900, .inl (kN F)))]) (wf := fun _ => [(ha, .inr (0, [.ref h3, .ref h1, .ref h4, .int (iI (((rv F n3 a0).2 : Nat) : Int)), .int (iI ((b0 : Nat) : Int)), .int (iI (ds : Int)), .int dc])), (h3, .inr (3, [.ref a3, .int (iI ((n3 : Nat) : Int))])), (a3, .inl (cI, 900, .inl (kN F))), (h1, .inr (3, [.ref a1, .int (iI ((n1 : Nat) : Int))])), (a1, .inl (cI, 300, .inl f1)), (h4, .inr (3, [.ref a4, .int (iI ((((T).length) + len : Nat) : Int))])), (a4, .inl (cI, 300, .inl (apL (apL f4 0 (T)) ((T).length) (sl f1 ((((b0 : Nat) : Int) + uz (rv F n3 a0).1.toNat).toNat) len))))]) hK hP hD hS hA [5, 6, 3, 4] [0, 1, 2] [0, 1, 2, 5, 6, 3, 4] ⟨⟨rfl, rfl, by decide⟩, rfl, by decide, by decide⟩ (fun _ => ⟨rfl, rfl⟩) (by decide) (fun hPc hDc => va_runV (As := [.ref h1, .int (iI (((((b0 : Nat) : Int) + uz (rv F n3 a0).1.toNat).toNat : Nat) : Int)), .int (iI ((len : Nat) : Int))]) (rest := []) ⟨hx, hb, hml, hown, hts⟩ (c_Row_addFrom l D cI cZ (h := h4) (a := a4) (M := 300) (n := ((T).length)) (f := (apL f4 0 (T))) (h2 := h1) (a2 := a1) (M2 := 300) (n2 := n1) (g := f1) (st := (((b0 : Nat) : Int) + uz (rv F n3 a0).1.toNat).toNat) (k := len) (hM := by omega) (hM2 := by omega) (hn2 := by omega) (hst := by omega) (hk := by omega) _) (cwV 3 hts (kgV wm376 wm218 wm219 wm39 wmcX3_addFrom) rfl rfl rfl (by decide +kernel) ⟨Nat.le_of_ble_eq_true rfl, Nat.le_of_ble_eq_true rfl⟩) (k_preV hK hPc hDc (ci := 3) (q0 := 0) rfl rfl) rfl rfl hl.1 rfl (lv_room (Nat.le_of_ble_eq_true rfl)) dX0_doCopy_71 ⟨Nat.le_of_ble_eq_true rfl, Nat.le_of_ble_eq_true rfl⟩) (fun u H locs hw hP hD hS => ?_)
          have hP : va_P D vwCl [(ha, .inr (0, [.ref h3, .ref h1, .ref h4, .int (iI (((rv F n3 a0).2 : Nat) : Int)), .int (iI ((b0 : Nat) : Int)), .int (iI (ds : Int)), .int dc])), (h3, .inr (3, [.ref a3, .int (iI ((n3 : Nat) : Int))])), (a3, .inl (cI, 900, .inl (kN F))), (h1, .inr (3, [.ref a1, .int (iI ((n1 : Nat) : Int))])), (a1, .inl (cI, 300, .inl f1)), (h4, .inr (3, [.ref a4, .int (iI ((((T).length) + len : Nat) : Int))])), (a4, .inl (cI, 300, .inl (apL (apL f4 0 (T)) ((T).length) (sl f1 ((((b0 : Nat) : Int) + uz (rv F n3 a0).1.toNat).toNat) len))))] H := hP
          have hD : va_D A [(ha, .inr (0, [.ref h3, .ref h1, .ref h4, .int (iI (((rv F n3 a0).2 : Nat) : Int)), .int (iI ((b0 : Nat) : Int)), .int (iI (ds : Int)), .int dc])), (h3, .inr (3, [.ref a3, .int (iI ((n3 : Nat) : Int))])), (a3, .inl (cI, 900, .inl (kN F))), (h1, .inr (3, [.ref a1, .int (iI ((n1 : Nat) : Int))])), (a1, .inl (cI, 300, .inl f1)), (h4, .inr (3, [.ref a4, .int (iI ((((T).length) + len : Nat) : Int))])), (a4, .inl (cI, 300, .inl (apL (apL f4 0 (T)) ((T).length) (sl f1 ((((b0 : Nat) : Int) + uz (rv F n3 a0).1.toNat).toNat) len))))] := hD
          refine W.widen (k := 0) (n := 0) (Nat.le_of_ble_eq_true rfl) (Nat.le_of_ble_eq_true rfl) ?_
          rw [show (apL (apL f4 0 (T)) ((T).length) (sl f1 ((((b0 : Nat) : Int) + uz (rv F n3 a0).1.toNat).toNat) len)) = (apL f4 0 (T ++ sl f1 (((b0 : Nat) : Int) + uz (rv F n3 a0).1.toNat).toNat len)) from apL0] at hP hD
          rw [show iI ((((T).length) + len : Nat) : Int) = iI (((T ++ sl f1 (((b0 : Nat) : Int) + uz (rv F n3 a0).1.toNat).toNat len).length : Nat) : Int) from len_s] at hP hD
          refine lv_aload_n hx hb dX0_doCopy_74 rfl (lv_at hl 2 rfl) ?_
          refine lv_iload_n hx hb dX0_doCopy_75 rfl (lv_at hl 0 rfl) ?_
          refine lv_iload_n hx hb dX0_doCopy_76 rfl (lv_at hl 3 rfl) ?_
          refine lv_iadd hx hb dX0_doCopy_77 ?_
          refine kn_i (iA (c := ((((((b0 : Nat) : Int) + uz (rv F n3 a0).1.toNat).toNat + len) : Nat) : Int)) (by omega)) ?_
          refine va_put (D := D) (ci := 0) (v := .int (iI ((((((b0 : Nat) : Int) + uz (rv F n3 a0).1.toNat).toNat + len) : Nat) : Int))) (ty := .int) (C := RX0) (T := TX0) (N := 7) hx hb hts hi_X0 tyX0 tyX0_ok nmX0 hown hK hP hD hS 0 rfl rfl 4 (by decide) fl25 (fun _ h9 => h9) rfl (by decide +kernel) rfl rfl (Nat.le_of_ble_eq_true rfl) dX0_doCopy_78 (fun H locs hP hD hS => ?_)
          have hP : va_P D vwCl [(ha, .inr (0, [.ref h3, .ref h1, .ref h4, .int (iI (((rv F n3 a0).2 : Nat) : Int)), .int (iI ((((((b0 : Nat) : Int) + uz (rv F n3 a0).1.toNat).toNat + len) : Nat) : Int)), .int (iI (ds : Int)), .int dc])), (h3, .inr (3, [.ref a3, .int (iI ((n3 : Nat) : Int))])), (a3, .inl (cI, 900, .inl (kN F))), (h1, .inr (3, [.ref a1, .int (iI ((n1 : Nat) : Int))])), (a1, .inl (cI, 300, .inl f1)), (h4, .inr (3, [.ref a4, .int (iI (((T ++ sl f1 (((b0 : Nat) : Int) + uz (rv F n3 a0).1.toNat).toNat len).length : Nat) : Int))])), (a4, .inl (cI, 300, .inl (apL f4 0 (T ++ sl f1 (((b0 : Nat) : Int) + uz (rv F n3 a0).1.toNat).toNat len))))] H := hP
          have hD : va_D A [(ha, .inr (0, [.ref h3, .ref h1, .ref h4, .int (iI (((rv F n3 a0).2 : Nat) : Int)), .int (iI ((((((b0 : Nat) : Int) + uz (rv F n3 a0).1.toNat).toNat + len) : Nat) : Int)), .int (iI (ds : Int)), .int dc])), (h3, .inr (3, [.ref a3, .int (iI ((n3 : Nat) : Int))])), (a3, .inl (cI, 900, .inl (kN F))), (h1, .inr (3, [.ref a1, .int (iI ((n1 : Nat) : Int))])), (a1, .inl (cI, 300, .inl f1)), (h4, .inr (3, [.ref a4, .int (iI (((T ++ sl f1 (((b0 : Nat) : Int) + uz (rv F n3 a0).1.toNat).toNat len).length : Nat) : Int))])), (a4, .inl (cI, 300, .inl (apL f4 0 (T ++ sl f1 (((b0 : Nat) : Int) + uz (rv F n3 a0).1.toNat).toNat len))))] := hD
          refine lv_iconst (v := iI (0 : Int)) hx hb dX0_doCopy_81 rfl ?_
          have hE : cpF F n3 f1 n1 ds a0 b0 T len = (0, (rv F n3 a0).2, (((b0 : Nat) : Int) + uz (rv F n3 a0).1.toNat).toNat + len, T ++ sl f1 (((b0 : Nat) : Int) + uz (rv F n3 a0).1.toNat).toNat len) := by unfold cpF; rw [if_neg (by omega), if_neg (by omega), if_neg (by omega)]
          exact k_iret ((rv F n3 a0).2, (((b0 : Nat) : Int) + uz (rv F n3 a0).1.toNat).toNat + len, T ++ sl f1 (((b0 : Nat) : Int) + uz (rv F n3 a0).1.toNat).toNat len) hx hb hr hlocks hK hP hD hS [0, 1, 2, 3, 4, 5, 6] (by decide) rfl rfl (⟨by rw [hE], by rw [hE]⟩) hAe hQ dX0_doCopy_82
        · skip
          have c55 := iI_leF (a := ((len : Nat) : Int)) (b := ((ds : Int) - ((((T).length) : Nat) : Int) : Int)) c55 (by omega)
          refine lv_bipush (v := iI (-6 : Int)) hx hb dX0_doCopy_58 (by decide) ?_
          have hE : cpF F n3 f1 n1 ds a0 b0 T len = (-6, (rv F n3 a0).2, b0, T) := by unfold cpF; rw [if_neg (by omega), if_neg (by omega), if_pos (by omega)]
          exact k_iret ((rv F n3 a0).2, b0, T) hx hb hr hlocks hK hP hD hS [0, 1, 2, 3, 4, 5, 6] (by decide) rfl rfl (⟨by rw [hE], by rw [hE]⟩) hAe hQ dX0_doCopy_60
      · skip
        have c36 := iI_leF (a := ((len : Nat) : Int)) (b := (((n1 : Nat) : Int) - (((b0 : Nat) : Int) + uz (rv F n3 a0).1.toNat : Int) : Int)) c36 (by omega)
        refine lv_bipush (v := iI (-5 : Int)) hx hb dX0_doCopy_39 (by decide) ?_
        have hE : cpF F n3 f1 n1 ds a0 b0 T len = (-5, (rv F n3 a0).2, b0, T) := by unfold cpF; rw [if_neg (by omega), if_pos (by omega)]
        exact k_iret ((rv F n3 a0).2, b0, T) hx hb hr hlocks hK hP hD hS [0, 1, 2, 3, 4, 5, 6] (by decide) rfl rfl (⟨by rw [hE], by rw [hE]⟩) hAe hQ dX0_doCopy_41
  · skip
    have c7 := iI_eqT (a := ((rv F n3 a0).1 : Int)) (b := (-1 : Int)) c7 (by omega)
    refine lv_iconst (v := iI (-1 : Int)) hx hb dX0_doCopy_10 rfl ?_
    have hE : cpF F n3 f1 n1 ds a0 b0 T len = (-1, (rv F n3 a0).2, b0, T) := by unfold cpF; rw [if_pos (by omega)]
    exact k_iret ((rv F n3 a0).2, b0, T) hx hb hr hlocks hK hP hD hS [0, 1, 2, 3, 4, 5, 6] (by decide) rfl rfl (⟨by rw [hE], by rw [hE]⟩) hAe hQ dX0_doCopy_11

abbrev rm_c_Applier_doNext : Room := { frames := 3, cells := 0, slots := 0, locals := 69 }
set_option maxHeartbeats 4000000 in
set_option maxRecDepth 100000 in
theorem c_Applier_doNext (l : Launch) (D : va_G) (cI cZ : ClassId) (ha : Nat) (h3 : Nat) (h1 : Nat) (h4 : Nat) (a0 : Nat) (b0 : Nat) (ds : Int) (dc : Int32) (a3 : Nat) (n3 : Nat) (F : Nat → Nat) (a1 : Nat) (n1 : Nat) (f1 : Nat → Int32) (a4 : Nat) (f4 : Nat → Int32) (T : List Int32) (hat : a0 ≤ n3) (hn3 : n3 ≤ 900) (hB : ∀ j, j < n3 → F j < 256) (hn1 : n1 ≤ 300) (hb0 : b0 ≤ n1) (hds : 0 ≤ ds ∧ ds ≤ 300) (hTl : (T.length : Int) ≤ ds) : MI l yX0_doNext wsX0_doNext rm_c_Applier_doNext D (kT cI cZ) [.ref ha] [(ha, .inr (0, [.ref h3, .ref h1, .ref h4, .int (iI ((a0 : Nat) : Int)), .int (iI ((b0 : Nat) : Int)), .int (iI (ds : Int)), .int dc])), (h3, .inr (3, [.ref a3, .int (iI ((n3 : Nat) : Int))])), (a3, .inl (cI, 900, .inl (kN F))), (h1, .inr (3, [.ref a1, .int (iI ((n1 : Nat) : Int))])), (a1, .inl (cI, 300, .inl f1)), (h4, .inr (3, [.ref a4, .int (iI (((T).length : Nat) : Int))])), (a4, .inl (cI, 300, .inl (apL f4 0 (T))))] (fun (r : Int32) (u : Nat × Nat × List Int32) => r = iI (nxF F n3 f1 n1 ds a0 b0 T).1 ∧ u = (nxF F n3 f1 n1 ds a0 b0 T).2) (fun (u : Nat × Nat × List Int32) => match u with | ⟨a9, b9, T9⟩ => [(ha, .inr (0, [.ref h3, .ref h1, .ref h4, .int (iI ((a9 : Nat) : Int)), .int (iI ((b9 : Nat) : Int)), .int (iI (ds : Int)), .int dc])), (h3, .inr (3, [.ref a3, .int (iI ((n3 : Nat) : Int))])), (a3, .inl (cI, 900, .inl (kN F))), (h1, .inr (3, [.ref a1, .int (iI ((n1 : Nat) : Int))])), (a1, .inl (cI, 300, .inl f1)), (h4, .inr (3, [.ref a4, .int (iI (((T9).length : Nat) : Int))])), (a4, .inl (cI, 300, .inl (apL f4 0 (T9))))]) 0 0 := by
  intro sz
  refine k_of (cc := cX0_doNext) (maxL := 3) (ret := (some .int)) (by decide) rfl (Nat.le_of_ble_eq_true rfl) ?_
  intro p e s m args below meth c A Q hAe hQ hx hb hr hml hts hown hlocks hnm hP hK hD hS hA ls hl
  have hl : lv_has ls 3 [(0, .ref ha)] := hl
  refine lv_aload_n hx hb dX0_doNext_0 rfl (lv_at hl 0 rfl) ?_
  refine k_calli (wc := [(ha, .inr (0, [.ref h3, .ref h1, .ref h4, .int (iI ((a0 : Nat) : Int)), .int (iI ((b0 : Nat) : Int)), .int (iI (ds : Int)), .int dc])), (h3, .inr (3, [.ref a3, .int (iI ((n3 : Nat) : Int))])), (a3, .inl (cI, 900, .inl (kN F)))]) (wr := [(h1, .inr (3, [.ref a1, .int (iI ((n1 : Nat) : Int))])), (a1, .inl (cI, 300, .inl f1)), (h4, .inr (3, [.ref a4, .int (iI (((T).length : Nat) : Int))])), (a4, .inl (cI, 300, .inl (apL f4 0 (T))))]) (wf := fun _ => [(ha, .inr (0, [.ref h3, .ref h1, .ref h4, .int (iI (((rv F n3 a0).2 : Nat) : Int)), .int (iI ((b0 : Nat) : Int)), .int (iI (ds : Int)), .int dc])), (h3, .inr (3, [.ref a3, .int (iI ((n3 : Nat) : Int))])), (a3, .inl (cI, 900, .inl (kN F))), (h1, .inr (3, [.ref a1, .int (iI ((n1 : Nat) : Int))])), (a1, .inl (cI, 300, .inl f1)), (h4, .inr (3, [.ref a4, .int (iI (((T).length : Nat) : Int))])), (a4, .inl (cI, 300, .inl (apL f4 0 (T))))]) hK hP hD hS hA [0, 1, 2] [3, 4, 5, 6] [4, 5, 6, 0, 1, 2, 3] ⟨⟨rfl, rfl, by decide⟩, rfl, by decide, by decide⟩ (fun _ => ⟨rfl, rfl⟩) (by decide) (fun hPc hDc => va_runV (As := []) (rest := []) ⟨hx, hb, hml, hown, hts⟩ (c_Applier_readVarint l D cI cZ (ha := ha) (h3 := h3) (h1 := h1) (h4 := h4) (a0 := a0) (b0 := b0) (ds := ds) (dc := dc) (a3 := a3) (n3 := n3) (F := F) (hat := by omega) (hn3 := by omega) (hB := by omega) _) (cwV 0 hts (kgV wm349 wm351 wm5 wm42 wmcX0_readVarint) rfl rfl rfl (by decide +kernel) ⟨Nat.le_of_ble_eq_true rfl, Nat.le_of_ble_eq_true rfl⟩) (k_preV hK hPc hDc (ci := 0) (q0 := 0) rfl rfl) rfl rfl hl.1 rfl (lv_room (Nat.le_of_ble_eq_true rfl)) dX0_doNext_1 ⟨Nat.le_of_ble_eq_true rfl, Nat.le_of_ble_eq_true rfl⟩) (fun r1 u H locs hw hP hD hS => ?_)
  have hP : va_P D vwCl [(ha, .inr (0, [.ref h3, .ref h1, .ref h4, .int (iI (((rv F n3 a0).2 : Nat) : Int)), .int (iI ((b0 : Nat) : Int)), .int (iI (ds : Int)), .int dc])), (h3, .inr (3, [.ref a3, .int (iI ((n3 : Nat) : Int))])), (a3, .inl (cI, 900, .inl (kN F))), (h1, .inr (3, [.ref a1, .int (iI ((n1 : Nat) : Int))])), (a1, .inl (cI, 300, .inl f1)), (h4, .inr (3, [.ref a4, .int (iI (((T).length : Nat) : Int))])), (a4, .inl (cI, 300, .inl (apL f4 0 (T))))] H := hP
  have hD : va_D A [(ha, .inr (0, [.ref h3, .ref h1, .ref h4, .int (iI (((rv F n3 a0).2 : Nat) : Int)), .int (iI ((b0 : Nat) : Int)), .int (iI (ds : Int)), .int dc])), (h3, .inr (3, [.ref a3, .int (iI ((n3 : Nat) : Int))])), (a3, .inl (cI, 900, .inl (kN F))), (h1, .inr (3, [.ref a1, .int (iI ((n1 : Nat) : Int))])), (a1, .inl (cI, 300, .inl f1)), (h4, .inr (3, [.ref a4, .int (iI (((T).length : Nat) : Int))])), (a4, .inl (cI, 300, .inl (apL f4 0 (T))))] := hD
  refine W.widen (k := 0) (n := 0) (Nat.le_of_ble_eq_true rfl) (Nat.le_of_ble_eq_true rfl) ?_
  have hw : r1 = iI ((rv F n3 a0).1 : Int) := hw
  subst hw
  have hrv := rv_rng F n3 a0
  refine lv_istore_n (lv' := [(1, .int (iI ((rv F n3 a0).1 : Int))), (0, .ref ha)]) hx hb dX0_doNext_4 rfl hl (by decide) rfl (fun ls hl => ?_)
  refine lv_iload_n hx hb dX0_doNext_5 rfl (lv_at hl 0 rfl) ?_
  refine lv_iconst (v := iI (-1 : Int)) hx hb dX0_doNext_6 rfl ?_
  refine lv_icmp_ne (tgt := 12) hx hb dX0_doNext_7 (by decide) (fun c7 => ?_) (fun c7 => ?_)
  · skip
    have c7 := iI_eqF (a := ((rv F n3 a0).1 : Int)) (b := (-1 : Int)) c7 (by omega)
    refine lv_iload_n hx hb dX0_doNext_12 rfl (lv_at hl 0 rfl) ?_
    refine lv_iconst (v := iI (1 : Int)) hx hb dX0_doNext_13 rfl ?_
    refine lv_iushr hx hb dX0_doNext_14 rfl ?_
    refine kn_i (y := iI (((rv F n3 a0).1.toNat / 2 : Nat) : Int)) (b_ushr1' (by omega)) ?_
    refine lv_istore_n (lv' := [(2, .int (iI (((rv F n3 a0).1.toNat / 2 : Nat) : Int))), (1, .int (iI ((rv F n3 a0).1 : Int))), (0, .ref ha)]) hx hb dX0_doNext_15 rfl hl (by decide) rfl (fun ls hl => ?_)
    refine lv_iload_n hx hb dX0_doNext_16 rfl (lv_at hl 0 rfl) ?_
    refine lv_if_ne (tgt := 22) hx hb dX0_doNext_17 (by decide) (fun c17 => ?_) (fun c17 => ?_)
    · skip
      have c17 := iI_eqF (a := (((rv F n3 a0).1.toNat / 2 : Nat) : Int)) (b := (0 : Int)) c17 (by omega)
      refine lv_iload_n hx hb dX0_doNext_22 rfl (lv_at hl 1 rfl) ?_
      refine lv_iconst (v := iI (1 : Int)) hx hb dX0_doNext_23 rfl ?_
      refine lv_iand hx hb dX0_doNext_24 ?_
      refine kn_i (y := iI (((rv F n3 a0).1.toNat % 2 : Nat) : Int)) (b_and1' (by omega)) ?_
      refine lv_if_ne (tgt := 36) hx hb dX0_doNext_25 (by decide) (fun c25 => ?_) (fun c25 => ?_)
      · skip
        have c25 := iI_eqF (a := (((rv F n3 a0).1.toNat % 2 : Nat) : Int)) (b := (0 : Int)) c25 (by omega)
        refine lv_aload_n hx hb dX0_doNext_36 rfl (lv_at hl 2 rfl) ?_
        refine lv_iload_n hx hb dX0_doNext_37 rfl (lv_at hl 0 rfl) ?_
        refine k_calli (wc := [(ha, .inr (0, [.ref h3, .ref h1, .ref h4, .int (iI (((rv F n3 a0).2 : Nat) : Int)), .int (iI ((b0 : Nat) : Int)), .int (iI (ds : Int)), .int dc])), (h3, .inr (3, [.ref a3, .int (iI ((n3 : Nat) : Int))])), (a3, .inl (cI, 900, .inl (kN F))), (h1, .inr (3, [.ref a1, .int (iI ((n1 : Nat) : Int))])), (a1, .inl (cI, 300, .inl f1)), (h4, .inr (3, [.ref a4, .int (iI (((T).length : Nat) : Int))])), (a4, .inl (cI, 300, .inl (apL f4 0 (T))))]) (wr := []) (wf := fun u => match u with | ⟨a938, b938, T938⟩ => [(ha, .inr (0, [.ref h3, .ref h1, .ref h4, .int (iI ((a938 : Nat) : Int)), .int (iI ((b938 : Nat) : Int)), .int (iI (ds : Int)), .int dc])), (h3, .inr (3, [.ref a3, .int (iI ((n3 : Nat) : Int))])), (a3, .inl (cI, 900, .inl (kN F))), (h1, .inr (3, [.ref a1, .int (iI ((n1 : Nat) : Int))])), (a1, .inl (cI, 300, .inl f1)), (h4, .inr (3, [.ref a4, .int (iI (((T938).length : Nat) : Int))])), (a4, .inl (cI, 300, .inl (apL f4 0 (T938))))]) hK hP hD hS hA [0, 1, 2, 3, 4, 5, 6] [] [0, 1, 2, 3, 4, 5, 6] ⟨⟨rfl, rfl, by decide⟩, rfl, by decide, by decide⟩ (fun _ => ⟨rfl, rfl⟩) (by decide) (fun hPc hDc => va_runV (As := [.int (iI (((rv F n3 a0).1.toNat / 2 : Nat) : Int))]) (rest := []) ⟨hx, hb, hml, hown, hts⟩ (c_Applier_doCopy l D cI cZ (ha := ha) (h3 := h3) (h1 := h1) (h4 := h4) (a0 := (rv F n3 a0).2) (b0 := b0) (ds := ds) (dc := dc) (a3 := a3) (n3 := n3) (F := F) (a1 := a1) (n1 := n1) (f1 := f1) (a4 := a4) (f4 := f4) (T := T) (len := (rv F n3 a0).1.toNat / 2) (hat := by omega) (hn3 := by omega) (hB := by omega) (hn1 := by omega) (hb0 := by omega) (hds := by omega) (hTl := by omega) (hlen := by omega) _) (cwV 1 hts (kgV wm377 wm379 wm11 wm42 wmcX0_doCopy) rfl rfl rfl (by decide +kernel) ⟨Nat.le_of_ble_eq_true rfl, Nat.le_of_ble_eq_true rfl⟩) (k_preV hK hPc hDc (ci := 0) (q0 := 0) rfl rfl) rfl rfl hl.1 rfl (lv_room (Nat.le_of_ble_eq_true rfl)) dX0_doNext_38 ⟨Nat.le_of_ble_eq_true rfl, Nat.le_of_ble_eq_true rfl⟩) (fun r38 u H locs hw hP hD hS => ?_)
        obtain ⟨a938, b938, T938⟩ := u
        have hP : va_P D vwCl [(ha, .inr (0, [.ref h3, .ref h1, .ref h4, .int (iI ((a938 : Nat) : Int)), .int (iI ((b938 : Nat) : Int)), .int (iI (ds : Int)), .int dc])), (h3, .inr (3, [.ref a3, .int (iI ((n3 : Nat) : Int))])), (a3, .inl (cI, 900, .inl (kN F))), (h1, .inr (3, [.ref a1, .int (iI ((n1 : Nat) : Int))])), (a1, .inl (cI, 300, .inl f1)), (h4, .inr (3, [.ref a4, .int (iI (((T938).length : Nat) : Int))])), (a4, .inl (cI, 300, .inl (apL f4 0 (T938))))] H := hP
        have hD : va_D A [(ha, .inr (0, [.ref h3, .ref h1, .ref h4, .int (iI ((a938 : Nat) : Int)), .int (iI ((b938 : Nat) : Int)), .int (iI (ds : Int)), .int dc])), (h3, .inr (3, [.ref a3, .int (iI ((n3 : Nat) : Int))])), (a3, .inl (cI, 900, .inl (kN F))), (h1, .inr (3, [.ref a1, .int (iI ((n1 : Nat) : Int))])), (a1, .inl (cI, 300, .inl f1)), (h4, .inr (3, [.ref a4, .int (iI (((T938).length : Nat) : Int))])), (a4, .inl (cI, 300, .inl (apL f4 0 (T938))))] := hD
        refine W.widen (k := 0) (n := 0) (Nat.le_of_ble_eq_true rfl) (Nat.le_of_ble_eq_true rfl) ?_
        have hE : nxF F n3 f1 n1 ds a0 b0 T = cpF F n3 f1 n1 ds (rv F n3 a0).2 b0 T ((rv F n3 a0).1.toNat / 2) := by unfold nxF; rw [if_neg (by omega), if_neg (by omega), if_neg (by omega)]
        exact k_iret (a938, b938, T938) hx hb hr hlocks hK hP hD hS [0, 1, 2, 3, 4, 5, 6] (by decide) rfl rfl (by rw [hE]; exact hw) hAe hQ dX0_doNext_41
      · skip
        have c25 := iI_eqT (a := (((rv F n3 a0).1.toNat % 2 : Nat) : Int)) (b := (0 : Int)) c25 (by omega)
        refine lv_aload_n hx hb dX0_doNext_28 rfl (lv_at hl 2 rfl) ?_
        refine lv_iload_n hx hb dX0_doNext_29 rfl (lv_at hl 0 rfl) ?_
        refine k_calli (wc := [(ha, .inr (0, [.ref h3, .ref h1, .ref h4, .int (iI (((rv F n3 a0).2 : Nat) : Int)), .int (iI ((b0 : Nat) : Int)), .int (iI (ds : Int)), .int dc])), (h3, .inr (3, [.ref a3, .int (iI ((n3 : Nat) : Int))])), (a3, .inl (cI, 900, .inl (kN F))), (h4, .inr (3, [.ref a4, .int (iI (((T).length : Nat) : Int))])), (a4, .inl (cI, 300, .inl (apL f4 0 (T))))]) (wr := [(h1, .inr (3, [.ref a1, .int (iI ((n1 : Nat) : Int))])), (a1, .inl (cI, 300, .inl f1))]) (wf := fun u => match u with | ⟨a930, b930, T930⟩ => [(ha, .inr (0, [.ref h3, .ref h1, .ref h4, .int (iI ((a930 : Nat) : Int)), .int (iI ((b930 : Nat) : Int)), .int (iI (ds : Int)), .int dc])), (h3, .inr (3, [.ref a3, .int (iI ((n3 : Nat) : Int))])), (a3, .inl (cI, 900, .inl (kN F))), (h1, .inr (3, [.ref a1, .int (iI ((n1 : Nat) : Int))])), (a1, .inl (cI, 300, .inl f1)), (h4, .inr (3, [.ref a4, .int (iI (((T930).length : Nat) : Int))])), (a4, .inl (cI, 300, .inl (apL f4 0 (T930))))]) hK hP hD hS hA [0, 1, 2, 5, 6] [3, 4] [2, 3, 4, 0, 1, 5, 6] ⟨⟨rfl, rfl, by decide⟩, rfl, by decide, by decide⟩ (fun _ => ⟨rfl, rfl⟩) (by decide) (fun hPc hDc => va_runV (As := [.int (iI (((rv F n3 a0).1.toNat / 2 : Nat) : Int))]) (rest := []) ⟨hx, hb, hml, hown, hts⟩ (c_Applier_doAdd l D cI cZ (ha := ha) (h3 := h3) (h1 := h1) (h4 := h4) (a0 := (rv F n3 a0).2) (b0 := b0) (ds := ds) (dc := dc) (a3 := a3) (n3 := n3) (F := F) (a4 := a4) (f4 := f4) (T := T) (len := (rv F n3 a0).1.toNat / 2) (hat := by omega) (hn3 := by omega) (hds := by omega) (hTl := by omega) (hlen := by omega) _) (cwV 1 hts (kgV wm372 wm374 wm10 wm42 wmcX0_doAdd) rfl rfl rfl (by decide +kernel) ⟨Nat.le_of_ble_eq_true rfl, Nat.le_of_ble_eq_true rfl⟩) (k_preV hK hPc hDc (ci := 0) (q0 := 0) rfl rfl) rfl rfl hl.1 rfl (lv_room (Nat.le_of_ble_eq_true rfl)) dX0_doNext_30 ⟨Nat.le_of_ble_eq_true rfl, Nat.le_of_ble_eq_true rfl⟩) (fun r30 u H locs hw hP hD hS => ?_)
        obtain ⟨a930, b930, T930⟩ := u
        have hP : va_P D vwCl [(ha, .inr (0, [.ref h3, .ref h1, .ref h4, .int (iI ((a930 : Nat) : Int)), .int (iI ((b930 : Nat) : Int)), .int (iI (ds : Int)), .int dc])), (h3, .inr (3, [.ref a3, .int (iI ((n3 : Nat) : Int))])), (a3, .inl (cI, 900, .inl (kN F))), (h1, .inr (3, [.ref a1, .int (iI ((n1 : Nat) : Int))])), (a1, .inl (cI, 300, .inl f1)), (h4, .inr (3, [.ref a4, .int (iI (((T930).length : Nat) : Int))])), (a4, .inl (cI, 300, .inl (apL f4 0 (T930))))] H := hP
        have hD : va_D A [(ha, .inr (0, [.ref h3, .ref h1, .ref h4, .int (iI ((a930 : Nat) : Int)), .int (iI ((b930 : Nat) : Int)), .int (iI (ds : Int)), .int dc])), (h3, .inr (3, [.ref a3, .int (iI ((n3 : Nat) : Int))])), (a3, .inl (cI, 900, .inl (kN F))), (h1, .inr (3, [.ref a1, .int (iI ((n1 : Nat) : Int))])), (a1, .inl (cI, 300, .inl f1)), (h4, .inr (3, [.ref a4, .int (iI (((T930).length : Nat) : Int))])), (a4, .inl (cI, 300, .inl (apL f4 0 (T930))))] := hD
        refine W.widen (k := 0) (n := 0) (Nat.le_of_ble_eq_true rfl) (Nat.le_of_ble_eq_true rfl) ?_
        refine lv_goto (tgt := 41) hx hb dX0_doNext_33 (by decide) ?_
        have hE : nxF F n3 f1 n1 ds a0 b0 T = adF F n3 ds (rv F n3 a0).2 b0 T ((rv F n3 a0).1.toNat / 2) := by unfold nxF; rw [if_neg (by omega), if_neg (by omega), if_pos (by omega)]
        exact k_iret (a930, b930, T930) hx hb hr hlocks hK hP hD hS [0, 1, 2, 3, 4, 5, 6] (by decide) rfl rfl (by rw [hE]; exact hw) hAe hQ dX0_doNext_41
    · skip
      have c17 := iI_eqT (a := (((rv F n3 a0).1.toNat / 2 : Nat) : Int)) (b := (0 : Int)) c17 (by omega)
      refine lv_iconst (v := iI (-1 : Int)) hx hb dX0_doNext_20 rfl ?_
      have hE : nxF F n3 f1 n1 ds a0 b0 T = (-1, (rv F n3 a0).2, b0, T) := by unfold nxF; rw [if_neg (by omega), if_pos (by omega)]
      exact k_iret ((rv F n3 a0).2, b0, T) hx hb hr hlocks hK hP hD hS [0, 1, 2, 3, 4, 5, 6] (by decide) rfl rfl (⟨by rw [hE], by rw [hE]⟩) hAe hQ dX0_doNext_21
  · skip
    have c7 := iI_eqT (a := ((rv F n3 a0).1 : Int)) (b := (-1 : Int)) c7 (by omega)
    refine lv_iconst (v := iI (-1 : Int)) hx hb dX0_doNext_10 rfl ?_
    have hE : nxF F n3 f1 n1 ds a0 b0 T = (-1, (rv F n3 a0).2, b0, T) := by unfold nxF; rw [if_pos (by omega)]
    exact k_iret ((rv F n3 a0).2, b0, T) hx hb hr hlocks hK hP hD hS [0, 1, 2, 3, 4, 5, 6] (by decide) rfl rfl (⟨by rw [hE], by rw [hE]⟩) hAe hQ dX0_doNext_11

abbrev rm_c_Applier_doAll : Room := { frames := 4, cells := 0, slots := 0, locals := 91 }
set_option maxHeartbeats 4000000 in
set_option maxRecDepth 100000 in
theorem c_Applier_doAll (l : Launch) (D : va_G) (cI cZ : ClassId) (ha : Nat) (h3 : Nat) (h1 : Nat) (h4 : Nat) (a0 : Nat) (b0 : Nat) (ds : Int) (dc : Int32) (a3 : Nat) (n3 : Nat) (F : Nat → Nat) (a1 : Nat) (n1 : Nat) (f1 : Nat → Int32) (a4 : Nat) (f4 : Nat → Int32) (T : List Int32) (hat : a0 ≤ n3) (hn3 : n3 ≤ 900) (hB : ∀ j, j < n3 → F j < 256) (hn1 : n1 ≤ 300) (hb0 : b0 ≤ n1) (hds : 0 ≤ ds ∧ ds ≤ 300) (hTl : (T.length : Int) ≤ ds) : MI l yX0_doAll wsX0_doAll rm_c_Applier_doAll D (kT cI cZ) [.ref ha] [(ha, .inr (0, [.ref h3, .ref h1, .ref h4, .int (iI ((a0 : Nat) : Int)), .int (iI ((b0 : Nat) : Int)), .int (iI (ds : Int)), .int dc])), (h3, .inr (3, [.ref a3, .int (iI ((n3 : Nat) : Int))])), (a3, .inl (cI, 900, .inl (kN F))), (h1, .inr (3, [.ref a1, .int (iI ((n1 : Nat) : Int))])), (a1, .inl (cI, 300, .inl f1)), (h4, .inr (3, [.ref a4, .int (iI (((T).length : Nat) : Int))])), (a4, .inl (cI, 300, .inl (apL f4 0 (T))))] (fun (r : Int32) (u : Nat × Nat × List Int32) => r = iI (alF F n3 f1 n1 ds 900 a0 b0 T).1 ∧ u = (alF F n3 f1 n1 ds 900 a0 b0 T).2) (fun (u : Nat × Nat × List Int32) => match u with | ⟨a9, b9, T9⟩ => [(ha, .inr (0, [.ref h3, .ref h1, .ref h4, .int (iI ((a9 : Nat) : Int)), .int (iI ((b9 : Nat) : Int)), .int (iI (ds : Int)), .int dc])), (h3, .inr (3, [.ref a3, .int (iI ((n3 : Nat) : Int))])), (a3, .inl (cI, 900, .inl (kN F))), (h1, .inr (3, [.ref a1, .int (iI ((n1 : Nat) : Int))])), (a1, .inl (cI, 300, .inl f1)), (h4, .inr (3, [.ref a4, .int (iI (((T9).length : Nat) : Int))])), (a4, .inl (cI, 300, .inl (apL f4 0 (T9))))]) 0 0 := by
  intro sz
  refine k_of (cc := cX0_doAll) (maxL := 3) (ret := (some .int)) (by decide) rfl (Nat.le_of_ble_eq_true rfl) ?_
  intro p e s m args below meth c A Q hAe hQ hx hb hr hml hts hown hlocks hnm hP hK hD hS hA ls hl
  have hl : lv_has ls 3 [(0, .ref ha)] := hl
  refine lv_iconst (v := iI (0 : Int)) hx hb dX0_doAll_0 rfl ?_
  refine lv_istore_n (lv' := [(1, .int (iI (0 : Int))), (0, .ref ha)]) hx hb dX0_doAll_1 rfl hl (by decide) rfl (fun ls hl => ?_)
  refine lv_iconst (v := iI ((0 : Nat) : Int)) hx hb dX0_doAll_2 rfl ?_
  refine lv_istore_n (lv' := [(2, .int (iI ((0 : Nat) : Int))), (1, .int (iI (0 : Int))), (0, .ref ha)]) hx hb dX0_doAll_3 rfl hl (by decide) rfl (fun ls hl => ?_)
  have lp4 : ∀ (fu : Nat) (t : Nat) (z : Int) (a9 : Nat) (b9 : Nat) (T9 : List Int32) (H : Heap) (locs : List Loc) (ls : Array Slot), 900 - t < fu → (t ≤ 900) → (-8 ≤ z ∧ z ≤ 0) → (a9 ≤ n3) → (b9 ≤ n1) → ((T9.length : Int) ≤ ds) → ((z = 0 ∧ alF F n3 f1 n1 ds (900 - t) a9 b9 T9 = alF F n3 f1 n1 ds 900 a0 b0 T) ∨ (¬ z = 0 ∧ (z, a9, b9, T9) = alF F n3 f1 n1 ds 900 a0 b0 T)) → va_P D vwCl [(ha, .inr (0, [.ref h3, .ref h1, .ref h4, .int (iI ((a9 : Nat) : Int)), .int (iI ((b9 : Nat) : Int)), .int (iI (ds : Int)), .int dc])), (h3, .inr (3, [.ref a3, .int (iI ((n3 : Nat) : Int))])), (a3, .inl (cI, 900, .inl (kN F))), (h1, .inr (3, [.ref a1, .int (iI ((n1 : Nat) : Int))])), (a1, .inl (cI, 300, .inl f1)), (h4, .inr (3, [.ref a4, .int (iI (((T9).length : Nat) : Int))])), (a4, .inl (cI, 300, .inl (apL f4 0 (T9))))] H → va_D A [(ha, .inr (0, [.ref h3, .ref h1, .ref h4, .int (iI ((a9 : Nat) : Int)), .int (iI ((b9 : Nat) : Int)), .int (iI (ds : Int)), .int dc])), (h3, .inr (3, [.ref a3, .int (iI ((n3 : Nat) : Int))])), (a3, .inl (cI, 900, .inl (kN F))), (h1, .inr (3, [.ref a1, .int (iI ((n1 : Nat) : Int))])), (a1, .inl (cI, 300, .inl f1)), (h4, .inr (3, [.ref a4, .int (iI (((T9).length : Nat) : Int))])), (a4, .inl (cI, 300, .inl (apL f4 0 (T9))))] → va_S A s.heap H locs → lv_has ls 3 [(0, .ref ha), (1, .int (iI (z : Int))), (2, .int (iI ((t : Nat) : Int)))] → W p l e rm_c_Applier_doAll s m args below meth c H locs 0 0 Q (F0 m 4 ls []) := by
    intro fu
    induction fu with
    | zero => intro t z a9 b9 T9 H locs ls hfu; exact absurd hfu (Nat.not_lt_zero _)
    | succ fu ih4 =>
      intro t z a9 b9 T9 H locs ls hfu ht hz ha9 hb9 hT9 hR hP hD hS hl
      refine lv_iload_n hx hb dX0_doAll_4 rfl (lv_at hl 2 rfl) ?_
      refine lv_sipush (v := iI (900 : Int)) hx hb dX0_doAll_5 (by decide) ?_
      refine lv_icmp_ge (tgt := 33) hx hb dX0_doAll_8 (by decide) (fun c8 => ?_) (fun c8 => ?_)
      · skip
        have c8 := iI_leT (a := (900 : Int)) (b := ((t : Nat) : Int)) c8 (by omega)
        refine lv_iload_n hx hb dX0_doAll_33 rfl (lv_at hl 1 rfl) ?_
        have hE : alF F n3 f1 n1 ds 900 a0 b0 T = (z, a9, b9, T9) := by
          rcases hR with ⟨h0, h⟩ | ⟨h0, h⟩
          · first | (exfalso; omega) | (rw [← h, alF_e (by omega), h0])
          · exact h.symm
        exact k_iret (a9, b9, T9) hx hb hr hlocks hK hP hD hS [0, 1, 2, 3, 4, 5, 6] (by decide) rfl rfl (⟨by rw [hE], by rw [hE]⟩) hAe hQ dX0_doAll_34
      · skip
        have c8 := iI_leF (a := (900 : Int)) (b := ((t : Nat) : Int)) c8 (by omega)
        refine lv_iload_n hx hb dX0_doAll_11 rfl (lv_at hl 1 rfl) ?_
        refine lv_if_ne (tgt := 33) hx hb dX0_doAll_12 (by decide) (fun c12 => ?_) (fun c12 => ?_)
        · skip
          have c12 := iI_eqF (a := (z : Int)) (b := (0 : Int)) c12 (by omega)
          refine lv_iload_n hx hb dX0_doAll_33 rfl (lv_at hl 1 rfl) ?_
          have hE : alF F n3 f1 n1 ds 900 a0 b0 T = (z, a9, b9, T9) := by
            rcases hR with ⟨h0, h⟩ | ⟨h0, h⟩
            · first | (exfalso; omega) | (rw [← h, alF_e (by omega), h0])
            · exact h.symm
          exact k_iret (a9, b9, T9) hx hb hr hlocks hK hP hD hS [0, 1, 2, 3, 4, 5, 6] (by decide) rfl rfl (⟨by rw [hE], by rw [hE]⟩) hAe hQ dX0_doAll_34
        · skip
          have c12 := iI_eqT (a := (z : Int)) (b := (0 : Int)) c12 (by omega)
          refine lv_aload_n hx hb dX0_doAll_15 rfl (lv_at hl 0 rfl) ?_
          refine k_calli (wc := [(ha, .inr (0, [.ref h3, .ref h1, .ref h4, .int (iI ((a9 : Nat) : Int)), .int (iI ((b9 : Nat) : Int)), .int (iI (ds : Int)), .int dc])), (h3, .inr (3, [.ref a3, .int (iI ((n3 : Nat) : Int))])), (a3, .inl (cI, 900, .inl (kN F)))]) (wr := [(h1, .inr (3, [.ref a1, .int (iI ((n1 : Nat) : Int))])), (a1, .inl (cI, 300, .inl f1)), (h4, .inr (3, [.ref a4, .int (iI (((T9).length : Nat) : Int))])), (a4, .inl (cI, 300, .inl (apL f4 0 (T9))))]) (wf := fun _ => [(ha, .inr (0, [.ref h3, .ref h1, .ref h4, .int (iI ((a9 : Nat) : Int)), .int (iI ((b9 : Nat) : Int)), .int (iI (ds : Int)), .int dc])), (h3, .inr (3, [.ref a3, .int (iI ((n3 : Nat) : Int))])), (a3, .inl (cI, 900, .inl (kN F))), (h1, .inr (3, [.ref a1, .int (iI ((n1 : Nat) : Int))])), (a1, .inl (cI, 300, .inl f1)), (h4, .inr (3, [.ref a4, .int (iI (((T9).length : Nat) : Int))])), (a4, .inl (cI, 300, .inl (apL f4 0 (T9))))]) hK hP hD hS hA [0, 1, 2] [3, 4, 5, 6] [4, 5, 6, 0, 1, 2, 3] ⟨⟨rfl, rfl, by decide⟩, rfl, by decide, by decide⟩ (fun _ => ⟨rfl, rfl⟩) (by decide) (fun hPc hDc => va_runV (As := []) (rest := []) ⟨hx, hb, hml, hown, hts⟩ (c_Applier_unread l D cI cZ (ha := ha) (h3 := h3) (h1 := h1) (h4 := h4) (a0 := a9) (b0 := b9) (ds := ds) (dc := dc) (a3 := a3) (n3 := n3) (F := F) (hat := by omega) (hn3 := by omega) _) (cwV 0 hts (kgV wm354 wm356 wm6 wm42 wmcX0_unread) rfl rfl rfl (by decide +kernel) ⟨Nat.le_of_ble_eq_true rfl, Nat.le_of_ble_eq_true rfl⟩) (k_preV hK hPc hDc (ci := 0) (q0 := 0) rfl rfl) rfl rfl hl.1 rfl (lv_room (Nat.le_of_ble_eq_true rfl)) dX0_doAll_16 ⟨Nat.le_of_ble_eq_true rfl, Nat.le_of_ble_eq_true rfl⟩) (fun r16 u H locs hw hP hD hS => ?_)
          have hP : va_P D vwCl [(ha, .inr (0, [.ref h3, .ref h1, .ref h4, .int (iI ((a9 : Nat) : Int)), .int (iI ((b9 : Nat) : Int)), .int (iI (ds : Int)), .int dc])), (h3, .inr (3, [.ref a3, .int (iI ((n3 : Nat) : Int))])), (a3, .inl (cI, 900, .inl (kN F))), (h1, .inr (3, [.ref a1, .int (iI ((n1 : Nat) : Int))])), (a1, .inl (cI, 300, .inl f1)), (h4, .inr (3, [.ref a4, .int (iI (((T9).length : Nat) : Int))])), (a4, .inl (cI, 300, .inl (apL f4 0 (T9))))] H := hP
          have hD : va_D A [(ha, .inr (0, [.ref h3, .ref h1, .ref h4, .int (iI ((a9 : Nat) : Int)), .int (iI ((b9 : Nat) : Int)), .int (iI (ds : Int)), .int dc])), (h3, .inr (3, [.ref a3, .int (iI ((n3 : Nat) : Int))])), (a3, .inl (cI, 900, .inl (kN F))), (h1, .inr (3, [.ref a1, .int (iI ((n1 : Nat) : Int))])), (a1, .inl (cI, 300, .inl f1)), (h4, .inr (3, [.ref a4, .int (iI (((T9).length : Nat) : Int))])), (a4, .inl (cI, 300, .inl (apL f4 0 (T9))))] := hD
          refine W.widen (k := 0) (n := 0) (Nat.le_of_ble_eq_true rfl) (Nat.le_of_ble_eq_true rfl) ?_
          have hw : r16 = iI (((n3 - a9) : Nat) : Int) := hw
          subst hw
          refine lv_if_le (tgt := 33) hx hb dX0_doAll_19 (by decide) (fun c19 => ?_) (fun c19 => ?_)
          · skip
            have c19 := iI_leT (a := (((n3 - a9) : Nat) : Int)) (b := (0 : Int)) c19 (by omega)
            refine lv_iload_n hx hb dX0_doAll_33 rfl (lv_at hl 1 rfl) ?_
            have hE : alF F n3 f1 n1 ds 900 a0 b0 T = (z, a9, b9, T9) := by
              rcases hR with ⟨h0, h⟩ | ⟨h0, h⟩
              · first | (exfalso; omega) | (rw [← h, alF_e (by omega), h0])
              · exact h.symm
            exact k_iret (a9, b9, T9) hx hb hr hlocks hK hP hD hS [0, 1, 2, 3, 4, 5, 6] (by decide) rfl rfl (⟨by rw [hE], by rw [hE]⟩) hAe hQ dX0_doAll_34
          · skip
            have c19 := iI_leF (a := (((n3 - a9) : Nat) : Int)) (b := (0 : Int)) c19 (by omega)
            refine lv_aload_n hx hb dX0_doAll_22 rfl (lv_at hl 0 rfl) ?_
            refine k_calli (wc := [(ha, .inr (0, [.ref h3, .ref h1, .ref h4, .int (iI ((a9 : Nat) : Int)), .int (iI ((b9 : Nat) : Int)), .int (iI (ds : Int)), .int dc])), (h3, .inr (3, [.ref a3, .int (iI ((n3 : Nat) : Int))])), (a3, .inl (cI, 900, .inl (kN F))), (h1, .inr (3, [.ref a1, .int (iI ((n1 : Nat) : Int))])), (a1, .inl (cI, 300, .inl f1)), (h4, .inr (3, [.ref a4, .int (iI (((T9).length : Nat) : Int))])), (a4, .inl (cI, 300, .inl (apL f4 0 (T9))))]) (wr := []) (wf := fun u => match u with | ⟨a8, b8, T8⟩ => [(ha, .inr (0, [.ref h3, .ref h1, .ref h4, .int (iI ((a8 : Nat) : Int)), .int (iI ((b8 : Nat) : Int)), .int (iI (ds : Int)), .int dc])), (h3, .inr (3, [.ref a3, .int (iI ((n3 : Nat) : Int))])), (a3, .inl (cI, 900, .inl (kN F))), (h1, .inr (3, [.ref a1, .int (iI ((n1 : Nat) : Int))])), (a1, .inl (cI, 300, .inl f1)), (h4, .inr (3, [.ref a4, .int (iI (((T8).length : Nat) : Int))])), (a4, .inl (cI, 300, .inl (apL f4 0 (T8))))]) hK hP hD hS hA [0, 1, 2, 3, 4, 5, 6] [] [0, 1, 2, 3, 4, 5, 6] ⟨⟨rfl, rfl, by decide⟩, rfl, by decide, by decide⟩ (fun _ => ⟨rfl, rfl⟩) (by decide) (fun hPc hDc => va_runV (As := []) (rest := []) ⟨hx, hb, hml, hown, hts⟩ (c_Applier_doNext l D cI cZ (ha := ha) (h3 := h3) (h1 := h1) (h4 := h4) (a0 := a9) (b0 := b9) (ds := ds) (dc := dc) (a3 := a3) (n3 := n3) (F := F) (a1 := a1) (n1 := n1) (f1 := f1) (a4 := a4) (f4 := f4) (T := T9) (hat := by omega) (hn3 := by omega) (hB := by omega) (hn1 := by omega) (hb0 := by omega) (hds := by omega) (hTl := by omega) _) (cwV 0 hts (kgV wm368 wm370 wm9 wm42 wmcX0_doNext) rfl rfl rfl (by decide +kernel) ⟨Nat.le_of_ble_eq_true rfl, Nat.le_of_ble_eq_true rfl⟩) (k_preV hK hPc hDc (ci := 0) (q0 := 0) rfl rfl) rfl rfl hl.1 rfl (lv_room (Nat.le_of_ble_eq_true rfl)) dX0_doAll_23 ⟨Nat.le_of_ble_eq_true rfl, Nat.le_of_ble_eq_true rfl⟩) (fun r23 u H locs hw hP hD hS => ?_)
            obtain ⟨a8, b8, T8⟩ := u
            have hP : va_P D vwCl [(ha, .inr (0, [.ref h3, .ref h1, .ref h4, .int (iI ((a8 : Nat) : Int)), .int (iI ((b8 : Nat) : Int)), .int (iI (ds : Int)), .int dc])), (h3, .inr (3, [.ref a3, .int (iI ((n3 : Nat) : Int))])), (a3, .inl (cI, 900, .inl (kN F))), (h1, .inr (3, [.ref a1, .int (iI ((n1 : Nat) : Int))])), (a1, .inl (cI, 300, .inl f1)), (h4, .inr (3, [.ref a4, .int (iI (((T8).length : Nat) : Int))])), (a4, .inl (cI, 300, .inl (apL f4 0 (T8))))] H := hP
            have hD : va_D A [(ha, .inr (0, [.ref h3, .ref h1, .ref h4, .int (iI ((a8 : Nat) : Int)), .int (iI ((b8 : Nat) : Int)), .int (iI (ds : Int)), .int dc])), (h3, .inr (3, [.ref a3, .int (iI ((n3 : Nat) : Int))])), (a3, .inl (cI, 900, .inl (kN F))), (h1, .inr (3, [.ref a1, .int (iI ((n1 : Nat) : Int))])), (a1, .inl (cI, 300, .inl f1)), (h4, .inr (3, [.ref a4, .int (iI (((T8).length : Nat) : Int))])), (a4, .inl (cI, 300, .inl (apL f4 0 (T8))))] := hD
            refine W.widen (k := 0) (n := 0) (Nat.le_of_ble_eq_true rfl) (Nat.le_of_ble_eq_true rfl) ?_
            obtain ⟨hw1, hw2⟩ := hw
            obtain ⟨e1, e2, e3⟩ : a8 = (nxF F n3 f1 n1 ds a9 b9 T9).2.1 ∧ b8 = (nxF F n3 f1 n1 ds a9 b9 T9).2.2.1 ∧ T8 = (nxF F n3 f1 n1 ds a9 b9 T9).2.2.2 := by rw [← hw2]; exact ⟨rfl, rfl, rfl⟩
            subst hw1
            have hnw := nxF_w (F := F) (f1 := f1) ha9 hb9 hT9
            have hal := al_step (show t < 900 by omega) (show a9 < n3 by omega) (hR.elim (fun h => h.2) (fun h => absurd c12 h.1))
            refine lv_istore_n (lv' := [(1, .int (iI ((nxF F n3 f1 n1 ds a9 b9 T9).1 : Int))), (0, .ref ha), (2, .int (iI ((t : Nat) : Int)))]) hx hb dX0_doAll_26 rfl hl (by decide) rfl (fun ls hl => ?_)
            refine lv_iinc (v := iI ((t + 1 : Nat) : Int)) (lv' := [(2, .int (iI ((t + 1 : Nat) : Int))), (1, .int (iI ((nxF F n3 f1 n1 ds a9 b9 T9).1 : Int))), (0, .ref ha)]) hx hb dX0_doAll_27 hl (k := 2) rfl (iA (by omega)) (by decide) rfl (fun ls hl => ?_)
            refine lv_goto (tgt := 4) hx hb dX0_doAll_30 (by decide) ?_
            exact ih4 (t + 1) ((nxF F n3 f1 n1 ds a9 b9 T9).1) a8 b8 T8 _ _ _ (by omega) (by omega) hnw.1 (by rw [e1]; exact hnw.2.1) (by rw [e2]; exact hnw.2.2.1) (by rw [e3]; exact hnw.2.2.2) (by rw [e1, e2, e3]; exact hal) hP hD hS (lv_sub hl [2, 1, 0] rfl)
  exact lp4 _ 0 0 a0 b0 T _ _ _ (Nat.lt_succ_self _) (by omega) (by omega) (by omega) (by omega) hTl (Or.inl ⟨rfl, rfl⟩) hP hD hS (lv_sub hl [2, 1, 0] rfl)

abbrev rm_c_Applier_judgeResult : Room := { frames := 1, cells := 0, slots := 0, locals := 23 }
set_option maxHeartbeats 4000000 in
set_option maxRecDepth 100000 in
theorem c_Applier_judgeResult (l : Launch) (D : va_G) (cI cZ : ClassId) (ha : Nat) (h3 : Nat) (h1 : Nat) (h4 : Nat) (a0 : Nat) (b0 : Nat) (ds : Int) (dc : Int32) (a4 : Nat) (f4 : Nat → Int32) (T : List Int32) (hds : 0 ≤ ds ∧ ds ≤ 300) (hTl : (T.length : Int) ≤ ds) : MI l yX0_judgeResult wsX0_judgeResult rm_c_Applier_judgeResult D (kT cI cZ) [.ref ha] [(ha, .inr (0, [.ref h3, .ref h1, .ref h4, .int (iI ((a0 : Nat) : Int)), .int (iI ((b0 : Nat) : Int)), .int (iI (ds : Int)), .int dc])), (h4, .inr (3, [.ref a4, .int (iI (((T).length : Nat) : Int))])), (a4, .inl (cI, 300, .inl (apL f4 0 (T))))] (fun (r : Int32) (_ : Unit) => r = iI (jdF ds dc T : Int)) (fun (u : Unit) => match u with | _ => [(ha, .inr (0, [.ref h3, .ref h1, .ref h4, .int (iI ((a0 : Nat) : Int)), .int (iI ((b0 : Nat) : Int)), .int (iI (ds : Int)), .int dc])), (h4, .inr (3, [.ref a4, .int (iI (((T).length : Nat) : Int))])), (a4, .inl (cI, 300, .inl (apL f4 0 (T))))]) 0 0 := by
  intro sz
  refine k_of (cc := cX0_judgeResult) (maxL := 1) (ret := (some .int)) (by decide) rfl (Nat.le_of_ble_eq_true rfl) ?_
  intro p e s m args below meth c A Q hAe hQ hx hb hr hml hts hown hlocks hnm hP hK hD hS hA ls hl
  have hl : lv_has ls 1 [(0, .ref ha)] := hl
  have hi_X0 : ∀ w ∈ u_ws RX0 TX0 7, w ∈ wsX0_judgeResult := fun w h => km (ikX0 w h)
  have fl18 := hts _ (km wm105)
  have fl28 := hts _ (km wm108)
  have fl31 := hts _ (km wm109)
  refine lv_aload_n hx hb dX0_judgeResult_0 rfl (lv_at hl 0 rfl) ?_
  refine va_get (D := D) (ci := 0) (v := .ref h4) (C := RX0) (T := TX0) (N := 7) hx hb hts hi_X0 hown hK hP 0 rfl rfl 2 (by decide) fl18 (fun _ h9 => h9) rfl dX0_judgeResult_1 ?_
  refine k_calli (wc := [(h4, .inr (3, [.ref a4, .int (iI (((T).length : Nat) : Int))])), (a4, .inl (cI, 300, .inl (apL f4 0 (T))))]) (wr := [(ha, .inr (0, [.ref h3, .ref h1, .ref h4, .int (iI ((a0 : Nat) : Int)), .int (iI ((b0 : Nat) : Int)), .int (iI (ds : Int)), .int dc]))]) (wf := fun _ => [(ha, .inr (0, [.ref h3, .ref h1, .ref h4, .int (iI ((a0 : Nat) : Int)), .int (iI ((b0 : Nat) : Int)), .int (iI (ds : Int)), .int dc])), (h4, .inr (3, [.ref a4, .int (iI ((((T).length) : Nat) : Int))])), (a4, .inl (cI, 300, .inl (apL f4 0 (T))))]) hK hP hD hS hA [1, 2] [0] [0, 1, 2] ⟨⟨rfl, rfl, by decide⟩, rfl, by decide, by decide⟩ (fun _ => ⟨rfl, rfl⟩) (by decide) (fun hPc hDc => va_runV (As := []) (rest := []) ⟨hx, hb, hml, hown, hts⟩ (c_Row_count l D cI cZ (h := h4) (a := a4) (M := 300) (n := (T).length) (f := (apL f4 0 (T)))  _) (cwV 0 hts (kgV wm358 wm193 wm194 wm39 wmcX3_count) rfl rfl rfl (by decide +kernel) ⟨Nat.le_of_ble_eq_true rfl, Nat.le_of_ble_eq_true rfl⟩) (k_preV hK hPc hDc (ci := 3) (q0 := 0) rfl rfl) rfl rfl hl.1 rfl (lv_room (Nat.le_of_ble_eq_true rfl)) dX0_judgeResult_4 ⟨Nat.le_of_ble_eq_true rfl, Nat.le_of_ble_eq_true rfl⟩) (fun r4 u H locs hw hP hD hS => ?_)
  have hP : va_P D vwCl [(ha, .inr (0, [.ref h3, .ref h1, .ref h4, .int (iI ((a0 : Nat) : Int)), .int (iI ((b0 : Nat) : Int)), .int (iI (ds : Int)), .int dc])), (h4, .inr (3, [.ref a4, .int (iI ((((T).length) : Nat) : Int))])), (a4, .inl (cI, 300, .inl (apL f4 0 (T))))] H := hP
  have hD : va_D A [(ha, .inr (0, [.ref h3, .ref h1, .ref h4, .int (iI ((a0 : Nat) : Int)), .int (iI ((b0 : Nat) : Int)), .int (iI (ds : Int)), .int dc])), (h4, .inr (3, [.ref a4, .int (iI ((((T).length) : Nat) : Int))])), (a4, .inl (cI, 300, .inl (apL f4 0 (T))))] := hD
  refine W.widen (k := 0) (n := 0) (Nat.le_of_ble_eq_true rfl) (Nat.le_of_ble_eq_true rfl) ?_
  have hw : r4 = iI ((((T).length) : Nat) : Int) := hw
  subst hw
  refine lv_aload_n hx hb dX0_judgeResult_7 rfl (lv_at hl 0 rfl) ?_
  refine va_get (D := D) (ci := 0) (v := .int (iI (ds : Int))) (C := RX0) (T := TX0) (N := 7) hx hb hts hi_X0 hown hK hP 0 rfl rfl 5 (by decide) fl28 (fun _ h9 => h9) rfl dX0_judgeResult_8 ?_
  refine lv_icmp_ge (tgt := 17) hx hb dX0_judgeResult_11 (by decide) (fun c11 => ?_) (fun c11 => ?_)
  · skip
    have c11 := iI_leT (a := (ds : Int)) (b := ((((T).length) : Nat) : Int)) c11 (by omega)
    refine lv_aload_n hx hb dX0_judgeResult_17 rfl (lv_at hl 0 rfl) ?_
    refine va_get (D := D) (ci := 0) (v := .ref h4) (C := RX0) (T := TX0) (N := 7) hx hb hts hi_X0 hown hK hP 0 rfl rfl 2 (by decide) fl18 (fun _ h9 => h9) rfl dX0_judgeResult_18 ?_
    refine k_calli (wc := [(h4, .inr (3, [.ref a4, .int (iI ((((T).length) : Nat) : Int))])), (a4, .inl (cI, 300, .inl (apL f4 0 (T))))]) (wr := [(ha, .inr (0, [.ref h3, .ref h1, .ref h4, .int (iI ((a0 : Nat) : Int)), .int (iI ((b0 : Nat) : Int)), .int (iI (ds : Int)), .int dc]))]) (wf := fun _ => [(ha, .inr (0, [.ref h3, .ref h1, .ref h4, .int (iI ((a0 : Nat) : Int)), .int (iI ((b0 : Nat) : Int)), .int (iI (ds : Int)), .int dc])), (h4, .inr (3, [.ref a4, .int (iI ((((T).length) : Nat) : Int))])), (a4, .inl (cI, 300, .inl (apL f4 0 (T))))]) hK hP hD hS hA [1, 2] [0] [0, 1, 2] ⟨⟨rfl, rfl, by decide⟩, rfl, by decide, by decide⟩ (fun _ => ⟨rfl, rfl⟩) (by decide) (fun hPc hDc => va_runV (As := []) (rest := []) ⟨hx, hb, hml, hown, hts⟩ (c_Row_digest l D cI cZ (h := h4) (a := a4) (M := 300) (n := ((T).length)) (f := (apL f4 0 (T))) (hM := by omega) (hn := by omega) _) (cwV 0 hts (kgV wm363 wm286 wm287 wm39 wmcX3_digest) rfl rfl rfl (by decide +kernel) ⟨Nat.le_of_ble_eq_true rfl, Nat.le_of_ble_eq_true rfl⟩) (k_preV hK hPc hDc (ci := 3) (q0 := 0) rfl rfl) rfl rfl hl.1 rfl (lv_room (Nat.le_of_ble_eq_true rfl)) dX0_judgeResult_21 ⟨Nat.le_of_ble_eq_true rfl, Nat.le_of_ble_eq_true rfl⟩) (fun r21 u H locs hw hP hD hS => ?_)
    have hP : va_P D vwCl [(ha, .inr (0, [.ref h3, .ref h1, .ref h4, .int (iI ((a0 : Nat) : Int)), .int (iI ((b0 : Nat) : Int)), .int (iI (ds : Int)), .int dc])), (h4, .inr (3, [.ref a4, .int (iI ((((T).length) : Nat) : Int))])), (a4, .inl (cI, 300, .inl (apL f4 0 (T))))] H := hP
    have hD : va_D A [(ha, .inr (0, [.ref h3, .ref h1, .ref h4, .int (iI ((a0 : Nat) : Int)), .int (iI ((b0 : Nat) : Int)), .int (iI (ds : Int)), .int dc])), (h4, .inr (3, [.ref a4, .int (iI ((((T).length) : Nat) : Int))])), (a4, .inl (cI, 300, .inl (apL f4 0 (T))))] := hD
    refine W.widen (k := 0) (n := 0) (Nat.le_of_ble_eq_true rfl) (Nat.le_of_ble_eq_true rfl) ?_
    have hw : r21 = (dg (apL f4 0 (T)) ((T).length)) := hw
    subst hw
    refine lv_aload_n hx hb dX0_judgeResult_24 rfl (lv_at hl 0 rfl) ?_
    refine va_get (D := D) (ci := 0) (v := .int dc) (C := RX0) (T := TX0) (N := 7) hx hb hts hi_X0 hown hK hP 0 rfl rfl 6 (by decide) fl31 (fun _ h9 => h9) rfl dX0_judgeResult_25 ?_
    refine lv_icmp_ne (tgt := 35) hx hb dX0_judgeResult_28 (by decide) (fun c28 => ?_) (fun c28 => ?_)
    · skip
      refine lv_bipush (v := iI (-8 : Int)) hx hb dX0_judgeResult_35 (by decide) ?_
      exact k_iret () hx hb hr hlocks hK hP hD hS [0, 1, 2] (by decide) rfl rfl (by unfold jdF; rw [dg_ap0] at c28; rw [if_neg (by omega), if_neg c28]) hAe hQ dX0_judgeResult_37
    · skip
      refine lv_iconst (v := iI (0 : Int)) hx hb dX0_judgeResult_31 rfl ?_
      refine lv_goto (tgt := 37) hx hb dX0_judgeResult_32 (by decide) ?_
      exact k_iret () hx hb hr hlocks hK hP hD hS [0, 1, 2] (by decide) rfl rfl (by unfold jdF; rw [dg_ap0] at c28; rw [if_neg (by omega), if_pos c28]) hAe hQ dX0_judgeResult_37
  · skip
    have c11 := iI_leF (a := (ds : Int)) (b := ((((T).length) : Nat) : Int)) c11 (by omega)
    refine lv_bipush (v := iI (-7 : Int)) hx hb dX0_judgeResult_14 (by decide) ?_
    exact k_iret () hx hb hr hlocks hK hP hD hS [0, 1, 2] (by decide) rfl rfl (by unfold jdF; rw [if_pos (by omega)]) hAe hQ dX0_judgeResult_16
