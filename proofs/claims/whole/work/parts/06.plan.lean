abbrev rm_c_Plan_wwt : Room := { frames := 1, cells := 0, slots := 0, locals := 21 }
set_option maxHeartbeats 4000000 in
set_option maxRecDepth 100000 in
theorem c_Plan_wwt (l : Launch) (D : va_G) (cI cZ : ClassId) (hp : Nat) (ob : Nat) (og : Nat) (ap : Nat) (al : Nat) (aq : Nat) (cnt : Nat) (P : Nat → Int) (L : Nat → Int) (S : Nat → Int) (i : Nat) (k : Nat) (hc : cnt ≤ 300) (hi : i < cnt) (hk : k < cnt) (hPi : 0 ≤ P i ∧ P i ≤ 300) (hLi : 0 ≤ L i ∧ L i ≤ 300) (hLk : 0 ≤ L k ∧ L k ≤ 300) (hSk : -1 ≤ S k ∧ S k ≤ 300) : MI l yX2_writesWhereTakes wsX2_writesWhereTakes rm_c_Plan_wwt D (kT cI cZ) [.ref hp, .int (iI ((i : Nat) : Int)), .int (iI ((k : Nat) : Int))] [(hp, .inr (2, [.ref ob, .ref og, .ref ap, .ref al, .ref aq, .int (iI ((cnt : Nat) : Int))])), (ap, .inl (cI, 300, .inl (kA P))), (al, .inl (cI, 300, .inl (kA L))), (aq, .inl (cI, 300, .inl (kA S)))] (fun (r : Int32) (_ : Unit) => r = kb (decide (P i < S k + L k ∧ S k < P i + L i))) (fun (u : Unit) => match u with | _ => [(hp, .inr (2, [.ref ob, .ref og, .ref ap, .ref al, .ref aq, .int (iI ((cnt : Nat) : Int))])), (ap, .inl (cI, 300, .inl (kA P))), (al, .inl (cI, 300, .inl (kA L))), (aq, .inl (cI, 300, .inl (kA S)))]) 0 0 := by
  intro sz
  refine k_of (cc := cX2_writesWhereTakes) (maxL := 3) (ret := (some .boolean)) (by decide) rfl (Nat.le_of_ble_eq_true rfl) ?_
  intro p e s m args below meth c A Q hAe hQ hx hb hr hml hts hown hlocks hnm hP hK hD hS hA ls hl
  have hl : lv_has ls 3 [(0, .ref hp), (1, .int (iI ((i : Nat) : Int))), (2, .int (iI ((k : Nat) : Int)))] := hl
  have hi_X2 : ∀ w ∈ u_ws RX2 TX2 6, w ∈ wsX2_writesWhereTakes := fun w h => km (ikX2 w h)
  have fl23 := hts _ (km wm80)
  have fl30 := hts _ (km wm82)
  have fl27 := hts _ (km wm81)
  refine lv_aload_n hx hb dX2_writesWhereTakes_0 rfl (lv_at hl 0 rfl) ?_
  refine lv_iload_n hx hb dX2_writesWhereTakes_1 rfl (lv_at hl 1 rfl) ?_
  refine k_calli (wc := [(hp, .inr (2, [.ref ob, .ref og, .ref ap, .ref al, .ref aq, .int (iI ((cnt : Nat) : Int))]))]) (wr := [(ap, .inl (cI, 300, .inl (kA P))), (al, .inl (cI, 300, .inl (kA L))), (aq, .inl (cI, 300, .inl (kA S)))]) (wf := fun _ => [(hp, .inr (2, [.ref ob, .ref og, .ref ap, .ref al, .ref aq, .int (iI ((cnt : Nat) : Int))])), (ap, .inl (cI, 300, .inl (kA P))), (al, .inl (cI, 300, .inl (kA L))), (aq, .inl (cI, 300, .inl (kA S)))]) hK hP hD hS hA [0] [1, 2, 3] [3, 0, 1, 2] ⟨⟨rfl, rfl, by decide⟩, rfl, by decide, by decide⟩ (fun _ => ⟨rfl, rfl⟩) (by decide) (fun hPc hDc => va_runV (As := [.int (iI ((i : Nat) : Int))]) (rest := []) ⟨hx, hb, hml, hown, hts⟩ (c_Plan_has l D cI cZ (hp := hp) (ob := ob) (og := og) (ap := ap) (al := al) (aq := aq) (cnt := cnt) (z := ((i : Nat) : Int)) (hc := by omega) (hz := by omega) _) (cwV 1 hts (kgV wm256 wm257 wm258 wm41 wmcX2_has) rfl rfl rfl (by decide +kernel) ⟨Nat.le_of_ble_eq_true rfl, Nat.le_of_ble_eq_true rfl⟩) (k_preV hK hPc hDc (ci := 2) (q0 := 0) rfl rfl) rfl rfl hl.1 rfl (lv_room (Nat.le_of_ble_eq_true rfl)) dX2_writesWhereTakes_2 ⟨Nat.le_of_ble_eq_true rfl, Nat.le_of_ble_eq_true rfl⟩) (fun r2 u H locs hw hP hD hS => ?_)
  have hP : va_P D vwCl [(hp, .inr (2, [.ref ob, .ref og, .ref ap, .ref al, .ref aq, .int (iI ((cnt : Nat) : Int))])), (ap, .inl (cI, 300, .inl (kA P))), (al, .inl (cI, 300, .inl (kA L))), (aq, .inl (cI, 300, .inl (kA S)))] H := hP
  have hD : va_D A [(hp, .inr (2, [.ref ob, .ref og, .ref ap, .ref al, .ref aq, .int (iI ((cnt : Nat) : Int))])), (ap, .inl (cI, 300, .inl (kA P))), (al, .inl (cI, 300, .inl (kA L))), (aq, .inl (cI, 300, .inl (kA S)))] := hD
  refine W.widen (k := 0) (n := 0) (Nat.le_of_ble_eq_true rfl) (Nat.le_of_ble_eq_true rfl) ?_
  have hw : r2 = kb (decide (0 ≤ ((i : Nat) : Int) ∧ ((i : Nat) : Int) < ((cnt : Nat) : Int))) := hw
  subst hw
  refine lv_if_eq (tgt := 64) hx hb dX2_writesWhereTakes_5 (by decide) (fun c5 => ?_) (fun c5 => ?_)
  · skip
    have c5 : ¬ (0 ≤ ((i : Nat) : Int) ∧ ((i : Nat) : Int) < ((cnt : Nat) : Int)) := of_decide_eq_false (kb_T c5)
    omega
  · skip
    have c5 : 0 ≤ ((i : Nat) : Int) ∧ ((i : Nat) : Int) < ((cnt : Nat) : Int) := of_decide_eq_true (kb_F c5)
    refine lv_aload_n hx hb dX2_writesWhereTakes_8 rfl (lv_at hl 0 rfl) ?_
    refine lv_iload_n hx hb dX2_writesWhereTakes_9 rfl (lv_at hl 2 rfl) ?_
    refine k_calli (wc := [(hp, .inr (2, [.ref ob, .ref og, .ref ap, .ref al, .ref aq, .int (iI ((cnt : Nat) : Int))]))]) (wr := [(ap, .inl (cI, 300, .inl (kA P))), (al, .inl (cI, 300, .inl (kA L))), (aq, .inl (cI, 300, .inl (kA S)))]) (wf := fun _ => [(hp, .inr (2, [.ref ob, .ref og, .ref ap, .ref al, .ref aq, .int (iI ((cnt : Nat) : Int))])), (ap, .inl (cI, 300, .inl (kA P))), (al, .inl (cI, 300, .inl (kA L))), (aq, .inl (cI, 300, .inl (kA S)))]) hK hP hD hS hA [0] [1, 2, 3] [3, 0, 1, 2] ⟨⟨rfl, rfl, by decide⟩, rfl, by decide, by decide⟩ (fun _ => ⟨rfl, rfl⟩) (by decide) (fun hPc hDc => va_runV (As := [.int (iI ((k : Nat) : Int))]) (rest := []) ⟨hx, hb, hml, hown, hts⟩ (c_Plan_has l D cI cZ (hp := hp) (ob := ob) (og := og) (ap := ap) (al := al) (aq := aq) (cnt := cnt) (z := ((k : Nat) : Int)) (hc := by omega) (hz := by omega) _) (cwV 1 hts (kgV wm256 wm257 wm258 wm41 wmcX2_has) rfl rfl rfl (by decide +kernel) ⟨Nat.le_of_ble_eq_true rfl, Nat.le_of_ble_eq_true rfl⟩) (k_preV hK hPc hDc (ci := 2) (q0 := 0) rfl rfl) rfl rfl hl.1 rfl (lv_room (Nat.le_of_ble_eq_true rfl)) dX2_writesWhereTakes_10 ⟨Nat.le_of_ble_eq_true rfl, Nat.le_of_ble_eq_true rfl⟩) (fun r10 u H locs hw hP hD hS => ?_)
    have hP : va_P D vwCl [(hp, .inr (2, [.ref ob, .ref og, .ref ap, .ref al, .ref aq, .int (iI ((cnt : Nat) : Int))])), (ap, .inl (cI, 300, .inl (kA P))), (al, .inl (cI, 300, .inl (kA L))), (aq, .inl (cI, 300, .inl (kA S)))] H := hP
    have hD : va_D A [(hp, .inr (2, [.ref ob, .ref og, .ref ap, .ref al, .ref aq, .int (iI ((cnt : Nat) : Int))])), (ap, .inl (cI, 300, .inl (kA P))), (al, .inl (cI, 300, .inl (kA L))), (aq, .inl (cI, 300, .inl (kA S)))] := hD
    refine W.widen (k := 0) (n := 0) (Nat.le_of_ble_eq_true rfl) (Nat.le_of_ble_eq_true rfl) ?_
    have hw : r10 = kb (decide (0 ≤ ((k : Nat) : Int) ∧ ((k : Nat) : Int) < ((cnt : Nat) : Int))) := hw
    subst hw
    refine lv_if_eq (tgt := 64) hx hb dX2_writesWhereTakes_13 (by decide) (fun c13 => ?_) (fun c13 => ?_)
    · skip
      have c13 : ¬ (0 ≤ ((k : Nat) : Int) ∧ ((k : Nat) : Int) < ((cnt : Nat) : Int)) := of_decide_eq_false (kb_T c13)
      omega
    · skip
      have c13 : 0 ≤ ((k : Nat) : Int) ∧ ((k : Nat) : Int) < ((cnt : Nat) : Int) := of_decide_eq_true (kb_F c13)
      refine lv_aload_n hx hb dX2_writesWhereTakes_16 rfl (lv_at hl 0 rfl) ?_
      refine va_get (D := D) (ci := 2) (v := .ref ap) (C := RX2) (T := TX2) (N := 6) hx hb hts hi_X2 hown hK hP 0 rfl rfl 2 (by decide) fl23 (fun _ h9 => h9) rfl dX2_writesWhereTakes_17 ?_
      refine lv_iload_n hx hb dX2_writesWhereTakes_20 rfl (lv_at hl 1 rfl) ?_
      refine k_iald hx hb hK hP 1 0 rfl rfl i (by omega) dX2_writesWhereTakes_21 ?_
      refine kn_i (y := iI (P i : Int)) (rfl) ?_
      refine lv_aload_n hx hb dX2_writesWhereTakes_22 rfl (lv_at hl 0 rfl) ?_
      refine va_get (D := D) (ci := 2) (v := .ref aq) (C := RX2) (T := TX2) (N := 6) hx hb hts hi_X2 hown hK hP 0 rfl rfl 4 (by decide) fl30 (fun _ h9 => h9) rfl dX2_writesWhereTakes_23 ?_
      refine lv_iload_n hx hb dX2_writesWhereTakes_26 rfl (lv_at hl 2 rfl) ?_
      refine k_iald hx hb hK hP 3 0 rfl rfl k (by omega) dX2_writesWhereTakes_27 ?_
      refine kn_i (y := iI (S k : Int)) (rfl) ?_
      refine lv_aload_n hx hb dX2_writesWhereTakes_28 rfl (lv_at hl 0 rfl) ?_
      refine va_get (D := D) (ci := 2) (v := .ref al) (C := RX2) (T := TX2) (N := 6) hx hb hts hi_X2 hown hK hP 0 rfl rfl 3 (by decide) fl27 (fun _ h9 => h9) rfl dX2_writesWhereTakes_29 ?_
      refine lv_iload_n hx hb dX2_writesWhereTakes_32 rfl (lv_at hl 2 rfl) ?_
      refine k_iald hx hb hK hP 2 0 rfl rfl k (by omega) dX2_writesWhereTakes_33 ?_
      refine kn_i (y := iI (L k : Int)) (rfl) ?_
      refine lv_iadd hx hb dX2_writesWhereTakes_34 ?_
      refine kn_i (iA (c := ((S k : Int) + (L k : Int) : Int)) (by omega)) ?_
      refine lv_icmp_ge (tgt := 64) hx hb dX2_writesWhereTakes_35 (by decide) (fun c35 => ?_) (fun c35 => ?_)
      · skip
        have c35 := iI_leT (a := ((S k : Int) + (L k : Int) : Int)) (b := (P i : Int)) c35 (by omega)
        refine lv_iconst (v := iI (0 : Int)) hx hb dX2_writesWhereTakes_64 rfl ?_
        exact k_zret () hx hb hr (by decide) hlocks hK hP hD hS [0, 1, 2, 3] (by decide) rfl rfl (by first | exact kb1 (by omega) | exact kb0 (by omega)) hAe hQ dX2_writesWhereTakes_65
      · skip
        have c35 := iI_leF (a := ((S k : Int) + (L k : Int) : Int)) (b := (P i : Int)) c35 (by omega)
        refine lv_aload_n hx hb dX2_writesWhereTakes_38 rfl (lv_at hl 0 rfl) ?_
        refine va_get (D := D) (ci := 2) (v := .ref aq) (C := RX2) (T := TX2) (N := 6) hx hb hts hi_X2 hown hK hP 0 rfl rfl 4 (by decide) fl30 (fun _ h9 => h9) rfl dX2_writesWhereTakes_39 ?_
        refine lv_iload_n hx hb dX2_writesWhereTakes_42 rfl (lv_at hl 2 rfl) ?_
        refine k_iald hx hb hK hP 3 0 rfl rfl k (by omega) dX2_writesWhereTakes_43 ?_
        refine kn_i (y := iI (S k : Int)) (rfl) ?_
        refine lv_aload_n hx hb dX2_writesWhereTakes_44 rfl (lv_at hl 0 rfl) ?_
        refine va_get (D := D) (ci := 2) (v := .ref ap) (C := RX2) (T := TX2) (N := 6) hx hb hts hi_X2 hown hK hP 0 rfl rfl 2 (by decide) fl23 (fun _ h9 => h9) rfl dX2_writesWhereTakes_45 ?_
        refine lv_iload_n hx hb dX2_writesWhereTakes_48 rfl (lv_at hl 1 rfl) ?_
        refine k_iald hx hb hK hP 1 0 rfl rfl i (by omega) dX2_writesWhereTakes_49 ?_
        refine kn_i (y := iI (P i : Int)) (rfl) ?_
        refine lv_aload_n hx hb dX2_writesWhereTakes_50 rfl (lv_at hl 0 rfl) ?_
        refine va_get (D := D) (ci := 2) (v := .ref al) (C := RX2) (T := TX2) (N := 6) hx hb hts hi_X2 hown hK hP 0 rfl rfl 3 (by decide) fl27 (fun _ h9 => h9) rfl dX2_writesWhereTakes_51 ?_
        refine lv_iload_n hx hb dX2_writesWhereTakes_54 rfl (lv_at hl 1 rfl) ?_
        refine k_iald hx hb hK hP 2 0 rfl rfl i (by omega) dX2_writesWhereTakes_55 ?_
        refine kn_i (y := iI (L i : Int)) (rfl) ?_
        refine lv_iadd hx hb dX2_writesWhereTakes_56 ?_
        refine kn_i (iA (c := ((P i : Int) + (L i : Int) : Int)) (by omega)) ?_
        refine lv_icmp_ge (tgt := 64) hx hb dX2_writesWhereTakes_57 (by decide) (fun c57 => ?_) (fun c57 => ?_)
        · skip
          have c57 := iI_leT (a := ((P i : Int) + (L i : Int) : Int)) (b := (S k : Int)) c57 (by omega)
          refine lv_iconst (v := iI (0 : Int)) hx hb dX2_writesWhereTakes_64 rfl ?_
          exact k_zret () hx hb hr (by decide) hlocks hK hP hD hS [0, 1, 2, 3] (by decide) rfl rfl (by first | exact kb1 (by omega) | exact kb0 (by omega)) hAe hQ dX2_writesWhereTakes_65
        · skip
          have c57 := iI_leF (a := ((P i : Int) + (L i : Int) : Int)) (b := (S k : Int)) c57 (by omega)
          refine lv_iconst (v := iI (1 : Int)) hx hb dX2_writesWhereTakes_60 rfl ?_
          refine lv_goto (tgt := 65) hx hb dX2_writesWhereTakes_61 (by decide) ?_
          exact k_zret () hx hb hr (by decide) hlocks hK hP hD hS [0, 1, 2, 3] (by decide) rfl rfl (by first | exact kb1 (by omega) | exact kb0 (by omega)) hAe hQ dX2_writesWhereTakes_65

abbrev rm_c_Plan_append : Room := { frames := 0, cells := 0, slots := 0, locals := 0 }
set_option maxHeartbeats 4000000 in
set_option maxRecDepth 100000 in
theorem c_Plan_append (l : Launch) (D : va_G) (cI cZ : ClassId) (hp : Nat) (ob : Nat) (og : Nat) (ap : Nat) (al : Nat) (aq : Nat) (cnt : Nat) (P : Nat → Int) (L : Nat → Int) (S : Nat → Int) (x1 : Int) (x2 : Int) (x3 : Int) (hc : cnt < 300) : MV l yX2_append wsX2_append rm_c_Plan_append D (kT cI cZ) [.ref hp, .int (iI (x1 : Int)), .int (iI (x2 : Int)), .int (iI (x3 : Int))] [(hp, .inr (2, [.ref ob, .ref og, .ref ap, .ref al, .ref aq, .int (iI ((cnt : Nat) : Int))])), (ap, .inl (cI, 300, .inl (kA P))), (al, .inl (cI, 300, .inl (kA L))), (aq, .inl (cI, 300, .inl (kA S)))] (fun (_ : Unit) => True) (fun (u : Unit) => match u with | _ => [(hp, .inr (2, [.ref ob, .ref og, .ref ap, .ref al, .ref aq, .int (iI ((cnt + 1 : Nat) : Int))])), (ap, .inl (cI, 300, .inl (kA (uZ P cnt x1)))), (al, .inl (cI, 300, .inl (kA (uZ L cnt x2)))), (aq, .inl (cI, 300, .inl (kA (uZ S cnt x3))))]) 0 0 := by
  intro sz
  refine k_of (cc := cX2_append) (maxL := 4) (ret := none) (by decide) rfl (Nat.le_of_ble_eq_true rfl) ?_
  intro p e s m args below meth c A Q hAe hQ hx hb hr hml hts hown hlocks hnm hP hK hD hS hA ls hl
  have hl : lv_has ls 4 [(0, .ref hp), (1, .int (iI (x1 : Int))), (2, .int (iI (x2 : Int))), (3, .int (iI (x3 : Int)))] := hl
  have hi_X2 : ∀ w ∈ u_ws RX2 TX2 6, w ∈ wsX2_append := fun w h => km (ikX2 w h)
  have fl33 := hts _ (km wm83)
  have fl23 := hts _ (km wm80)
  have fl27 := hts _ (km wm81)
  have fl30 := hts _ (km wm82)
  refine lv_aload_n hx hb dX2_append_0 rfl (lv_at hl 0 rfl) ?_
  refine va_get (D := D) (ci := 2) (v := .int (iI ((cnt : Nat) : Int))) (C := RX2) (T := TX2) (N := 6) hx hb hts hi_X2 hown hK hP 0 rfl rfl 5 (by decide) fl33 (fun _ h9 => h9) rfl dX2_append_1 ?_
  refine lv_sipush (v := iI (300 : Int)) hx hb dX2_append_4 (by decide) ?_
  refine lv_icmp_ge (tgt := 50) hx hb dX2_append_7 (by decide) (fun c7 => ?_) (fun c7 => ?_)
  · skip
    have c7 := iI_leT (a := (300 : Int)) (b := ((cnt : Nat) : Int)) c7 (by omega)
    omega
  · skip
    have c7 := iI_leF (a := (300 : Int)) (b := ((cnt : Nat) : Int)) c7 (by omega)
    refine lv_aload_n hx hb dX2_append_10 rfl (lv_at hl 0 rfl) ?_
    refine va_get (D := D) (ci := 2) (v := .ref ap) (C := RX2) (T := TX2) (N := 6) hx hb hts hi_X2 hown hK hP 0 rfl rfl 2 (by decide) fl23 (fun _ h9 => h9) rfl dX2_append_11 ?_
    refine lv_aload_n hx hb dX2_append_14 rfl (lv_at hl 0 rfl) ?_
    refine va_get (D := D) (ci := 2) (v := .int (iI ((cnt : Nat) : Int))) (C := RX2) (T := TX2) (N := 6) hx hb hts hi_X2 hown hK hP 0 rfl rfl 5 (by decide) fl33 (fun _ h9 => h9) rfl dX2_append_15 ?_
    refine lv_iload_n hx hb dX2_append_18 rfl (lv_at hl 1 rfl) ?_
    refine k_iast hx hb hK hP hD hS 1 0 rfl rfl cnt (by omega) dX2_append_19 (fun H locs hP hD hS => ?_)
    have hP : va_P D vwCl [(hp, .inr (2, [.ref ob, .ref og, .ref ap, .ref al, .ref aq, .int (iI ((cnt : Nat) : Int))])), (ap, .inl (cI, 300, .inl (upd (kA P) cnt (iI (x1 : Int))))), (al, .inl (cI, 300, .inl (kA L))), (aq, .inl (cI, 300, .inl (kA S)))] H := hP
    have hD : va_D A [(hp, .inr (2, [.ref ob, .ref og, .ref ap, .ref al, .ref aq, .int (iI ((cnt : Nat) : Int))])), (ap, .inl (cI, 300, .inl (upd (kA P) cnt (iI (x1 : Int))))), (al, .inl (cI, 300, .inl (kA L))), (aq, .inl (cI, 300, .inl (kA S)))] := hD
    rw [show (upd (kA P) cnt (iI (x1 : Int))) = (kA (uZ P cnt x1)) from kA_upd P cnt x1] at hP hD
    refine lv_aload_n hx hb dX2_append_20 rfl (lv_at hl 0 rfl) ?_
    refine va_get (D := D) (ci := 2) (v := .ref al) (C := RX2) (T := TX2) (N := 6) hx hb hts hi_X2 hown hK hP 0 rfl rfl 3 (by decide) fl27 (fun _ h9 => h9) rfl dX2_append_21 ?_
    refine lv_aload_n hx hb dX2_append_24 rfl (lv_at hl 0 rfl) ?_
    refine va_get (D := D) (ci := 2) (v := .int (iI ((cnt : Nat) : Int))) (C := RX2) (T := TX2) (N := 6) hx hb hts hi_X2 hown hK hP 0 rfl rfl 5 (by decide) fl33 (fun _ h9 => h9) rfl dX2_append_25 ?_
    refine lv_iload_n hx hb dX2_append_28 rfl (lv_at hl 2 rfl) ?_
    refine k_iast hx hb hK hP hD hS 2 0 rfl rfl cnt (by omega) dX2_append_29 (fun H locs hP hD hS => ?_)
    have hP : va_P D vwCl [(hp, .inr (2, [.ref ob, .ref og, .ref ap, .ref al, .ref aq, .int (iI ((cnt : Nat) : Int))])), (ap, .inl (cI, 300, .inl (kA (uZ P cnt x1)))), (al, .inl (cI, 300, .inl (upd (kA L) cnt (iI (x2 : Int))))), (aq, .inl (cI, 300, .inl (kA S)))] H := hP
    have hD : va_D A [(hp, .inr (2, [.ref ob, .ref og, .ref ap, .ref al, .ref aq, .int (iI ((cnt : Nat) : Int))])), (ap, .inl (cI, 300, .inl (kA (uZ P cnt x1)))), (al, .inl (cI, 300, .inl (upd (kA L) cnt (iI (x2 : Int))))), (aq, .inl (cI, 300, .inl (kA S)))] := hD
    rw [show (upd (kA L) cnt (iI (x2 : Int))) = (kA (uZ L cnt x2)) from kA_upd L cnt x2] at hP hD
    refine lv_aload_n hx hb dX2_append_30 rfl (lv_at hl 0 rfl) ?_
    refine va_get (D := D) (ci := 2) (v := .ref aq) (C := RX2) (T := TX2) (N := 6) hx hb hts hi_X2 hown hK hP 0 rfl rfl 4 (by decide) fl30 (fun _ h9 => h9) rfl dX2_append_31 ?_
    refine lv_aload_n hx hb dX2_append_34 rfl (lv_at hl 0 rfl) ?_
    refine va_get (D := D) (ci := 2) (v := .int (iI ((cnt : Nat) : Int))) (C := RX2) (T := TX2) (N := 6) hx hb hts hi_X2 hown hK hP 0 rfl rfl 5 (by decide) fl33 (fun _ h9 => h9) rfl dX2_append_35 ?_
    refine lv_iload_n hx hb dX2_append_38 rfl (lv_at hl 3 rfl) ?_
    refine k_iast hx hb hK hP hD hS 3 0 rfl rfl cnt (by omega) dX2_append_39 (fun H locs hP hD hS => ?_)
    have hP : va_P D vwCl [(hp, .inr (2, [.ref ob, .ref og, .ref ap, .ref al, .ref aq, .int (iI ((cnt : Nat) : Int))])), (ap, .inl (cI, 300, .inl (kA (uZ P cnt x1)))), (al, .inl (cI, 300, .inl (kA (uZ L cnt x2)))), (aq, .inl (cI, 300, .inl (upd (kA S) cnt (iI (x3 : Int)))))] H := hP
    have hD : va_D A [(hp, .inr (2, [.ref ob, .ref og, .ref ap, .ref al, .ref aq, .int (iI ((cnt : Nat) : Int))])), (ap, .inl (cI, 300, .inl (kA (uZ P cnt x1)))), (al, .inl (cI, 300, .inl (kA (uZ L cnt x2)))), (aq, .inl (cI, 300, .inl (upd (kA S) cnt (iI (x3 : Int)))))] := hD
    rw [show (upd (kA S) cnt (iI (x3 : Int))) = (kA (uZ S cnt x3)) from kA_upd S cnt x3] at hP hD
    refine lv_aload_n hx hb dX2_append_40 rfl (lv_at hl 0 rfl) ?_
    refine lv_dup hx hb dX2_append_41 rfl ?_
    refine va_get (D := D) (ci := 2) (v := .int (iI ((cnt : Nat) : Int))) (C := RX2) (T := TX2) (N := 6) hx hb hts hi_X2 hown hK hP 0 rfl rfl 5 (by decide) fl33 (fun _ h9 => h9) rfl dX2_append_42 ?_
    refine lv_iconst (v := iI (1 : Int)) hx hb dX2_append_45 rfl ?_
    refine lv_iadd hx hb dX2_append_46 ?_
    refine kn_i (iA (c := ((cnt + 1 : Nat) : Int)) (by omega)) ?_
    refine va_put (D := D) (ci := 2) (v := .int (iI ((cnt + 1 : Nat) : Int))) (ty := .int) (C := RX2) (T := TX2) (N := 6) hx hb hts hi_X2 tyX2 tyX2_ok nmX2 hown hK hP hD hS 0 rfl rfl 5 (by decide) fl33 (fun _ h9 => h9) rfl (by decide +kernel) rfl rfl (Nat.le_of_ble_eq_true rfl) dX2_append_47 (fun H locs hP hD hS => ?_)
    have hP : va_P D vwCl [(hp, .inr (2, [.ref ob, .ref og, .ref ap, .ref al, .ref aq, .int (iI ((cnt + 1 : Nat) : Int))])), (ap, .inl (cI, 300, .inl (kA (uZ P cnt x1)))), (al, .inl (cI, 300, .inl (kA (uZ L cnt x2)))), (aq, .inl (cI, 300, .inl (kA (uZ S cnt x3))))] H := hP
    have hD : va_D A [(hp, .inr (2, [.ref ob, .ref og, .ref ap, .ref al, .ref aq, .int (iI ((cnt + 1 : Nat) : Int))])), (ap, .inl (cI, 300, .inl (kA (uZ P cnt x1)))), (al, .inl (cI, 300, .inl (kA (uZ L cnt x2)))), (aq, .inl (cI, 300, .inl (kA (uZ S cnt x3))))] := hD
    exact k_vret () hx hb hr hlocks hK hP hD hS [0, 1, 2, 3] (by decide) rfl rfl (trivial) hAe hQ dX2_append_50

abbrev rm_c_Plan_addByte : Room := { frames := 3, cells := 0, slots := 0, locals := 63 }
set_option maxHeartbeats 4000000 in
set_option maxRecDepth 100000 in
theorem c_Plan_addByte (l : Launch) (D : va_G) (cI cZ : ClassId) (hp : Nat) (ob : Nat) (og : Nat) (ap : Nat) (al : Nat) (aq : Nat) (cnt : Nat) (P : Nat → Int) (L : Nat → Int) (S : Nat → Int) (p0 : Nat) (hc : cnt < 300) (hLr : ∀ i, i < cnt → -1 ≤ L i ∧ L i ≤ 300) (hSr : ∀ i, i < cnt → -1 ≤ S i ∧ S i ≤ 300) : MV l yX2_addByte wsX2_addByte rm_c_Plan_addByte D (kT cI cZ) [.ref hp, .int (iI ((p0 : Nat) : Int))] [(hp, .inr (2, [.ref ob, .ref og, .ref ap, .ref al, .ref aq, .int (iI ((cnt : Nat) : Int))])), (ap, .inl (cI, 300, .inl (kA P))), (al, .inl (cI, 300, .inl (kA L))), (aq, .inl (cI, 300, .inl (kA S)))] (fun (u : (Nat → Int) × (Nat → Int) × (Nat → Int) × Nat) => u = adB P L S cnt p0) (fun (u : (Nat → Int) × (Nat → Int) × (Nat → Int) × Nat) => match u with | ⟨P9, L9, S9, c9⟩ => [(hp, .inr (2, [.ref ob, .ref og, .ref ap, .ref al, .ref aq, .int (iI ((c9 : Nat) : Int))])), (ap, .inl (cI, 300, .inl (kA P9))), (al, .inl (cI, 300, .inl (kA L9))), (aq, .inl (cI, 300, .inl (kA S9)))]) 0 0 := by
  intro sz
  refine k_of (cc := cX2_addByte) (maxL := 3) (ret := none) (by decide) rfl (Nat.le_of_ble_eq_true rfl) ?_
  intro p e s m args below meth c A Q hAe hQ hx hb hr hml hts hown hlocks hnm hP hK hD hS hA ls hl
  have hl : lv_has ls 3 [(0, .ref hp), (1, .int (iI ((p0 : Nat) : Int)))] := hl
  have hi_X2 : ∀ w ∈ u_ws RX2 TX2 6, w ∈ wsX2_addByte := fun w h => km (ikX2 w h)
  have fl33 := hts _ (km wm83)
  have fl27 := hts _ (km wm81)
  have hrl := rZ_rng (P := L) (n := cnt) (z := ((cnt : Nat) : Int) - 1) (b := 300) (by omega) hLr
  refine lv_aload_n hx hb dX2_addByte_0 rfl (lv_at hl 0 rfl) ?_
  refine va_get (D := D) (ci := 2) (v := .int (iI ((cnt : Nat) : Int))) (C := RX2) (T := TX2) (N := 6) hx hb hts hi_X2 hown hK hP 0 rfl rfl 5 (by decide) fl33 (fun _ h9 => h9) rfl dX2_addByte_1 ?_
  refine lv_iconst (v := iI (1 : Int)) hx hb dX2_addByte_4 rfl ?_
  refine lv_isub hx hb dX2_addByte_5 ?_
  refine kn_i (iB (c := (((cnt : Nat) : Int) - 1 : Int)) (by omega)) ?_
  refine lv_istore_n (lv' := [(2, .int (iI (((cnt : Nat) : Int) - 1 : Int))), (0, .ref hp), (1, .int (iI ((p0 : Nat) : Int)))]) hx hb dX2_addByte_6 rfl hl (by decide) rfl (fun ls hl => ?_)
  refine lv_aload_n hx hb dX2_addByte_7 rfl (lv_at hl 1 rfl) ?_
  refine lv_iload_n hx hb dX2_addByte_8 rfl (lv_at hl 0 rfl) ?_
  refine k_calli (wc := [(hp, .inr (2, [.ref ob, .ref og, .ref ap, .ref al, .ref aq, .int (iI ((cnt : Nat) : Int))]))]) (wr := [(ap, .inl (cI, 300, .inl (kA P))), (al, .inl (cI, 300, .inl (kA L))), (aq, .inl (cI, 300, .inl (kA S)))]) (wf := fun _ => [(hp, .inr (2, [.ref ob, .ref og, .ref ap, .ref al, .ref aq, .int (iI ((cnt : Nat) : Int))])), (ap, .inl (cI, 300, .inl (kA P))), (al, .inl (cI, 300, .inl (kA L))), (aq, .inl (cI, 300, .inl (kA S)))]) hK hP hD hS hA [0] [1, 2, 3] [3, 0, 1, 2] ⟨⟨rfl, rfl, by decide⟩, rfl, by decide, by decide⟩ (fun _ => ⟨rfl, rfl⟩) (by decide) (fun hPc hDc => va_runV (As := [.int (iI (((cnt : Nat) : Int) - 1 : Int))]) (rest := []) ⟨hx, hb, hml, hown, hts⟩ (c_Plan_has l D cI cZ (hp := hp) (ob := ob) (og := og) (ap := ap) (al := al) (aq := aq) (cnt := cnt) (z := ((cnt : Nat) : Int) - 1) (hc := by omega) (hz := by omega) _) (cwV 1 hts (kgV wm256 wm257 wm258 wm41 wmcX2_has) rfl rfl rfl (by decide +kernel) ⟨Nat.le_of_ble_eq_true rfl, Nat.le_of_ble_eq_true rfl⟩) (k_preV hK hPc hDc (ci := 2) (q0 := 0) rfl rfl) rfl rfl hl.1 rfl (lv_room (Nat.le_of_ble_eq_true rfl)) dX2_addByte_9 ⟨Nat.le_of_ble_eq_true rfl, Nat.le_of_ble_eq_true rfl⟩) (fun r9 u H locs hw hP hD hS => ?_)
  have hP : va_P D vwCl [(hp, .inr (2, [.ref ob, .ref og, .ref ap, .ref al, .ref aq, .int (iI ((cnt : Nat) : Int))])), (ap, .inl (cI, 300, .inl (kA P))), (al, .inl (cI, 300, .inl (kA L))), (aq, .inl (cI, 300, .inl (kA S)))] H := hP
  have hD : va_D A [(hp, .inr (2, [.ref ob, .ref og, .ref ap, .ref al, .ref aq, .int (iI ((cnt : Nat) : Int))])), (ap, .inl (cI, 300, .inl (kA P))), (al, .inl (cI, 300, .inl (kA L))), (aq, .inl (cI, 300, .inl (kA S)))] := hD
  refine W.widen (k := 0) (n := 0) (Nat.le_of_ble_eq_true rfl) (Nat.le_of_ble_eq_true rfl) ?_
  have hw : r9 = kb (decide (0 ≤ (((cnt : Nat) : Int) - 1) ∧ (((cnt : Nat) : Int) - 1) < ((cnt : Nat) : Int))) := hw
  subst hw
  refine lv_if_eq (tgt := 46) hx hb dX2_addByte_12 (by decide) (fun c12 => ?_) (fun c12 => ?_)
  · skip
    have c12 : ¬ (0 ≤ (((cnt : Nat) : Int) - 1) ∧ (((cnt : Nat) : Int) - 1) < ((cnt : Nat) : Int)) := of_decide_eq_false (kb_T c12)
    refine lv_aload_n hx hb dX2_addByte_46 rfl (lv_at hl 1 rfl) ?_
    refine lv_iload_n hx hb dX2_addByte_47 rfl (lv_at hl 2 rfl) ?_
    refine lv_iconst (v := iI (1 : Int)) hx hb dX2_addByte_48 rfl ?_
    refine lv_iconst (v := iI (-1 : Int)) hx hb dX2_addByte_49 rfl ?_
    refine k_callv (wc := [(hp, .inr (2, [.ref ob, .ref og, .ref ap, .ref al, .ref aq, .int (iI ((cnt : Nat) : Int))])), (ap, .inl (cI, 300, .inl (kA P))), (al, .inl (cI, 300, .inl (kA L))), (aq, .inl (cI, 300, .inl (kA S)))]) (wr := []) (wf := fun _ => [(hp, .inr (2, [.ref ob, .ref og, .ref ap, .ref al, .ref aq, .int (iI ((cnt + 1 : Nat) : Int))])), (ap, .inl (cI, 300, .inl (kA (uZ P cnt ((p0 : Nat) : Int))))), (al, .inl (cI, 300, .inl (kA (uZ L cnt 1)))), (aq, .inl (cI, 300, .inl (kA (uZ S cnt (-1)))))]) hK hP hD hS hA [0, 1, 2, 3] [] [0, 1, 2, 3] ⟨⟨rfl, rfl, by decide⟩, rfl, by decide, by decide⟩ (fun _ => ⟨rfl, rfl⟩) (by decide) (fun hPc hDc => va_runV (As := [.int (iI ((p0 : Nat) : Int)), .int (iI (1 : Int)), .int (iI (-1 : Int))]) (rest := []) ⟨hx, hb, hml, hown, hts⟩ (c_Plan_append l D cI cZ (hp := hp) (ob := ob) (og := og) (ap := ap) (al := al) (aq := aq) (cnt := cnt) (P := P) (L := L) (S := S) (x1 := ((p0 : Nat) : Int)) (x2 := 1) (x3 := -1) (hc := by omega) _) (cwV 3 hts (kgV wm248 wm250 wm2 wm41 wmcX2_append) rfl rfl rfl (by decide +kernel) ⟨Nat.le_of_ble_eq_true rfl, Nat.le_of_ble_eq_true rfl⟩) (k_preV hK hPc hDc (ci := 2) (q0 := 0) rfl rfl) rfl rfl hl.1 rfl (lv_room (Nat.le_of_ble_eq_true rfl)) dX2_addByte_50 ⟨Nat.le_of_ble_eq_true rfl, Nat.le_of_ble_eq_true rfl⟩) (fun u H locs hw hP hD hS => ?_)
    have hP : va_P D vwCl [(hp, .inr (2, [.ref ob, .ref og, .ref ap, .ref al, .ref aq, .int (iI ((cnt + 1 : Nat) : Int))])), (ap, .inl (cI, 300, .inl (kA (uZ P cnt ((p0 : Nat) : Int))))), (al, .inl (cI, 300, .inl (kA (uZ L cnt 1)))), (aq, .inl (cI, 300, .inl (kA (uZ S cnt (-1)))))] H := hP
    have hD : va_D A [(hp, .inr (2, [.ref ob, .ref og, .ref ap, .ref al, .ref aq, .int (iI ((cnt + 1 : Nat) : Int))])), (ap, .inl (cI, 300, .inl (kA (uZ P cnt ((p0 : Nat) : Int))))), (al, .inl (cI, 300, .inl (kA (uZ L cnt 1)))), (aq, .inl (cI, 300, .inl (kA (uZ S cnt (-1)))))] := hD
    refine W.widen (k := 0) (n := 0) (Nat.le_of_ble_eq_true rfl) (Nat.le_of_ble_eq_true rfl) ?_
    exact k_vret (uZ P cnt ((p0 : Nat) : Int), uZ L cnt 1, uZ S cnt (-1), cnt + 1) hx hb hr hlocks hK hP hD hS [0, 1, 2, 3] (by decide) rfl rfl (by unfold adB; rw [if_neg (fun h => by omega)]) hAe hQ dX2_addByte_53
  · skip
    have c12 : 0 ≤ (((cnt : Nat) : Int) - 1) ∧ (((cnt : Nat) : Int) - 1) < ((cnt : Nat) : Int) := of_decide_eq_true (kb_F c12)
    have e1 := rZ_last (P := S) (show 0 < cnt by omega)
    have e2 := rZ_last (P := L) (show 0 < cnt by omega)
    have e3 := hLr (cnt - 1) (by omega)
    refine lv_aload_n hx hb dX2_addByte_15 rfl (lv_at hl 1 rfl) ?_
    refine lv_iload_n hx hb dX2_addByte_16 rfl (lv_at hl 0 rfl) ?_
    refine k_calli (wc := [(hp, .inr (2, [.ref ob, .ref og, .ref ap, .ref al, .ref aq, .int (iI ((cnt : Nat) : Int))])), (aq, .inl (cI, 300, .inl (kA S)))]) (wr := [(ap, .inl (cI, 300, .inl (kA P))), (al, .inl (cI, 300, .inl (kA L)))]) (wf := fun _ => [(hp, .inr (2, [.ref ob, .ref og, .ref ap, .ref al, .ref aq, .int (iI ((cnt : Nat) : Int))])), (ap, .inl (cI, 300, .inl (kA P))), (al, .inl (cI, 300, .inl (kA L))), (aq, .inl (cI, 300, .inl (kA S)))]) hK hP hD hS hA [0, 3] [1, 2] [2, 0, 1, 3] ⟨⟨rfl, rfl, by decide⟩, rfl, by decide, by decide⟩ (fun _ => ⟨rfl, rfl⟩) (by decide) (fun hPc hDc => va_runV (As := [.int (iI (((cnt : Nat) : Int) - 1 : Int))]) (rest := []) ⟨hx, hb, hml, hown, hts⟩ (c_Plan_isCopy l D cI cZ (hp := hp) (ob := ob) (og := og) (ap := ap) (al := al) (aq := aq) (cnt := cnt) (F := S) (z := ((cnt : Nat) : Int) - 1) (hc := by omega) (hz := by omega) (hF := hSr) _) (cwV 1 hts (kgV wm260 wm261 wm262 wm41 wmcX2_isCopy) rfl rfl rfl (by decide +kernel) ⟨Nat.le_of_ble_eq_true rfl, Nat.le_of_ble_eq_true rfl⟩) (k_preV hK hPc hDc (ci := 2) (q0 := 0) rfl rfl) rfl rfl hl.1 rfl (lv_room (Nat.le_of_ble_eq_true rfl)) dX2_addByte_17 ⟨Nat.le_of_ble_eq_true rfl, Nat.le_of_ble_eq_true rfl⟩) (fun r17 u H locs hw hP hD hS => ?_)
    have hP : va_P D vwCl [(hp, .inr (2, [.ref ob, .ref og, .ref ap, .ref al, .ref aq, .int (iI ((cnt : Nat) : Int))])), (ap, .inl (cI, 300, .inl (kA P))), (al, .inl (cI, 300, .inl (kA L))), (aq, .inl (cI, 300, .inl (kA S)))] H := hP
    have hD : va_D A [(hp, .inr (2, [.ref ob, .ref og, .ref ap, .ref al, .ref aq, .int (iI ((cnt : Nat) : Int))])), (ap, .inl (cI, 300, .inl (kA P))), (al, .inl (cI, 300, .inl (kA L))), (aq, .inl (cI, 300, .inl (kA S)))] := hD
    refine W.widen (k := 0) (n := 0) (Nat.le_of_ble_eq_true rfl) (Nat.le_of_ble_eq_true rfl) ?_
    have hw : r17 = kb (decide (¬ rZ S cnt (((cnt : Nat) : Int) - 1) = -1)) := hw
    subst hw
    refine lv_if_ne (tgt := 46) hx hb dX2_addByte_20 (by decide) (fun c20 => ?_) (fun c20 => ?_)
    · skip
      have c20 : ¬ rZ S cnt (((cnt : Nat) : Int) - 1) = -1 := of_decide_eq_true (kb_F c20)
      refine lv_aload_n hx hb dX2_addByte_46 rfl (lv_at hl 1 rfl) ?_
      refine lv_iload_n hx hb dX2_addByte_47 rfl (lv_at hl 2 rfl) ?_
      refine lv_iconst (v := iI (1 : Int)) hx hb dX2_addByte_48 rfl ?_
      refine lv_iconst (v := iI (-1 : Int)) hx hb dX2_addByte_49 rfl ?_
      refine k_callv (wc := [(hp, .inr (2, [.ref ob, .ref og, .ref ap, .ref al, .ref aq, .int (iI ((cnt : Nat) : Int))])), (ap, .inl (cI, 300, .inl (kA P))), (al, .inl (cI, 300, .inl (kA L))), (aq, .inl (cI, 300, .inl (kA S)))]) (wr := []) (wf := fun _ => [(hp, .inr (2, [.ref ob, .ref og, .ref ap, .ref al, .ref aq, .int (iI ((cnt + 1 : Nat) : Int))])), (ap, .inl (cI, 300, .inl (kA (uZ P cnt ((p0 : Nat) : Int))))), (al, .inl (cI, 300, .inl (kA (uZ L cnt 1)))), (aq, .inl (cI, 300, .inl (kA (uZ S cnt (-1)))))]) hK hP hD hS hA [0, 1, 2, 3] [] [0, 1, 2, 3] ⟨⟨rfl, rfl, by decide⟩, rfl, by decide, by decide⟩ (fun _ => ⟨rfl, rfl⟩) (by decide) (fun hPc hDc => va_runV (As := [.int (iI ((p0 : Nat) : Int)), .int (iI (1 : Int)), .int (iI (-1 : Int))]) (rest := []) ⟨hx, hb, hml, hown, hts⟩ (c_Plan_append l D cI cZ (hp := hp) (ob := ob) (og := og) (ap := ap) (al := al) (aq := aq) (cnt := cnt) (P := P) (L := L) (S := S) (x1 := ((p0 : Nat) : Int)) (x2 := 1) (x3 := -1) (hc := by omega) _) (cwV 3 hts (kgV wm248 wm250 wm2 wm41 wmcX2_append) rfl rfl rfl (by decide +kernel) ⟨Nat.le_of_ble_eq_true rfl, Nat.le_of_ble_eq_true rfl⟩) (k_preV hK hPc hDc (ci := 2) (q0 := 0) rfl rfl) rfl rfl hl.1 rfl (lv_room (Nat.le_of_ble_eq_true rfl)) dX2_addByte_50 ⟨Nat.le_of_ble_eq_true rfl, Nat.le_of_ble_eq_true rfl⟩) (fun u H locs hw hP hD hS => ?_)
      have hP : va_P D vwCl [(hp, .inr (2, [.ref ob, .ref og, .ref ap, .ref al, .ref aq, .int (iI ((cnt + 1 : Nat) : Int))])), (ap, .inl (cI, 300, .inl (kA (uZ P cnt ((p0 : Nat) : Int))))), (al, .inl (cI, 300, .inl (kA (uZ L cnt 1)))), (aq, .inl (cI, 300, .inl (kA (uZ S cnt (-1)))))] H := hP
      have hD : va_D A [(hp, .inr (2, [.ref ob, .ref og, .ref ap, .ref al, .ref aq, .int (iI ((cnt + 1 : Nat) : Int))])), (ap, .inl (cI, 300, .inl (kA (uZ P cnt ((p0 : Nat) : Int))))), (al, .inl (cI, 300, .inl (kA (uZ L cnt 1)))), (aq, .inl (cI, 300, .inl (kA (uZ S cnt (-1)))))] := hD
      refine W.widen (k := 0) (n := 0) (Nat.le_of_ble_eq_true rfl) (Nat.le_of_ble_eq_true rfl) ?_
      exact k_vret (uZ P cnt ((p0 : Nat) : Int), uZ L cnt 1, uZ S cnt (-1), cnt + 1) hx hb hr hlocks hK hP hD hS [0, 1, 2, 3] (by decide) rfl rfl (by unfold adB; rw [if_neg (fun h => by omega)]) hAe hQ dX2_addByte_53
    · skip
      have c20 : ¬ (¬ rZ S cnt (((cnt : Nat) : Int) - 1) = -1) := of_decide_eq_false (kb_T c20)
      refine lv_aload_n hx hb dX2_addByte_23 rfl (lv_at hl 1 rfl) ?_
      refine lv_iload_n hx hb dX2_addByte_24 rfl (lv_at hl 0 rfl) ?_
      refine k_calli (wc := [(hp, .inr (2, [.ref ob, .ref og, .ref ap, .ref al, .ref aq, .int (iI ((cnt : Nat) : Int))])), (al, .inl (cI, 300, .inl (kA L)))]) (wr := [(ap, .inl (cI, 300, .inl (kA P))), (aq, .inl (cI, 300, .inl (kA S)))]) (wf := fun _ => [(hp, .inr (2, [.ref ob, .ref og, .ref ap, .ref al, .ref aq, .int (iI ((cnt : Nat) : Int))])), (ap, .inl (cI, 300, .inl (kA P))), (al, .inl (cI, 300, .inl (kA L))), (aq, .inl (cI, 300, .inl (kA S)))]) hK hP hD hS hA [0, 2] [1, 3] [2, 0, 3, 1] ⟨⟨rfl, rfl, by decide⟩, rfl, by decide, by decide⟩ (fun _ => ⟨rfl, rfl⟩) (by decide) (fun hPc hDc => va_runV (As := [.int (iI (((cnt : Nat) : Int) - 1 : Int))]) (rest := []) ⟨hx, hb, hml, hown, hts⟩ (c_Plan_length l D cI cZ (hp := hp) (ob := ob) (og := og) (ap := ap) (al := al) (aq := aq) (cnt := cnt) (F := L) (z := ((cnt : Nat) : Int) - 1) (hc := by omega) (hz := by omega) _) (cwV 1 hts (kgV wm268 wm269 wm270 wm41 wmcX2_length) rfl rfl rfl (by decide +kernel) ⟨Nat.le_of_ble_eq_true rfl, Nat.le_of_ble_eq_true rfl⟩) (k_preV hK hPc hDc (ci := 2) (q0 := 0) rfl rfl) rfl rfl hl.1 rfl (lv_room (Nat.le_of_ble_eq_true rfl)) dX2_addByte_25 ⟨Nat.le_of_ble_eq_true rfl, Nat.le_of_ble_eq_true rfl⟩) (fun r25 u H locs hw hP hD hS => ?_)
      have hP : va_P D vwCl [(hp, .inr (2, [.ref ob, .ref og, .ref ap, .ref al, .ref aq, .int (iI ((cnt : Nat) : Int))])), (ap, .inl (cI, 300, .inl (kA P))), (al, .inl (cI, 300, .inl (kA L))), (aq, .inl (cI, 300, .inl (kA S)))] H := hP
      have hD : va_D A [(hp, .inr (2, [.ref ob, .ref og, .ref ap, .ref al, .ref aq, .int (iI ((cnt : Nat) : Int))])), (ap, .inl (cI, 300, .inl (kA P))), (al, .inl (cI, 300, .inl (kA L))), (aq, .inl (cI, 300, .inl (kA S)))] := hD
      refine W.widen (k := 0) (n := 0) (Nat.le_of_ble_eq_true rfl) (Nat.le_of_ble_eq_true rfl) ?_
      have hw : r25 = iI (rZ L cnt (((cnt : Nat) : Int) - 1) : Int) := hw
      subst hw
      refine lv_bipush (v := iI (40 : Int)) hx hb dX2_addByte_28 (by decide) ?_
      refine lv_icmp_ge (tgt := 46) hx hb dX2_addByte_30 (by decide) (fun c30 => ?_) (fun c30 => ?_)
      · skip
        have c30 := iI_leT (a := (40 : Int)) (b := (rZ L cnt (((cnt : Nat) : Int) - 1) : Int)) c30 (by omega)
        refine lv_aload_n hx hb dX2_addByte_46 rfl (lv_at hl 1 rfl) ?_
        refine lv_iload_n hx hb dX2_addByte_47 rfl (lv_at hl 2 rfl) ?_
        refine lv_iconst (v := iI (1 : Int)) hx hb dX2_addByte_48 rfl ?_
        refine lv_iconst (v := iI (-1 : Int)) hx hb dX2_addByte_49 rfl ?_
        refine k_callv (wc := [(hp, .inr (2, [.ref ob, .ref og, .ref ap, .ref al, .ref aq, .int (iI ((cnt : Nat) : Int))])), (ap, .inl (cI, 300, .inl (kA P))), (al, .inl (cI, 300, .inl (kA L))), (aq, .inl (cI, 300, .inl (kA S)))]) (wr := []) (wf := fun _ => [(hp, .inr (2, [.ref ob, .ref og, .ref ap, .ref al, .ref aq, .int (iI ((cnt + 1 : Nat) : Int))])), (ap, .inl (cI, 300, .inl (kA (uZ P cnt ((p0 : Nat) : Int))))), (al, .inl (cI, 300, .inl (kA (uZ L cnt 1)))), (aq, .inl (cI, 300, .inl (kA (uZ S cnt (-1)))))]) hK hP hD hS hA [0, 1, 2, 3] [] [0, 1, 2, 3] ⟨⟨rfl, rfl, by decide⟩, rfl, by decide, by decide⟩ (fun _ => ⟨rfl, rfl⟩) (by decide) (fun hPc hDc => va_runV (As := [.int (iI ((p0 : Nat) : Int)), .int (iI (1 : Int)), .int (iI (-1 : Int))]) (rest := []) ⟨hx, hb, hml, hown, hts⟩ (c_Plan_append l D cI cZ (hp := hp) (ob := ob) (og := og) (ap := ap) (al := al) (aq := aq) (cnt := cnt) (P := P) (L := L) (S := S) (x1 := ((p0 : Nat) : Int)) (x2 := 1) (x3 := -1) (hc := by omega) _) (cwV 3 hts (kgV wm248 wm250 wm2 wm41 wmcX2_append) rfl rfl rfl (by decide +kernel) ⟨Nat.le_of_ble_eq_true rfl, Nat.le_of_ble_eq_true rfl⟩) (k_preV hK hPc hDc (ci := 2) (q0 := 0) rfl rfl) rfl rfl hl.1 rfl (lv_room (Nat.le_of_ble_eq_true rfl)) dX2_addByte_50 ⟨Nat.le_of_ble_eq_true rfl, Nat.le_of_ble_eq_true rfl⟩) (fun u H locs hw hP hD hS => ?_)
        have hP : va_P D vwCl [(hp, .inr (2, [.ref ob, .ref og, .ref ap, .ref al, .ref aq, .int (iI ((cnt + 1 : Nat) : Int))])), (ap, .inl (cI, 300, .inl (kA (uZ P cnt ((p0 : Nat) : Int))))), (al, .inl (cI, 300, .inl (kA (uZ L cnt 1)))), (aq, .inl (cI, 300, .inl (kA (uZ S cnt (-1)))))] H := hP
        have hD : va_D A [(hp, .inr (2, [.ref ob, .ref og, .ref ap, .ref al, .ref aq, .int (iI ((cnt + 1 : Nat) : Int))])), (ap, .inl (cI, 300, .inl (kA (uZ P cnt ((p0 : Nat) : Int))))), (al, .inl (cI, 300, .inl (kA (uZ L cnt 1)))), (aq, .inl (cI, 300, .inl (kA (uZ S cnt (-1)))))] := hD
        refine W.widen (k := 0) (n := 0) (Nat.le_of_ble_eq_true rfl) (Nat.le_of_ble_eq_true rfl) ?_
        exact k_vret (uZ P cnt ((p0 : Nat) : Int), uZ L cnt 1, uZ S cnt (-1), cnt + 1) hx hb hr hlocks hK hP hD hS [0, 1, 2, 3] (by decide) rfl rfl (by unfold adB; rw [if_neg (fun h => by omega)]) hAe hQ dX2_addByte_53
      · skip
        have c30 := iI_leF (a := (40 : Int)) (b := (rZ L cnt (((cnt : Nat) : Int) - 1) : Int)) c30 (by omega)
        refine lv_aload_n hx hb dX2_addByte_33 rfl (lv_at hl 1 rfl) ?_
        refine va_get (D := D) (ci := 2) (v := .ref al) (C := RX2) (T := TX2) (N := 6) hx hb hts hi_X2 hown hK hP 0 rfl rfl 3 (by decide) fl27 (fun _ h9 => h9) rfl dX2_addByte_34 ?_
        refine lv_iload_n hx hb dX2_addByte_37 rfl (lv_at hl 0 rfl) ?_
        refine lv_dup2_11 hx hb dX2_addByte_38 rfl rfl ?_
        refine k_iald hx hb hK hP 2 0 rfl rfl (cnt - 1) (by omega) dX2_addByte_39 ?_
        refine kn_i (y := iI (L (cnt - 1) : Int)) (rfl) ?_
        refine lv_iconst (v := iI (1 : Int)) hx hb dX2_addByte_40 rfl ?_
        refine lv_iadd hx hb dX2_addByte_41 ?_
        refine kn_i (iA (c := (L (cnt - 1) + 1 : Int)) (by omega)) ?_
        refine k_iast hx hb hK hP hD hS 2 0 rfl rfl (cnt - 1) (by omega) dX2_addByte_42 (fun H locs hP hD hS => ?_)
        have hP : va_P D vwCl [(hp, .inr (2, [.ref ob, .ref og, .ref ap, .ref al, .ref aq, .int (iI ((cnt : Nat) : Int))])), (ap, .inl (cI, 300, .inl (kA P))), (al, .inl (cI, 300, .inl (upd (kA L) (cnt - 1) (iI (L (cnt - 1) + 1 : Int))))), (aq, .inl (cI, 300, .inl (kA S)))] H := hP
        have hD : va_D A [(hp, .inr (2, [.ref ob, .ref og, .ref ap, .ref al, .ref aq, .int (iI ((cnt : Nat) : Int))])), (ap, .inl (cI, 300, .inl (kA P))), (al, .inl (cI, 300, .inl (upd (kA L) (cnt - 1) (iI (L (cnt - 1) + 1 : Int))))), (aq, .inl (cI, 300, .inl (kA S)))] := hD
        rw [show (upd (kA L) (cnt - 1) (iI (L (cnt - 1) + 1 : Int))) = (kA (uZ L (cnt - 1) (L (cnt - 1) + 1))) from kA_upd L (cnt - 1) _] at hP hD
        refine lv_goto (tgt := 53) hx hb dX2_addByte_43 (by decide) ?_
        exact k_vret (P, uZ L (cnt - 1) (L (cnt - 1) + 1), S, cnt) hx hb hr hlocks hK hP hD hS [0, 1, 2, 3] (by decide) rfl rfl (by unfold adB; rw [if_pos (by omega)]) hAe hQ dX2_addByte_53

abbrev rm_c_Plan_polr : Room := { frames := 2, cells := 0, slots := 0, locals := 40 }
set_option maxHeartbeats 4000000 in
set_option maxRecDepth 100000 in
theorem c_Plan_polr (l : Launch) (D : va_G) (cI cZ : ClassId) (hp : Nat) (ob : Nat) (og : Nat) (ap : Nat) (al : Nat) (aq : Nat) (cnt : Nat) (ab : Nat) (nb : Nat) (fb : Nat → Int32) (ag : Nat) (ng : Nat) (fg : Nat → Int32) (p0 : Nat) (hnb : nb ≤ 300) (hng : ng ≤ 300) (hp0 : p0 ≤ ng) : MI l yX2_placeOfLongestRun wsX2_placeOfLongestRun rm_c_Plan_polr D (kT cI cZ) [.ref hp, .int (iI ((p0 : Nat) : Int))] [(hp, .inr (2, [.ref ob, .ref og, .ref ap, .ref al, .ref aq, .int (iI ((cnt : Nat) : Int))])), (ob, .inr (3, [.ref ab, .int (iI ((nb : Nat) : Int))])), (ab, .inl (cI, 300, .inl fb)), (og, .inr (3, [.ref ag, .int (iI ((ng : Nat) : Int))])), (ag, .inl (cI, 300, .inl fg))] (fun (r : Int32) (_ : Unit) => r = iI ((lsQ (lr fg fb ng nb p0) nb : Nat) : Int)) (fun (u : Unit) => match u with | _ => [(hp, .inr (2, [.ref ob, .ref og, .ref ap, .ref al, .ref aq, .int (iI ((cnt : Nat) : Int))])), (ob, .inr (3, [.ref ab, .int (iI ((nb : Nat) : Int))])), (ab, .inl (cI, 300, .inl fb)), (og, .inr (3, [.ref ag, .int (iI ((ng : Nat) : Int))])), (ag, .inl (cI, 300, .inl fg))]) 0 0 := by
  intro sz
  refine k_of (cc := cX2_placeOfLongestRun) (maxL := 6) (ret := (some .int)) (by decide) rfl (Nat.le_of_ble_eq_true rfl) ?_
  intro p e s m args below meth c A Q hAe hQ hx hb hr hml hts hown hlocks hnm hP hK hD hS hA ls hl
  have hl : lv_has ls 6 [(0, .ref hp), (1, .int (iI ((p0 : Nat) : Int)))] := hl
  have hi_X2 : ∀ w ∈ u_ws RX2 TX2 6, w ∈ wsX2_placeOfLongestRun := fun w h => km (ikX2 w h)
  have fl14 := hts _ (km wm78)
  have fl20 := hts _ (km wm79)
  have hmx := fun q => mxR_le (r := (lr fg fb ng nb p0)) (b := nb) (fun q => lr_le) q
  refine lv_iconst (v := iI ((0 : Nat) : Int)) hx hb dX2_placeOfLongestRun_0 rfl ?_
  refine lv_istore_n (lv' := [(2, .int (iI ((0 : Nat) : Int))), (0, .ref hp), (1, .int (iI ((p0 : Nat) : Int)))]) hx hb dX2_placeOfLongestRun_1 rfl hl (by decide) rfl (fun ls hl => ?_)
  refine lv_iconst (v := iI ((0 : Nat) : Int)) hx hb dX2_placeOfLongestRun_2 rfl ?_
  refine lv_istore_n (lv' := [(3, .int (iI ((0 : Nat) : Int))), (2, .int (iI ((0 : Nat) : Int))), (0, .ref hp), (1, .int (iI ((p0 : Nat) : Int)))]) hx hb dX2_placeOfLongestRun_3 rfl hl (by decide) rfl (fun ls hl => ?_)
  refine lv_iconst (v := iI ((0 : Nat) : Int)) hx hb dX2_placeOfLongestRun_4 rfl ?_
  refine lv_istore (lv' := [(4, .int (iI ((0 : Nat) : Int))), (3, .int (iI ((0 : Nat) : Int))), (2, .int (iI ((0 : Nat) : Int))), (0, .ref hp), (1, .int (iI ((p0 : Nat) : Int)))]) hx hb dX2_placeOfLongestRun_5 hl (by decide) rfl (fun ls hl => ?_)
  have lp7 : ∀ (fu : Nat) (q : Nat) (H : Heap) (locs : List Loc) (ls : Array Slot), nb - q < fu → (q ≤ nb) → va_P D vwCl [(hp, .inr (2, [.ref ob, .ref og, .ref ap, .ref al, .ref aq, .int (iI ((cnt : Nat) : Int))])), (ob, .inr (3, [.ref ab, .int (iI ((nb : Nat) : Int))])), (ab, .inl (cI, 300, .inl fb)), (og, .inr (3, [.ref ag, .int (iI ((ng : Nat) : Int))])), (ag, .inl (cI, 300, .inl fg))] H → va_D A [(hp, .inr (2, [.ref ob, .ref og, .ref ap, .ref al, .ref aq, .int (iI ((cnt : Nat) : Int))])), (ob, .inr (3, [.ref ab, .int (iI ((nb : Nat) : Int))])), (ab, .inl (cI, 300, .inl fb)), (og, .inr (3, [.ref ag, .int (iI ((ng : Nat) : Int))])), (ag, .inl (cI, 300, .inl fg))] → va_S A s.heap H locs → lv_has ls 6 [(0, .ref hp), (1, .int (iI ((p0 : Nat) : Int))), (2, .int (iI ((mxR (lr fg fb ng nb p0) q : Nat) : Int))), (3, .int (iI ((lsQ (lr fg fb ng nb p0) q : Nat) : Int))), (4, .int (iI ((q : Nat) : Int)))] → W p l e rm_c_Plan_polr s m args below meth c H locs 0 0 Q (F0 m 7 ls []) := by
    intro fu
    induction fu with
    | zero => intro q H locs ls hfu; exact absurd hfu (Nat.not_lt_zero _)
    | succ fu ih7 =>
      intro q H locs ls hfu hq hP hD hS hl
      have hm1 := hmx q
      refine lv_iload hx hb dX2_placeOfLongestRun_7 (lv_at hl 4 rfl) ?_
      refine lv_aload_n hx hb dX2_placeOfLongestRun_9 rfl (lv_at hl 0 rfl) ?_
      refine va_get (D := D) (ci := 2) (v := .ref ob) (C := RX2) (T := TX2) (N := 6) hx hb hts hi_X2 hown hK hP 0 rfl rfl 0 (by decide) fl14 (fun _ h9 => h9) rfl dX2_placeOfLongestRun_10 ?_
      refine k_calli (wc := [(ob, .inr (3, [.ref ab, .int (iI ((nb : Nat) : Int))])), (ab, .inl (cI, 300, .inl fb))]) (wr := [(hp, .inr (2, [.ref ob, .ref og, .ref ap, .ref al, .ref aq, .int (iI ((cnt : Nat) : Int))])), (og, .inr (3, [.ref ag, .int (iI ((ng : Nat) : Int))])), (ag, .inl (cI, 300, .inl fg))]) (wf := fun _ => [(hp, .inr (2, [.ref ob, .ref og, .ref ap, .ref al, .ref aq, .int (iI ((cnt : Nat) : Int))])), (ob, .inr (3, [.ref ab, .int (iI ((nb : Nat) : Int))])), (ab, .inl (cI, 300, .inl fb)), (og, .inr (3, [.ref ag, .int (iI ((ng : Nat) : Int))])), (ag, .inl (cI, 300, .inl fg))]) hK hP hD hS hA [1, 2] [0, 3, 4] [0, 3, 4, 1, 2] ⟨⟨rfl, rfl, by decide⟩, rfl, by decide, by decide⟩ (fun _ => ⟨rfl, rfl⟩) (by decide) (fun hPc hDc => va_runV (As := []) (rest := [.int (iI ((q : Nat) : Int))]) ⟨hx, hb, hml, hown, hts⟩ (c_Row_count l D cI cZ (h := ob) (a := ab) (M := 300) (n := nb) (f := fb)  _) (cwV 0 hts (kgV wm239 wm193 wm194 wm39 wmcX3_count) rfl rfl rfl (by decide +kernel) ⟨Nat.le_of_ble_eq_true rfl, Nat.le_of_ble_eq_true rfl⟩) (k_preV hK hPc hDc (ci := 3) (q0 := 0) rfl rfl) rfl rfl hl.1 rfl (lv_room (Nat.le_of_ble_eq_true rfl)) dX2_placeOfLongestRun_13 ⟨Nat.le_of_ble_eq_true rfl, Nat.le_of_ble_eq_true rfl⟩) (fun r13 u H locs hw hP hD hS => ?_)
      have hP : va_P D vwCl [(hp, .inr (2, [.ref ob, .ref og, .ref ap, .ref al, .ref aq, .int (iI ((cnt : Nat) : Int))])), (ob, .inr (3, [.ref ab, .int (iI ((nb : Nat) : Int))])), (ab, .inl (cI, 300, .inl fb)), (og, .inr (3, [.ref ag, .int (iI ((ng : Nat) : Int))])), (ag, .inl (cI, 300, .inl fg))] H := hP
      have hD : va_D A [(hp, .inr (2, [.ref ob, .ref og, .ref ap, .ref al, .ref aq, .int (iI ((cnt : Nat) : Int))])), (ob, .inr (3, [.ref ab, .int (iI ((nb : Nat) : Int))])), (ab, .inl (cI, 300, .inl fb)), (og, .inr (3, [.ref ag, .int (iI ((ng : Nat) : Int))])), (ag, .inl (cI, 300, .inl fg))] := hD
      refine W.widen (k := 0) (n := 0) (Nat.le_of_ble_eq_true rfl) (Nat.le_of_ble_eq_true rfl) ?_
      have hw : r13 = iI ((nb : Nat) : Int) := hw
      subst hw
      refine lv_iload_n hx hb dX2_placeOfLongestRun_16 rfl (lv_at hl 2 rfl) ?_
      refine lv_isub hx hb dX2_placeOfLongestRun_17 ?_
      refine kn_i (iB (c := (((nb : Nat) : Int) - ((mxR (lr fg fb ng nb p0) q : Nat) : Int) : Int)) (by omega)) ?_
      refine lv_icmp_ge (tgt := 55) hx hb dX2_placeOfLongestRun_18 (by decide) (fun c18 => ?_) (fun c18 => ?_)
      · skip
        have c18 := iI_leT (a := (((nb : Nat) : Int) - ((mxR (lr fg fb ng nb p0) q : Nat) : Int) : Int)) (b := ((q : Nat) : Int)) c18 (by omega)
        refine lv_iload_n hx hb dX2_placeOfLongestRun_55 rfl (lv_at hl 3 rfl) ?_
        exact k_iret () hx hb hr hlocks hK hP hD hS [0, 1, 2, 3, 4] (by decide) rfl rfl (by rw [lsQ_stop (r := lr fg fb ng nb p0) hq (fun j h1 h2 => Nat.le_trans lr_le' (by omega))]) hAe hQ dX2_placeOfLongestRun_56
      · skip
        have c18 := iI_leF (a := (((nb : Nat) : Int) - ((mxR (lr fg fb ng nb p0) q : Nat) : Int) : Int)) (b := ((q : Nat) : Int)) c18 (by omega)
        refine lv_aload_n hx hb dX2_placeOfLongestRun_21 rfl (lv_at hl 0 rfl) ?_
        refine va_get (D := D) (ci := 2) (v := .ref og) (C := RX2) (T := TX2) (N := 6) hx hb hts hi_X2 hown hK hP 0 rfl rfl 1 (by decide) fl20 (fun _ h9 => h9) rfl dX2_placeOfLongestRun_22 ?_
        refine lv_iload_n hx hb dX2_placeOfLongestRun_25 rfl (lv_at hl 1 rfl) ?_
        refine lv_aload_n hx hb dX2_placeOfLongestRun_26 rfl (lv_at hl 0 rfl) ?_
        refine va_get (D := D) (ci := 2) (v := .ref ob) (C := RX2) (T := TX2) (N := 6) hx hb hts hi_X2 hown hK hP 0 rfl rfl 0 (by decide) fl14 (fun _ h9 => h9) rfl dX2_placeOfLongestRun_27 ?_
        refine lv_iload hx hb dX2_placeOfLongestRun_30 (lv_at hl 4 rfl) ?_
        have hlr := lr_le (fg := fg) (fb := fb) (ng := ng) (nb := nb) (p := p0) (q := q)
        refine k_calli (wc := [(og, .inr (3, [.ref ag, .int (iI ((ng : Nat) : Int))])), (ag, .inl (cI, 300, .inl fg)), (ob, .inr (3, [.ref ab, .int (iI ((nb : Nat) : Int))])), (ab, .inl (cI, 300, .inl fb))]) (wr := [(hp, .inr (2, [.ref ob, .ref og, .ref ap, .ref al, .ref aq, .int (iI ((cnt : Nat) : Int))]))]) (wf := fun _ => [(hp, .inr (2, [.ref ob, .ref og, .ref ap, .ref al, .ref aq, .int (iI ((cnt : Nat) : Int))])), (ob, .inr (3, [.ref ab, .int (iI ((nb : Nat) : Int))])), (ab, .inl (cI, 300, .inl fb)), (og, .inr (3, [.ref ag, .int (iI ((ng : Nat) : Int))])), (ag, .inl (cI, 300, .inl fg))]) hK hP hD hS hA [3, 4, 1, 2] [0] [0, 3, 4, 1, 2] ⟨⟨rfl, rfl, by decide⟩, rfl, by decide, by decide⟩ (fun _ => ⟨rfl, rfl⟩) (by decide) (fun hPc hDc => va_runV (As := [.int (iI ((p0 : Nat) : Int)), .ref ob, .int (iI ((q : Nat) : Int))]) (rest := []) ⟨hx, hb, hml, hown, hts⟩ (c_Row_sameFrom l D cI cZ (h := og) (a := ag) (M := 300) (n := ng) (f := fg) (h2 := ob) (a2 := ab) (M2 := 300) (n2 := nb) (g := fb) (i := p0) (j := q) (hM := by omega) (hn := by omega) (hM2 := by omega) (hn2 := by omega) (hi := by omega) (hj := by omega) _) (cwV 3 hts (kgV wm244 wm245 wm246 wm39 wmcX3_sameFrom) rfl rfl rfl (by decide +kernel) ⟨Nat.le_of_ble_eq_true rfl, Nat.le_of_ble_eq_true rfl⟩) (k_preV hK hPc hDc (ci := 3) (q0 := 0) rfl rfl) rfl rfl hl.1 rfl (lv_room (Nat.le_of_ble_eq_true rfl)) dX2_placeOfLongestRun_32 ⟨Nat.le_of_ble_eq_true rfl, Nat.le_of_ble_eq_true rfl⟩) (fun r32 u H locs hw hP hD hS => ?_)
        have hP : va_P D vwCl [(hp, .inr (2, [.ref ob, .ref og, .ref ap, .ref al, .ref aq, .int (iI ((cnt : Nat) : Int))])), (ob, .inr (3, [.ref ab, .int (iI ((nb : Nat) : Int))])), (ab, .inl (cI, 300, .inl fb)), (og, .inr (3, [.ref ag, .int (iI ((ng : Nat) : Int))])), (ag, .inl (cI, 300, .inl fg))] H := hP
        have hD : va_D A [(hp, .inr (2, [.ref ob, .ref og, .ref ap, .ref al, .ref aq, .int (iI ((cnt : Nat) : Int))])), (ob, .inr (3, [.ref ab, .int (iI ((nb : Nat) : Int))])), (ab, .inl (cI, 300, .inl fb)), (og, .inr (3, [.ref ag, .int (iI ((ng : Nat) : Int))])), (ag, .inl (cI, 300, .inl fg))] := hD
        refine W.widen (k := 0) (n := 0) (Nat.le_of_ble_eq_true rfl) (Nat.le_of_ble_eq_true rfl) ?_
        have hw : r32 = iI (((lr fg fb ng nb p0) q : Nat) : Int) := hw
        subst hw
        refine lv_istore (lv' := [(5, .int (iI (((lr fg fb ng nb p0) q : Nat) : Int))), (0, .ref hp), (1, .int (iI ((p0 : Nat) : Int))), (2, .int (iI ((mxR (lr fg fb ng nb p0) q : Nat) : Int))), (3, .int (iI ((lsQ (lr fg fb ng nb p0) q : Nat) : Int))), (4, .int (iI ((q : Nat) : Int)))]) hx hb dX2_placeOfLongestRun_35 hl (by decide) rfl (fun ls hl => ?_)
        refine lv_iload hx hb dX2_placeOfLongestRun_37 (lv_at hl 0 rfl) ?_
        refine lv_iload_n hx hb dX2_placeOfLongestRun_39 rfl (lv_at hl 3 rfl) ?_
        refine lv_icmp_le (tgt := 49) hx hb dX2_placeOfLongestRun_40 (by decide) (fun c40 => ?_) (fun c40 => ?_)
        · skip
          have c40 := iI_leT (a := (((lr fg fb ng nb p0) q : Nat) : Int)) (b := ((mxR (lr fg fb ng nb p0) q : Nat) : Int)) c40 (by omega)
          refine lv_iinc (v := iI ((q + 1 : Nat) : Int)) (lv' := [(4, .int (iI ((q + 1 : Nat) : Int))), (5, .int (iI (((lr fg fb ng nb p0) q : Nat) : Int))), (0, .ref hp), (1, .int (iI ((p0 : Nat) : Int))), (2, .int (iI ((mxR (lr fg fb ng nb p0) q : Nat) : Int))), (3, .int (iI ((lsQ (lr fg fb ng nb p0) q : Nat) : Int)))]) hx hb dX2_placeOfLongestRun_49 hl (k := 5) rfl (iA (by omega)) (by decide) rfl (fun ls hl => ?_)
          refine lv_goto (tgt := 7) hx hb dX2_placeOfLongestRun_52 (by decide) ?_
          have hl9 : lv_has ls 6 [(0, .ref hp), (1, .int (iI ((p0 : Nat) : Int))), (2, .int (iI ((mxR (lr fg fb ng nb p0) (q + 1) : Nat) : Int))), (3, .int (iI ((lsQ (lr fg fb ng nb p0) (q + 1) : Nat) : Int))), (4, .int (iI (((q + 1) : Nat) : Int)))] := by
            have hl := lv_sub hl [2, 3, 4, 5, 0] rfl
            rw [mxR_t (by omega), lsQ_t (by omega)]
            exact hl
          exact ih7 (q + 1) _ _ _ (by omega) (by omega) hP hD hS hl9
        · skip
          have c40 := iI_leF (a := (((lr fg fb ng nb p0) q : Nat) : Int)) (b := ((mxR (lr fg fb ng nb p0) q : Nat) : Int)) c40 (by omega)
          refine lv_iload hx hb dX2_placeOfLongestRun_43 (lv_at hl 0 rfl) ?_
          refine lv_istore_n (lv' := [(2, .int (iI (((lr fg fb ng nb p0) q : Nat) : Int))), (5, .int (iI (((lr fg fb ng nb p0) q : Nat) : Int))), (0, .ref hp), (1, .int (iI ((p0 : Nat) : Int))), (3, .int (iI ((lsQ (lr fg fb ng nb p0) q : Nat) : Int))), (4, .int (iI ((q : Nat) : Int)))]) hx hb dX2_placeOfLongestRun_45 rfl hl (by decide) rfl (fun ls hl => ?_)
          refine lv_iload hx hb dX2_placeOfLongestRun_46 (lv_at hl 5 rfl) ?_
          refine lv_istore_n (lv' := [(3, .int (iI ((q : Nat) : Int))), (2, .int (iI (((lr fg fb ng nb p0) q : Nat) : Int))), (5, .int (iI (((lr fg fb ng nb p0) q : Nat) : Int))), (0, .ref hp), (1, .int (iI ((p0 : Nat) : Int))), (4, .int (iI ((q : Nat) : Int)))]) hx hb dX2_placeOfLongestRun_48 rfl hl (by decide) rfl (fun ls hl => ?_)
          refine lv_iinc (v := iI ((q + 1 : Nat) : Int)) (lv' := [(4, .int (iI ((q + 1 : Nat) : Int))), (3, .int (iI ((q : Nat) : Int))), (2, .int (iI (((lr fg fb ng nb p0) q : Nat) : Int))), (5, .int (iI (((lr fg fb ng nb p0) q : Nat) : Int))), (0, .ref hp), (1, .int (iI ((p0 : Nat) : Int)))]) hx hb dX2_placeOfLongestRun_49 hl (k := 5) rfl (iA (by omega)) (by decide) rfl (fun ls hl => ?_)
          refine lv_goto (tgt := 7) hx hb dX2_placeOfLongestRun_52 (by decide) ?_
          have hl9 : lv_has ls 6 [(0, .ref hp), (1, .int (iI ((p0 : Nat) : Int))), (2, .int (iI ((mxR (lr fg fb ng nb p0) (q + 1) : Nat) : Int))), (3, .int (iI ((lsQ (lr fg fb ng nb p0) (q + 1) : Nat) : Int))), (4, .int (iI (((q + 1) : Nat) : Int)))] := by
            have hl := lv_sub hl [4, 5, 2, 1, 0] rfl
            rw [mxR_f (by omega), lsQ_f (by omega)]
            exact hl
          exact ih7 (q + 1) _ _ _ (by omega) (by omega) hP hD hS hl9
  exact lp7 _ 0 _ _ _ (Nat.lt_succ_self _) (by omega) hP hD hS (lv_sub hl [3, 4, 2, 1, 0] rfl)
