abbrev rm_c_Placer_wasPutAside : Room := { frames := 0, cells := 0, slots := 0, locals := 0 }
set_option maxHeartbeats 4000000 in
set_option maxRecDepth 100000 in
theorem c_Placer_wasPutAside (l : Launch) (D : va_G) (cI cZ : ClassId) (hq : Nat) (hp : Nat) (h5 : Nat) (h6 : Nat) (aa : Nat) (ar : Nat) (ax : Nat) (dn : Nat) (A0 : Nat → Int) (z : Int) (hz : -2147483648 ≤ z ∧ z < 2147483648) (hA0 : ∀ i, i < 300 → A0 i = 0 ∨ A0 i = 1) : MI l yX1_wasPutAside wsX1_wasPutAside rm_c_Placer_wasPutAside D (kT cI cZ) [.ref hq, .int (iI (z : Int))] [(hq, .inr (1, [.ref hp, .ref h5, .ref h6, .ref aa, .ref ar, .ref ax, .int (iI ((dn : Nat) : Int))])), (aa, .inl (cZ, 300, .inl (kA A0)))] (fun (r : Int32) (_ : Unit) => r = kb (decide ((0 ≤ z ∧ z < 300) ∧ ¬ A0 z.toNat = 0))) (fun (u : Unit) => match u with | _ => [(hq, .inr (1, [.ref hp, .ref h5, .ref h6, .ref aa, .ref ar, .ref ax, .int (iI ((dn : Nat) : Int))])), (aa, .inl (cZ, 300, .inl (kA A0)))]) 0 0 := by
  intro sz
  refine k_of (cc := cX1_wasPutAside) (maxL := 2) (ret := (some .boolean)) (by decide) rfl (Nat.le_of_ble_eq_true rfl) ?_
  intro p e s m args below meth c A Q hAe hQ hx hb hr hml hts hown hlocks hnm hP hK hD hS hA ls hl
  have hl : lv_has ls 2 [(0, .ref hq), (1, .int (iI (z : Int)))] := hl
  have hi_X1 : ∀ w ∈ u_ws RX1 TX1 7, w ∈ wsX1_wasPutAside := fun w h => km (ikX1 w h)
  have fl27 := hts _ (km wm136)
  refine lv_iload_n hx hb dX1_wasPutAside_0 rfl (lv_at hl 1 rfl) ?_
  refine lv_if_lt (tgt := 24) hx hb dX1_wasPutAside_1 (by decide) (fun c1 => ?_) (fun c1 => ?_)
  · skip
    have c1 := iI_ltT (a := (z : Int)) (b := (0 : Int)) c1 (by omega)
    refine lv_iconst (v := iI (0 : Int)) hx hb dX1_wasPutAside_24 rfl ?_
    exact k_zret () hx hb hr (by decide) hlocks hK hP hD hS [0, 1] (by decide) rfl rfl (by first | exact kb1 (by omega) | exact kb0 (by omega)) hAe hQ dX1_wasPutAside_25
  · skip
    have c1 := iI_ltF (a := (z : Int)) (b := (0 : Int)) c1 (by omega)
    refine lv_iload_n hx hb dX1_wasPutAside_4 rfl (lv_at hl 1 rfl) ?_
    refine lv_sipush (v := iI (300 : Int)) hx hb dX1_wasPutAside_5 (by decide) ?_
    refine lv_icmp_ge (tgt := 24) hx hb dX1_wasPutAside_8 (by decide) (fun c8 => ?_) (fun c8 => ?_)
    · skip
      have c8 := iI_leT (a := (300 : Int)) (b := (z : Int)) c8 (by omega)
      refine lv_iconst (v := iI (0 : Int)) hx hb dX1_wasPutAside_24 rfl ?_
      exact k_zret () hx hb hr (by decide) hlocks hK hP hD hS [0, 1] (by decide) rfl rfl (by first | exact kb1 (by omega) | exact kb0 (by omega)) hAe hQ dX1_wasPutAside_25
    · skip
      have c8 := iI_leF (a := (300 : Int)) (b := (z : Int)) c8 (by omega)
      refine lv_aload_n hx hb dX1_wasPutAside_11 rfl (lv_at hl 0 rfl) ?_
      refine va_get (D := D) (ci := 1) (v := .ref aa) (C := RX1) (T := TX1) (N := 7) hx hb hts hi_X1 hown hK hP 0 rfl rfl 3 (by decide) fl27 (fun _ h9 => h9) rfl dX1_wasPutAside_12 ?_
      refine lv_iload_n hx hb dX1_wasPutAside_15 rfl (lv_at hl 1 rfl) ?_
      have h01 := hA0 z.toNat (by omega)
      refine k_zald hx hb hK hP 1 1 rfl rfl z.toNat (by omega) dX1_wasPutAside_16 ?_
      refine kn_i (y := iI (A0 z.toNat : Int)) (rfl) ?_
      refine lv_if_eq (tgt := 24) hx hb dX1_wasPutAside_17 (by decide) (fun c17 => ?_) (fun c17 => ?_)
      · skip
        have c17 := iI_eqT (a := (A0 z.toNat : Int)) (b := (0 : Int)) c17 (by omega)
        refine lv_iconst (v := iI (0 : Int)) hx hb dX1_wasPutAside_24 rfl ?_
        exact k_zret () hx hb hr (by decide) hlocks hK hP hD hS [0, 1] (by decide) rfl rfl (by first | exact kb1 (by omega) | exact kb0 (by omega)) hAe hQ dX1_wasPutAside_25
      · skip
        have c17 := iI_eqF (a := (A0 z.toNat : Int)) (b := (0 : Int)) c17 (by omega)
        refine lv_iconst (v := iI (1 : Int)) hx hb dX1_wasPutAside_20 rfl ?_
        refine lv_goto (tgt := 25) hx hb dX1_wasPutAside_21 (by decide) ?_
        exact k_zret () hx hb hr (by decide) hlocks hK hP hD hS [0, 1] (by decide) rfl rfl (by first | exact kb1 (by omega) | exact kb0 (by omega)) hAe hQ dX1_wasPutAside_25

abbrev rm_c_Placer_turnOf : Room := { frames := 0, cells := 0, slots := 0, locals := 0 }
set_option maxHeartbeats 4000000 in
set_option maxRecDepth 100000 in
theorem c_Placer_turnOf (l : Launch) (D : va_G) (cI cZ : ClassId) (hq : Nat) (hp : Nat) (h5 : Nat) (h6 : Nat) (aa : Nat) (ar : Nat) (ax : Nat) (dn : Nat) (T0 : Nat → Int) (z : Int) (hz : -2147483648 ≤ z ∧ z < 2147483648) : MI l yX1_turnOf wsX1_turnOf rm_c_Placer_turnOf D (kT cI cZ) [.ref hq, .int (iI (z : Int))] [(hq, .inr (1, [.ref hp, .ref h5, .ref h6, .ref aa, .ref ar, .ref ax, .int (iI ((dn : Nat) : Int))])), (ar, .inl (cI, 300, .inl (kA T0)))] (fun (r : Int32) (_ : Unit) => r = iI (rZ T0 300 z : Int)) (fun (u : Unit) => match u with | _ => [(hq, .inr (1, [.ref hp, .ref h5, .ref h6, .ref aa, .ref ar, .ref ax, .int (iI ((dn : Nat) : Int))])), (ar, .inl (cI, 300, .inl (kA T0)))]) 0 0 := by
  intro sz
  refine k_of (cc := cX1_turnOf) (maxL := 2) (ret := (some .int)) (by decide) rfl (Nat.le_of_ble_eq_true rfl) ?_
  intro p e s m args below meth c A Q hAe hQ hx hb hr hml hts hown hlocks hnm hP hK hD hS hA ls hl
  have hl : lv_has ls 2 [(0, .ref hq), (1, .int (iI (z : Int)))] := hl
  have hi_X1 : ∀ w ∈ u_ws RX1 TX1 7, w ∈ wsX1_turnOf := fun w h => km (ikX1 w h)
  have fl31 := hts _ (km wm137)
  refine lv_iload_n hx hb dX1_turnOf_0 rfl (lv_at hl 1 rfl) ?_
  refine lv_if_lt (tgt := 20) hx hb dX1_turnOf_1 (by decide) (fun c1 => ?_) (fun c1 => ?_)
  · skip
    have c1 := iI_ltT (a := (z : Int)) (b := (0 : Int)) c1 (by omega)
    refine lv_iconst (v := iI (-1 : Int)) hx hb dX1_turnOf_20 rfl ?_
    exact k_iret () hx hb hr hlocks hK hP hD hS [0, 1] (by decide) rfl rfl (by unfold rZ; first | rw [if_pos (by omega)] | rw [if_neg (by omega)]) hAe hQ dX1_turnOf_21
  · skip
    have c1 := iI_ltF (a := (z : Int)) (b := (0 : Int)) c1 (by omega)
    refine lv_iload_n hx hb dX1_turnOf_4 rfl (lv_at hl 1 rfl) ?_
    refine lv_sipush (v := iI (300 : Int)) hx hb dX1_turnOf_5 (by decide) ?_
    refine lv_icmp_ge (tgt := 20) hx hb dX1_turnOf_8 (by decide) (fun c8 => ?_) (fun c8 => ?_)
    · skip
      have c8 := iI_leT (a := (300 : Int)) (b := (z : Int)) c8 (by omega)
      refine lv_iconst (v := iI (-1 : Int)) hx hb dX1_turnOf_20 rfl ?_
      exact k_iret () hx hb hr hlocks hK hP hD hS [0, 1] (by decide) rfl rfl (by unfold rZ; first | rw [if_pos (by omega)] | rw [if_neg (by omega)]) hAe hQ dX1_turnOf_21
    · skip
      have c8 := iI_leF (a := (300 : Int)) (b := (z : Int)) c8 (by omega)
      refine lv_aload_n hx hb dX1_turnOf_11 rfl (lv_at hl 0 rfl) ?_
      refine va_get (D := D) (ci := 1) (v := .ref ar) (C := RX1) (T := TX1) (N := 7) hx hb hts hi_X1 hown hK hP 0 rfl rfl 4 (by decide) fl31 (fun _ h9 => h9) rfl dX1_turnOf_12 ?_
      refine lv_iload_n hx hb dX1_turnOf_15 rfl (lv_at hl 1 rfl) ?_
      refine k_iald hx hb hK hP 1 0 rfl rfl z.toNat (by omega) dX1_turnOf_16 ?_
      refine kn_i (y := iI (T0 z.toNat : Int)) (rfl) ?_
      refine lv_goto (tgt := 21) hx hb dX1_turnOf_17 (by decide) ?_
      exact k_iret () hx hb hr hlocks hK hP hD hS [0, 1] (by decide) rfl rfl (by unfold rZ; first | rw [if_pos (by omega)] | rw [if_neg (by omega)]) hAe hQ dX1_turnOf_21

abbrev rm_c_Placer_forget : Room := { frames := 0, cells := 0, slots := 0, locals := 0 }
set_option maxHeartbeats 4000000 in
set_option maxRecDepth 100000 in
theorem c_Placer_forget (l : Launch) (D : va_G) (cI cZ : ClassId) (hq : Nat) (hp : Nat) (h5 : Nat) (h6 : Nat) (aa : Nat) (ar : Nat) (ax : Nat) (dn : Nat) (A0 : Nat → Int) (T0 : Nat → Int) (B0 : Nat → Int)  : MV l yX1_forget wsX1_forget rm_c_Placer_forget D (kT cI cZ) [.ref hq] [(hq, .inr (1, [.ref hp, .ref h5, .ref h6, .ref aa, .ref ar, .ref ax, .int (iI ((dn : Nat) : Int))])), (aa, .inl (cZ, 300, .inl (kA A0))), (ar, .inl (cI, 300, .inl (kA T0))), (ax, .inl (cI, 300, .inl (kA B0)))] (fun (_ : Unit) => True) (fun (u : Unit) => match u with | _ => [(hq, .inr (1, [.ref hp, .ref h5, .ref h6, .ref aa, .ref ar, .ref ax, .int (iI ((0 : Nat) : Int))])), (aa, .inl (cZ, 300, .inl (kA (pfx 300 0 A0)))), (ar, .inl (cI, 300, .inl (kA (pfx 300 (-1) T0)))), (ax, .inl (cI, 300, .inl (kA (pfx 300 0 B0))))]) 0 0 := by
  intro sz
  refine k_of (cc := cX1_forget) (maxL := 2) (ret := none) (by decide) rfl (Nat.le_of_ble_eq_true rfl) ?_
  intro p e s m args below meth c A Q hAe hQ hx hb hr hml hts hown hlocks hnm hP hK hD hS hA ls hl
  have hl : lv_has ls 2 [(0, .ref hq)] := hl
  have hi_X1 : ∀ w ∈ u_ws RX1 TX1 7, w ∈ wsX1_forget := fun w h => km (ikX1 w h)
  have fl38 := hts _ (km wm139)
  have fl27 := hts _ (km wm136)
  have fl31 := hts _ (km wm137)
  have fl35 := hts _ (km wm138)
  refine lv_aload_n hx hb dX1_forget_0 rfl (lv_at hl 0 rfl) ?_
  refine lv_iconst (v := iI ((0 : Nat) : Int)) hx hb dX1_forget_1 rfl ?_
  refine va_put (D := D) (ci := 1) (v := .int (iI ((0 : Nat) : Int))) (ty := .int) (C := RX1) (T := TX1) (N := 7) hx hb hts hi_X1 tyX1 tyX1_ok nmX1 hown hK hP hD hS 0 rfl rfl 6 (by decide) fl38 (fun _ h9 => h9) rfl (by decide +kernel) rfl rfl (Nat.le_of_ble_eq_true rfl) dX1_forget_2 (fun H locs hP hD hS => ?_)
  have hP : va_P D vwCl [(hq, .inr (1, [.ref hp, .ref h5, .ref h6, .ref aa, .ref ar, .ref ax, .int (iI ((0 : Nat) : Int))])), (aa, .inl (cZ, 300, .inl (kA A0))), (ar, .inl (cI, 300, .inl (kA T0))), (ax, .inl (cI, 300, .inl (kA B0)))] H := hP
  have hD : va_D A [(hq, .inr (1, [.ref hp, .ref h5, .ref h6, .ref aa, .ref ar, .ref ax, .int (iI ((0 : Nat) : Int))])), (aa, .inl (cZ, 300, .inl (kA A0))), (ar, .inl (cI, 300, .inl (kA T0))), (ax, .inl (cI, 300, .inl (kA B0)))] := hD
  refine lv_iconst (v := iI ((0 : Nat) : Int)) hx hb dX1_forget_5 rfl ?_
  refine lv_istore_n (lv' := [(1, .int (iI ((0 : Nat) : Int))), (0, .ref hq)]) hx hb dX1_forget_6 rfl hl (by decide) rfl (fun ls hl => ?_)
  have lp7 : ∀ (fu : Nat) (k : Nat) (H : Heap) (locs : List Loc) (ls : Array Slot), 300 - k < fu → (k ≤ 300) → va_P D vwCl [(hq, .inr (1, [.ref hp, .ref h5, .ref h6, .ref aa, .ref ar, .ref ax, .int (iI ((0 : Nat) : Int))])), (aa, .inl (cZ, 300, .inl (kA (pfx k 0 A0)))), (ar, .inl (cI, 300, .inl (kA (pfx k (-1) T0)))), (ax, .inl (cI, 300, .inl (kA (pfx k 0 B0))))] H → va_D A [(hq, .inr (1, [.ref hp, .ref h5, .ref h6, .ref aa, .ref ar, .ref ax, .int (iI ((0 : Nat) : Int))])), (aa, .inl (cZ, 300, .inl (kA (pfx k 0 A0)))), (ar, .inl (cI, 300, .inl (kA (pfx k (-1) T0)))), (ax, .inl (cI, 300, .inl (kA (pfx k 0 B0))))] → va_S A s.heap H locs → lv_has ls 2 [(0, .ref hq), (1, .int (iI ((k : Nat) : Int)))] → W p l e rm_c_Placer_forget s m args below meth c H locs 0 0 Q (F0 m 7 ls []) := by
    intro fu
    induction fu with
    | zero => intro k H locs ls hfu; exact absurd hfu (Nat.not_lt_zero _)
    | succ fu ih7 =>
      intro k H locs ls hfu hk hP hD hS hl
      refine lv_iload_n hx hb dX1_forget_7 rfl (lv_at hl 1 rfl) ?_
      refine lv_sipush (v := iI (300 : Int)) hx hb dX1_forget_8 (by decide) ?_
      refine lv_icmp_ge (tgt := 41) hx hb dX1_forget_11 (by decide) (fun c11 => ?_) (fun c11 => ?_)
      · skip
        have c11 := iI_leT (a := (300 : Int)) (b := ((k : Nat) : Int)) c11 (by omega)
        obtain rfl : k = 300 := by omega
        exact k_vret () hx hb hr hlocks hK hP hD hS [0, 1, 2, 3] (by decide) rfl rfl (trivial) hAe hQ dX1_forget_41
      · skip
        have c11 := iI_leF (a := (300 : Int)) (b := ((k : Nat) : Int)) c11 (by omega)
        refine lv_aload_n hx hb dX1_forget_14 rfl (lv_at hl 0 rfl) ?_
        refine va_get (D := D) (ci := 1) (v := .ref aa) (C := RX1) (T := TX1) (N := 7) hx hb hts hi_X1 hown hK hP 0 rfl rfl 3 (by decide) fl27 (fun _ h9 => h9) rfl dX1_forget_15 ?_
        refine lv_iload_n hx hb dX1_forget_18 rfl (lv_at hl 1 rfl) ?_
        refine lv_iconst (v := iI (0 : Int)) hx hb dX1_forget_19 rfl ?_
        refine k_zast (y := iI (0 : Int)) hx hb hK hP hD hS 1 1 rfl rfl k (by omega) (by decide) dX1_forget_20 (fun H locs hP hD hS => ?_)
        have hP : va_P D vwCl [(hq, .inr (1, [.ref hp, .ref h5, .ref h6, .ref aa, .ref ar, .ref ax, .int (iI ((0 : Nat) : Int))])), (aa, .inl (cZ, 300, .inl (upd (kA (pfx k 0 A0)) k (iI (0 : Int))))), (ar, .inl (cI, 300, .inl (kA (pfx k (-1) T0)))), (ax, .inl (cI, 300, .inl (kA (pfx k 0 B0))))] H := hP
        have hD : va_D A [(hq, .inr (1, [.ref hp, .ref h5, .ref h6, .ref aa, .ref ar, .ref ax, .int (iI ((0 : Nat) : Int))])), (aa, .inl (cZ, 300, .inl (upd (kA (pfx k 0 A0)) k (iI (0 : Int))))), (ar, .inl (cI, 300, .inl (kA (pfx k (-1) T0)))), (ax, .inl (cI, 300, .inl (kA (pfx k 0 B0))))] := hD
        rw [show (upd (kA (pfx k 0 A0)) k (iI (0 : Int))) = (kA (pfx (k + 1) 0 A0)) from pfx_s _ _ _] at hP hD
        refine lv_aload_n hx hb dX1_forget_21 rfl (lv_at hl 0 rfl) ?_
        refine va_get (D := D) (ci := 1) (v := .ref ar) (C := RX1) (T := TX1) (N := 7) hx hb hts hi_X1 hown hK hP 0 rfl rfl 4 (by decide) fl31 (fun _ h9 => h9) rfl dX1_forget_22 ?_
        refine lv_iload_n hx hb dX1_forget_25 rfl (lv_at hl 1 rfl) ?_
        refine lv_iconst (v := iI (-1 : Int)) hx hb dX1_forget_26 rfl ?_
        refine k_iast hx hb hK hP hD hS 2 0 rfl rfl k (by omega) dX1_forget_27 (fun H locs hP hD hS => ?_)
        have hP : va_P D vwCl [(hq, .inr (1, [.ref hp, .ref h5, .ref h6, .ref aa, .ref ar, .ref ax, .int (iI ((0 : Nat) : Int))])), (aa, .inl (cZ, 300, .inl (kA (pfx (k + 1) 0 A0)))), (ar, .inl (cI, 300, .inl (upd (kA (pfx k (-1) T0)) k (iI (-1 : Int))))), (ax, .inl (cI, 300, .inl (kA (pfx k 0 B0))))] H := hP
        have hD : va_D A [(hq, .inr (1, [.ref hp, .ref h5, .ref h6, .ref aa, .ref ar, .ref ax, .int (iI ((0 : Nat) : Int))])), (aa, .inl (cZ, 300, .inl (kA (pfx (k + 1) 0 A0)))), (ar, .inl (cI, 300, .inl (upd (kA (pfx k (-1) T0)) k (iI (-1 : Int))))), (ax, .inl (cI, 300, .inl (kA (pfx k 0 B0))))] := hD
        rw [show (upd (kA (pfx k (-1) T0)) k (iI (-1 : Int))) = (kA (pfx (k + 1) (-1) T0)) from pfx_s _ _ _] at hP hD
        refine lv_aload_n hx hb dX1_forget_28 rfl (lv_at hl 0 rfl) ?_
        refine va_get (D := D) (ci := 1) (v := .ref ax) (C := RX1) (T := TX1) (N := 7) hx hb hts hi_X1 hown hK hP 0 rfl rfl 5 (by decide) fl35 (fun _ h9 => h9) rfl dX1_forget_29 ?_
        refine lv_iload_n hx hb dX1_forget_32 rfl (lv_at hl 1 rfl) ?_
        refine lv_iconst (v := iI (0 : Int)) hx hb dX1_forget_33 rfl ?_
        refine k_iast hx hb hK hP hD hS 3 0 rfl rfl k (by omega) dX1_forget_34 (fun H locs hP hD hS => ?_)
        have hP : va_P D vwCl [(hq, .inr (1, [.ref hp, .ref h5, .ref h6, .ref aa, .ref ar, .ref ax, .int (iI ((0 : Nat) : Int))])), (aa, .inl (cZ, 300, .inl (kA (pfx (k + 1) 0 A0)))), (ar, .inl (cI, 300, .inl (kA (pfx (k + 1) (-1) T0)))), (ax, .inl (cI, 300, .inl (upd (kA (pfx k 0 B0)) k (iI (0 : Int)))))] H := hP
        have hD : va_D A [(hq, .inr (1, [.ref hp, .ref h5, .ref h6, .ref aa, .ref ar, .ref ax, .int (iI ((0 : Nat) : Int))])), (aa, .inl (cZ, 300, .inl (kA (pfx (k + 1) 0 A0)))), (ar, .inl (cI, 300, .inl (kA (pfx (k + 1) (-1) T0)))), (ax, .inl (cI, 300, .inl (upd (kA (pfx k 0 B0)) k (iI (0 : Int)))))] := hD
        rw [show (upd (kA (pfx k 0 B0)) k (iI (0 : Int))) = (kA (pfx (k + 1) 0 B0)) from pfx_s _ _ _] at hP hD
        refine lv_iinc (v := iI ((k + 1 : Nat) : Int)) (lv' := [(1, .int (iI ((k + 1 : Nat) : Int))), (0, .ref hq)]) hx hb dX1_forget_35 hl (k := 1) rfl (iA (by omega)) (by decide) rfl (fun ls hl => ?_)
        refine lv_goto (tgt := 7) hx hb dX1_forget_38 (by decide) ?_
        exact ih7 (k + 1) _ _ _ (by omega) (by omega) hP hD hS (lv_sub hl [1, 0] rfl)
  rw [show (kA A0) = (kA (pfx 0 0 A0)) from by rw [pfx_0]] at hP hD
  rw [show (kA T0) = (kA (pfx 0 (-1) T0)) from by rw [pfx_0]] at hP hD
  rw [show (kA B0) = (kA (pfx 0 0 B0)) from by rw [pfx_0]] at hP hD
  exact lp7 _ 0 _ _ _ (Nat.lt_succ_self _) (by omega) hP hD hS (lv_sub hl [1, 0] rfl)

abbrev rm_c_Placer_move : Room := { frames := 2, cells := 0, slots := 0, locals := 42 }
set_option maxHeartbeats 4000000 in
set_option maxRecDepth 100000 in
theorem c_Placer_move (l : Launch) (D : va_G) (cI cZ : ClassId) (hq : Nat) (hp : Nat) (h5 : Nat) (h6 : Nat) (aa : Nat) (ar : Nat) (ax : Nat) (dn : Nat) (ob : Nat) (og : Nat) (ap : Nat) (al : Nat) (aq : Nat) (cnt : Nat) (P : Nat → Int) (L : Nat → Int) (h : Nat) (a : Nat) (M : Nat) (n : Nat) (f : Nat → Int32) (h2 : Nat) (a2 : Nat) (M2 : Nat) (n2 : Nat) (g : Nat → Int32) (st : Nat) (i : Nat) (hM : M ≤ 900) (hn : n ≤ M) (hM2 : M2 ≤ 900) (hn2 : n2 ≤ M2) (hc : cnt ≤ 300) (hi : i < cnt) (hPi : 0 ≤ P i ∧ 0 ≤ L i) (hs : (st : Int) + L i ≤ n) (ht : P i + L i ≤ n2) : MV l yX1_move wsX1_move rm_c_Placer_move D (kT cI cZ) [.ref hq, .ref h, .int (iI ((st : Nat) : Int)), .ref h2, .int (iI ((i : Nat) : Int))] [(hq, .inr (1, [.ref hp, .ref h5, .ref h6, .ref aa, .ref ar, .ref ax, .int (iI ((dn : Nat) : Int))])), (hp, .inr (2, [.ref ob, .ref og, .ref ap, .ref al, .ref aq, .int (iI ((cnt : Nat) : Int))])), (ap, .inl (cI, 300, .inl (kA P))), (al, .inl (cI, 300, .inl (kA L))), (h, .inr (3, [.ref a, .int (iI ((n : Nat) : Int))])), (a, .inl (cI, M, .inl f)), (h2, .inr (3, [.ref a2, .int (iI ((n2 : Nat) : Int))])), (a2, .inl (cI, M2, .inl g))] (fun (_ : Unit) => True) (fun (u : Unit) => match u with | _ => [(hq, .inr (1, [.ref hp, .ref h5, .ref h6, .ref aa, .ref ar, .ref ax, .int (iI ((dn : Nat) : Int))])), (hp, .inr (2, [.ref ob, .ref og, .ref ap, .ref al, .ref aq, .int (iI ((cnt : Nat) : Int))])), (ap, .inl (cI, 300, .inl (kA P))), (al, .inl (cI, 300, .inl (kA L))), (h, .inr (3, [.ref a, .int (iI ((n : Nat) : Int))])), (a, .inl (cI, M, .inl f)), (h2, .inr (3, [.ref a2, .int (iI ((n2 : Nat) : Int))])), (a2, .inl (cI, M2, .inl (va_cpy f g st (P i).toNat (L i).toNat)))]) 0 0 := by
  intro sz
  refine k_of (cc := cX1_move) (maxL := 8) (ret := none) (by decide) rfl (Nat.le_of_ble_eq_true rfl) ?_
  intro p e s m args below meth c A Q hAe hQ hx hb hr hml hts hown hlocks hnm hP hK hD hS hA ls hl
  have hl : lv_has ls 8 [(0, .ref hq), (1, .ref h), (2, .int (iI ((st : Nat) : Int))), (3, .ref h2), (4, .int (iI ((i : Nat) : Int)))] := hl
  have hi_X1 : ∀ w ∈ u_ws RX1 TX1 7, w ∈ wsX1_move := fun w h => km (ikX1 w h)
  have fl9 := hts _ (km wm133)
  refine lv_aload_n hx hb dX1_move_0 rfl (lv_at hl 0 rfl) ?_
  refine va_get (D := D) (ci := 1) (v := .ref hp) (C := RX1) (T := TX1) (N := 7) hx hb hts hi_X1 hown hK hP 0 rfl rfl 0 (by decide) fl9 (fun _ h9 => h9) rfl dX1_move_1 ?_
  refine lv_iload hx hb dX1_move_4 (lv_at hl 4 rfl) ?_
  refine k_calli (wc := [(hp, .inr (2, [.ref ob, .ref og, .ref ap, .ref al, .ref aq, .int (iI ((cnt : Nat) : Int))])), (ap, .inl (cI, 300, .inl (kA P)))]) (wr := [(hq, .inr (1, [.ref hp, .ref h5, .ref h6, .ref aa, .ref ar, .ref ax, .int (iI ((dn : Nat) : Int))])), (al, .inl (cI, 300, .inl (kA L))), (h, .inr (3, [.ref a, .int (iI ((n : Nat) : Int))])), (a, .inl (cI, M, .inl f)), (h2, .inr (3, [.ref a2, .int (iI ((n2 : Nat) : Int))])), (a2, .inl (cI, M2, .inl g))]) (wf := fun _ => [(hq, .inr (1, [.ref hp, .ref h5, .ref h6, .ref aa, .ref ar, .ref ax, .int (iI ((dn : Nat) : Int))])), (hp, .inr (2, [.ref ob, .ref og, .ref ap, .ref al, .ref aq, .int (iI ((cnt : Nat) : Int))])), (ap, .inl (cI, 300, .inl (kA P))), (al, .inl (cI, 300, .inl (kA L))), (h, .inr (3, [.ref a, .int (iI ((n : Nat) : Int))])), (a, .inl (cI, M, .inl f)), (h2, .inr (3, [.ref a2, .int (iI ((n2 : Nat) : Int))])), (a2, .inl (cI, M2, .inl g))]) hK hP hD hS hA [1, 2] [0, 3, 4, 5, 6, 7] [0, 6, 7, 1, 2, 3, 4, 5] ⟨⟨rfl, rfl, by decide⟩, rfl, by decide, by decide⟩ (fun _ => ⟨rfl, rfl⟩) (by decide) (fun hPc hDc => va_runV (As := [.int (iI ((i : Nat) : Int))]) (rest := []) ⟨hx, hb, hml, hown, hts⟩ (c_Plan_placek l D cI cZ (hp := hp) (ob := ob) (og := og) (ap := ap) (al := al) (aq := aq) (cnt := cnt) (F := P) (k := i) (hc := by omega) (hk := by omega) _) (cwV 1 hts (kgV wm449 wm298 wm299 wm41 wmcX2_place) rfl rfl rfl (by decide +kernel) ⟨Nat.le_of_ble_eq_true rfl, Nat.le_of_ble_eq_true rfl⟩) (k_preV hK hPc hDc (ci := 2) (q0 := 0) rfl rfl) rfl rfl hl.1 rfl (lv_room (Nat.le_of_ble_eq_true rfl)) dX1_move_6 ⟨Nat.le_of_ble_eq_true rfl, Nat.le_of_ble_eq_true rfl⟩) (fun r6 u H locs hw hP hD hS => ?_)
  have hP : va_P D vwCl [(hq, .inr (1, [.ref hp, .ref h5, .ref h6, .ref aa, .ref ar, .ref ax, .int (iI ((dn : Nat) : Int))])), (hp, .inr (2, [.ref ob, .ref og, .ref ap, .ref al, .ref aq, .int (iI ((cnt : Nat) : Int))])), (ap, .inl (cI, 300, .inl (kA P))), (al, .inl (cI, 300, .inl (kA L))), (h, .inr (3, [.ref a, .int (iI ((n : Nat) : Int))])), (a, .inl (cI, M, .inl f)), (h2, .inr (3, [.ref a2, .int (iI ((n2 : Nat) : Int))])), (a2, .inl (cI, M2, .inl g))] H := hP
  have hD : va_D A [(hq, .inr (1, [.ref hp, .ref h5, .ref h6, .ref aa, .ref ar, .ref ax, .int (iI ((dn : Nat) : Int))])), (hp, .inr (2, [.ref ob, .ref og, .ref ap, .ref al, .ref aq, .int (iI ((cnt : Nat) : Int))])), (ap, .inl (cI, 300, .inl (kA P))), (al, .inl (cI, 300, .inl (kA L))), (h, .inr (3, [.ref a, .int (iI ((n : Nat) : Int))])), (a, .inl (cI, M, .inl f)), (h2, .inr (3, [.ref a2, .int (iI ((n2 : Nat) : Int))])), (a2, .inl (cI, M2, .inl g))] := hD
  refine W.widen (k := 0) (n := 0) (Nat.le_of_ble_eq_true rfl) (Nat.le_of_ble_eq_true rfl) ?_
  have hw : r6 = iI (((P i).toNat : Nat) : Int) := hw.trans (congrArg iI (by omega))
  subst hw
  refine lv_istore (lv' := [(5, .int (iI (((P i).toNat : Nat) : Int))), (0, .ref hq), (1, .ref h), (2, .int (iI ((st : Nat) : Int))), (3, .ref h2), (4, .int (iI ((i : Nat) : Int)))]) hx hb dX1_move_9 hl (by decide) rfl (fun ls hl => ?_)
  refine lv_aload_n hx hb dX1_move_11 rfl (lv_at hl 1 rfl) ?_
  refine va_get (D := D) (ci := 1) (v := .ref hp) (C := RX1) (T := TX1) (N := 7) hx hb hts hi_X1 hown hK hP 0 rfl rfl 0 (by decide) fl9 (fun _ h9 => h9) rfl dX1_move_12 ?_
  refine lv_iload hx hb dX1_move_15 (lv_at hl 5 rfl) ?_
  refine k_calli (wc := [(hp, .inr (2, [.ref ob, .ref og, .ref ap, .ref al, .ref aq, .int (iI ((cnt : Nat) : Int))])), (al, .inl (cI, 300, .inl (kA L)))]) (wr := [(hq, .inr (1, [.ref hp, .ref h5, .ref h6, .ref aa, .ref ar, .ref ax, .int (iI ((dn : Nat) : Int))])), (ap, .inl (cI, 300, .inl (kA P))), (h, .inr (3, [.ref a, .int (iI ((n : Nat) : Int))])), (a, .inl (cI, M, .inl f)), (h2, .inr (3, [.ref a2, .int (iI ((n2 : Nat) : Int))])), (a2, .inl (cI, M2, .inl g))]) (wf := fun _ => [(hq, .inr (1, [.ref hp, .ref h5, .ref h6, .ref aa, .ref ar, .ref ax, .int (iI ((dn : Nat) : Int))])), (hp, .inr (2, [.ref ob, .ref og, .ref ap, .ref al, .ref aq, .int (iI ((cnt : Nat) : Int))])), (ap, .inl (cI, 300, .inl (kA P))), (al, .inl (cI, 300, .inl (kA L))), (h, .inr (3, [.ref a, .int (iI ((n : Nat) : Int))])), (a, .inl (cI, M, .inl f)), (h2, .inr (3, [.ref a2, .int (iI ((n2 : Nat) : Int))])), (a2, .inl (cI, M2, .inl g))]) hK hP hD hS hA [1, 3] [0, 2, 4, 5, 6, 7] [0, 6, 1, 7, 2, 3, 4, 5] ⟨⟨rfl, rfl, by decide⟩, rfl, by decide, by decide⟩ (fun _ => ⟨rfl, rfl⟩) (by decide) (fun hPc hDc => va_runV (As := [.int (iI ((i : Nat) : Int))]) (rest := []) ⟨hx, hb, hml, hown, hts⟩ (c_Plan_lengthk l D cI cZ (hp := hp) (ob := ob) (og := og) (ap := ap) (al := al) (aq := aq) (cnt := cnt) (F := L) (k := i) (hc := by omega) (hk := by omega) _) (cwV 1 hts (kgV wm450 wm269 wm270 wm41 wmcX2_length) rfl rfl rfl (by decide +kernel) ⟨Nat.le_of_ble_eq_true rfl, Nat.le_of_ble_eq_true rfl⟩) (k_preV hK hPc hDc (ci := 2) (q0 := 0) rfl rfl) rfl rfl hl.1 rfl (lv_room (Nat.le_of_ble_eq_true rfl)) dX1_move_17 ⟨Nat.le_of_ble_eq_true rfl, Nat.le_of_ble_eq_true rfl⟩) (fun r17 u H locs hw hP hD hS => ?_)
  have hP : va_P D vwCl [(hq, .inr (1, [.ref hp, .ref h5, .ref h6, .ref aa, .ref ar, .ref ax, .int (iI ((dn : Nat) : Int))])), (hp, .inr (2, [.ref ob, .ref og, .ref ap, .ref al, .ref aq, .int (iI ((cnt : Nat) : Int))])), (ap, .inl (cI, 300, .inl (kA P))), (al, .inl (cI, 300, .inl (kA L))), (h, .inr (3, [.ref a, .int (iI ((n : Nat) : Int))])), (a, .inl (cI, M, .inl f)), (h2, .inr (3, [.ref a2, .int (iI ((n2 : Nat) : Int))])), (a2, .inl (cI, M2, .inl g))] H := hP
  have hD : va_D A [(hq, .inr (1, [.ref hp, .ref h5, .ref h6, .ref aa, .ref ar, .ref ax, .int (iI ((dn : Nat) : Int))])), (hp, .inr (2, [.ref ob, .ref og, .ref ap, .ref al, .ref aq, .int (iI ((cnt : Nat) : Int))])), (ap, .inl (cI, 300, .inl (kA P))), (al, .inl (cI, 300, .inl (kA L))), (h, .inr (3, [.ref a, .int (iI ((n : Nat) : Int))])), (a, .inl (cI, M, .inl f)), (h2, .inr (3, [.ref a2, .int (iI ((n2 : Nat) : Int))])), (a2, .inl (cI, M2, .inl g))] := hD
  refine W.widen (k := 0) (n := 0) (Nat.le_of_ble_eq_true rfl) (Nat.le_of_ble_eq_true rfl) ?_
  have hw : r17 = iI (((L i).toNat : Nat) : Int) := hw.trans (congrArg iI (by omega))
  subst hw
  refine lv_istore (lv' := [(6, .int (iI (((L i).toNat : Nat) : Int))), (5, .int (iI (((P i).toNat : Nat) : Int))), (0, .ref hq), (1, .ref h), (2, .int (iI ((st : Nat) : Int))), (3, .ref h2), (4, .int (iI ((i : Nat) : Int)))]) hx hb dX1_move_20 hl (by decide) rfl (fun ls hl => ?_)
  refine lv_iconst (v := iI ((0 : Nat) : Int)) hx hb dX1_move_22 rfl ?_
  refine lv_istore (lv' := [(7, .int (iI ((0 : Nat) : Int))), (6, .int (iI (((L i).toNat : Nat) : Int))), (5, .int (iI (((P i).toNat : Nat) : Int))), (0, .ref hq), (1, .ref h), (2, .int (iI ((st : Nat) : Int))), (3, .ref h2), (4, .int (iI ((i : Nat) : Int)))]) hx hb dX1_move_23 hl (by decide) rfl (fun ls hl => ?_)
  have lp25 : ∀ (fu : Nat) (k : Nat) (H : Heap) (locs : List Loc) (ls : Array Slot), (L i).toNat - k < fu → (k ≤ (L i).toNat) → va_P D vwCl [(hq, .inr (1, [.ref hp, .ref h5, .ref h6, .ref aa, .ref ar, .ref ax, .int (iI ((dn : Nat) : Int))])), (hp, .inr (2, [.ref ob, .ref og, .ref ap, .ref al, .ref aq, .int (iI ((cnt : Nat) : Int))])), (ap, .inl (cI, 300, .inl (kA P))), (al, .inl (cI, 300, .inl (kA L))), (h, .inr (3, [.ref a, .int (iI ((n : Nat) : Int))])), (a, .inl (cI, M, .inl f)), (h2, .inr (3, [.ref a2, .int (iI ((n2 : Nat) : Int))])), (a2, .inl (cI, M2, .inl (va_cpy f g st (P i).toNat k)))] H → va_D A [(hq, .inr (1, [.ref hp, .ref h5, .ref h6, .ref aa, .ref ar, .ref ax, .int (iI ((dn : Nat) : Int))])), (hp, .inr (2, [.ref ob, .ref og, .ref ap, .ref al, .ref aq, .int (iI ((cnt : Nat) : Int))])), (ap, .inl (cI, 300, .inl (kA P))), (al, .inl (cI, 300, .inl (kA L))), (h, .inr (3, [.ref a, .int (iI ((n : Nat) : Int))])), (a, .inl (cI, M, .inl f)), (h2, .inr (3, [.ref a2, .int (iI ((n2 : Nat) : Int))])), (a2, .inl (cI, M2, .inl (va_cpy f g st (P i).toNat k)))] → va_S A s.heap H locs → lv_has ls 8 [(0, .ref hq), (1, .ref h), (2, .int (iI ((st : Nat) : Int))), (3, .ref h2), (5, .int (iI (((P i).toNat : Nat) : Int))), (6, .int (iI (((L i).toNat : Nat) : Int))), (7, .int (iI ((k : Nat) : Int)))] → W p l e rm_c_Placer_move s m args below meth c H locs 0 0 Q (F0 m 25 ls []) := by
    intro fu
    induction fu with
    | zero => intro k H locs ls hfu; exact absurd hfu (Nat.not_lt_zero _)
    | succ fu ih25 =>
      intro k H locs ls hfu hk hP hD hS hl
      refine lv_iload hx hb dX1_move_25 (lv_at hl 6 rfl) ?_
      refine lv_iload hx hb dX1_move_27 (lv_at hl 5 rfl) ?_
      refine lv_icmp_ge (tgt := 55) hx hb dX1_move_29 (by decide) (fun c29 => ?_) (fun c29 => ?_)
      · skip
        have c29 := iI_leT (a := (((L i).toNat : Nat) : Int)) (b := ((k : Nat) : Int)) c29 (by omega)
        obtain rfl : k = (L i).toNat := by omega
        exact k_vret () hx hb hr hlocks hK hP hD hS [0, 1, 2, 3, 4, 5, 6, 7] (by decide) rfl rfl (trivial) hAe hQ dX1_move_55
      · skip
        have c29 := iI_leF (a := (((L i).toNat : Nat) : Int)) (b := ((k : Nat) : Int)) c29 (by omega)
        refine lv_aload_n hx hb dX1_move_32 rfl (lv_at hl 3 rfl) ?_
        refine lv_iload hx hb dX1_move_33 (lv_at hl 4 rfl) ?_
        refine lv_iload hx hb dX1_move_35 (lv_at hl 6 rfl) ?_
        refine lv_iadd hx hb dX1_move_37 ?_
        refine kn_i (iA (c := ((((P i).toNat + k) : Nat) : Int)) (by omega)) ?_
        refine lv_aload_n hx hb dX1_move_38 rfl (lv_at hl 1 rfl) ?_
        refine lv_iload_n hx hb dX1_move_39 rfl (lv_at hl 2 rfl) ?_
        refine lv_iload hx hb dX1_move_40 (lv_at hl 6 rfl) ?_
        refine lv_iadd hx hb dX1_move_42 ?_
        refine kn_i (iA (c := (((st + k) : Nat) : Int)) (by omega)) ?_
        refine k_calli (wc := [(h, .inr (3, [.ref a, .int (iI ((n : Nat) : Int))])), (a, .inl (cI, M, .inl f))]) (wr := [(hq, .inr (1, [.ref hp, .ref h5, .ref h6, .ref aa, .ref ar, .ref ax, .int (iI ((dn : Nat) : Int))])), (hp, .inr (2, [.ref ob, .ref og, .ref ap, .ref al, .ref aq, .int (iI ((cnt : Nat) : Int))])), (ap, .inl (cI, 300, .inl (kA P))), (al, .inl (cI, 300, .inl (kA L))), (h2, .inr (3, [.ref a2, .int (iI ((n2 : Nat) : Int))])), (a2, .inl (cI, M2, .inl (va_cpy f g st (P i).toNat k)))]) (wf := fun _ => [(hq, .inr (1, [.ref hp, .ref h5, .ref h6, .ref aa, .ref ar, .ref ax, .int (iI ((dn : Nat) : Int))])), (hp, .inr (2, [.ref ob, .ref og, .ref ap, .ref al, .ref aq, .int (iI ((cnt : Nat) : Int))])), (ap, .inl (cI, 300, .inl (kA P))), (al, .inl (cI, 300, .inl (kA L))), (h, .inr (3, [.ref a, .int (iI ((n : Nat) : Int))])), (a, .inl (cI, M, .inl f)), (h2, .inr (3, [.ref a2, .int (iI ((n2 : Nat) : Int))])), (a2, .inl (cI, M2, .inl (va_cpy f g st (P i).toNat k)))]) hK hP hD hS hA [4, 5] [0, 1, 2, 3, 6, 7] [0, 1, 2, 3, 6, 7, 4, 5] ⟨⟨rfl, rfl, by decide⟩, rfl, by decide, by decide⟩ (fun _ => ⟨rfl, rfl⟩) (by decide) (fun hPc hDc => va_runV (As := [.int (iI (((st + k) : Nat) : Int))]) (rest := [.int (iI ((((P i).toNat + k) : Nat) : Int)), .ref h2]) ⟨hx, hb, hml, hown, hts⟩ (c_Row_atk l D cI cZ (h := h) (a := a) (M := M) (n := n) (f := f) (k := (st + k)) (hM := by omega) (hn := by omega) (hk := by omega) _) (cwV 1 hts (kgV wm451 wm225 wm226 wm39 wmcX3_at) rfl rfl rfl (by decide +kernel) ⟨Nat.le_of_ble_eq_true rfl, Nat.le_of_ble_eq_true rfl⟩) (k_preV hK hPc hDc (ci := 3) (q0 := 0) rfl rfl) rfl rfl hl.1 rfl (lv_room (Nat.le_of_ble_eq_true rfl)) dX1_move_43 ⟨Nat.le_of_ble_eq_true rfl, Nat.le_of_ble_eq_true rfl⟩) (fun r43 u H locs hw hP hD hS => ?_)
        have hP : va_P D vwCl [(hq, .inr (1, [.ref hp, .ref h5, .ref h6, .ref aa, .ref ar, .ref ax, .int (iI ((dn : Nat) : Int))])), (hp, .inr (2, [.ref ob, .ref og, .ref ap, .ref al, .ref aq, .int (iI ((cnt : Nat) : Int))])), (ap, .inl (cI, 300, .inl (kA P))), (al, .inl (cI, 300, .inl (kA L))), (h, .inr (3, [.ref a, .int (iI ((n : Nat) : Int))])), (a, .inl (cI, M, .inl f)), (h2, .inr (3, [.ref a2, .int (iI ((n2 : Nat) : Int))])), (a2, .inl (cI, M2, .inl (va_cpy f g st (P i).toNat k)))] H := hP
        have hD : va_D A [(hq, .inr (1, [.ref hp, .ref h5, .ref h6, .ref aa, .ref ar, .ref ax, .int (iI ((dn : Nat) : Int))])), (hp, .inr (2, [.ref ob, .ref og, .ref ap, .ref al, .ref aq, .int (iI ((cnt : Nat) : Int))])), (ap, .inl (cI, 300, .inl (kA P))), (al, .inl (cI, 300, .inl (kA L))), (h, .inr (3, [.ref a, .int (iI ((n : Nat) : Int))])), (a, .inl (cI, M, .inl f)), (h2, .inr (3, [.ref a2, .int (iI ((n2 : Nat) : Int))])), (a2, .inl (cI, M2, .inl (va_cpy f g st (P i).toNat k)))] := hD
        refine W.widen (k := 0) (n := 0) (Nat.le_of_ble_eq_true rfl) (Nat.le_of_ble_eq_true rfl) ?_
        have hw : r43 = (f (st + k)) := hw
        subst hw
        refine k_callv (wc := [(h2, .inr (3, [.ref a2, .int (iI ((n2 : Nat) : Int))])), (a2, .inl (cI, M2, .inl (va_cpy f g st (P i).toNat k)))]) (wr := [(hq, .inr (1, [.ref hp, .ref h5, .ref h6, .ref aa, .ref ar, .ref ax, .int (iI ((dn : Nat) : Int))])), (hp, .inr (2, [.ref ob, .ref og, .ref ap, .ref al, .ref aq, .int (iI ((cnt : Nat) : Int))])), (ap, .inl (cI, 300, .inl (kA P))), (al, .inl (cI, 300, .inl (kA L))), (h, .inr (3, [.ref a, .int (iI ((n : Nat) : Int))])), (a, .inl (cI, M, .inl f))]) (wf := fun _ => [(hq, .inr (1, [.ref hp, .ref h5, .ref h6, .ref aa, .ref ar, .ref ax, .int (iI ((dn : Nat) : Int))])), (hp, .inr (2, [.ref ob, .ref og, .ref ap, .ref al, .ref aq, .int (iI ((cnt : Nat) : Int))])), (ap, .inl (cI, 300, .inl (kA P))), (al, .inl (cI, 300, .inl (kA L))), (h, .inr (3, [.ref a, .int (iI ((n : Nat) : Int))])), (a, .inl (cI, M, .inl f)), (h2, .inr (3, [.ref a2, .int (iI ((n2 : Nat) : Int))])), (a2, .inl (cI, M2, .inl (upd (va_cpy f g st (P i).toNat k) ((P i).toNat + k) (f (st + k)))))]) hK hP hD hS hA [6, 7] [0, 1, 2, 3, 4, 5] [0, 1, 2, 3, 4, 5, 6, 7] ⟨⟨rfl, rfl, by decide⟩, rfl, by decide, by decide⟩ (fun _ => ⟨rfl, rfl⟩) (by decide) (fun hPc hDc => va_runV (As := [.int (iI ((((P i).toNat + k) : Nat) : Int)), .int (f (st + k))]) (rest := []) ⟨hx, hb, hml, hown, hts⟩ (c_Row_put l D cI cZ (h := h2) (a := a2) (M := M2) (n := n2) (f := (va_cpy f g st (P i).toNat k)) (k := ((P i).toNat + k)) (x := (f (st + k))) (hM := by omega) (hn := by omega) (hk := by omega) _) (cwV 2 hts (kgV wm452 wm453 wm454 wm39 wmcX3_put) rfl rfl rfl (by decide +kernel) ⟨Nat.le_of_ble_eq_true rfl, Nat.le_of_ble_eq_true rfl⟩) (k_preV hK hPc hDc (ci := 3) (q0 := 0) rfl rfl) rfl rfl hl.1 rfl (lv_room (Nat.le_of_ble_eq_true rfl)) dX1_move_46 ⟨Nat.le_of_ble_eq_true rfl, Nat.le_of_ble_eq_true rfl⟩) (fun u H locs hw hP hD hS => ?_)
        have hP : va_P D vwCl [(hq, .inr (1, [.ref hp, .ref h5, .ref h6, .ref aa, .ref ar, .ref ax, .int (iI ((dn : Nat) : Int))])), (hp, .inr (2, [.ref ob, .ref og, .ref ap, .ref al, .ref aq, .int (iI ((cnt : Nat) : Int))])), (ap, .inl (cI, 300, .inl (kA P))), (al, .inl (cI, 300, .inl (kA L))), (h, .inr (3, [.ref a, .int (iI ((n : Nat) : Int))])), (a, .inl (cI, M, .inl f)), (h2, .inr (3, [.ref a2, .int (iI ((n2 : Nat) : Int))])), (a2, .inl (cI, M2, .inl (upd (va_cpy f g st (P i).toNat k) ((P i).toNat + k) (f (st + k)))))] H := hP
        have hD : va_D A [(hq, .inr (1, [.ref hp, .ref h5, .ref h6, .ref aa, .ref ar, .ref ax, .int (iI ((dn : Nat) : Int))])), (hp, .inr (2, [.ref ob, .ref og, .ref ap, .ref al, .ref aq, .int (iI ((cnt : Nat) : Int))])), (ap, .inl (cI, 300, .inl (kA P))), (al, .inl (cI, 300, .inl (kA L))), (h, .inr (3, [.ref a, .int (iI ((n : Nat) : Int))])), (a, .inl (cI, M, .inl f)), (h2, .inr (3, [.ref a2, .int (iI ((n2 : Nat) : Int))])), (a2, .inl (cI, M2, .inl (upd (va_cpy f g st (P i).toNat k) ((P i).toNat + k) (f (st + k)))))] := hD
        refine W.widen (k := 0) (n := 0) (Nat.le_of_ble_eq_true rfl) (Nat.le_of_ble_eq_true rfl) ?_
        rw [show (upd (va_cpy f g st (P i).toNat k) ((P i).toNat + k) (f (st + k))) = (va_cpy f g st (P i).toNat (k + 1)) from cpy_s] at hP hD
        refine lv_iinc (v := iI ((k + 1 : Nat) : Int)) (lv' := [(7, .int (iI ((k + 1 : Nat) : Int))), (0, .ref hq), (1, .ref h), (2, .int (iI ((st : Nat) : Int))), (3, .ref h2), (5, .int (iI (((P i).toNat : Nat) : Int))), (6, .int (iI (((L i).toNat : Nat) : Int)))]) hx hb dX1_move_49 hl (k := 6) rfl (iA (by omega)) (by decide) rfl (fun ls hl => ?_)
        refine lv_goto (tgt := 25) hx hb dX1_move_52 (by decide) ?_
        exact ih25 (k + 1) _ _ _ (by omega) (by omega) hP hD hS (lv_sub hl [1, 2, 3, 4, 5, 6, 0] rfl)
  rw [show g = (va_cpy f g st (P i).toNat 0) from cpy_0.symm] at hP hD
  exact lp25 _ 0 _ _ _ (Nat.lt_succ_self _) (by omega) hP hD hS (lv_sub hl [3, 4, 5, 6, 2, 1, 0] rfl)

abbrev rm_c_Placer_changeBlockers : Room := { frames := 2, cells := 0, slots := 0, locals := 43 }
set_option maxHeartbeats 4000000 in
set_option maxRecDepth 100000 in
theorem c_Placer_changeBlockers (l : Launch) (D : va_G) (cI cZ : ClassId) (hq : Nat) (hp : Nat) (h5 : Nat) (h6 : Nat) (aa : Nat) (ar : Nat) (ax : Nat) (dn : Nat) (ob : Nat) (og : Nat) (ap : Nat) (al : Nat) (aq : Nat) (cnt : Nat) (P : Nat → Int) (L : Nat → Int) (S : Nat → Int) (nb : Nat) (ng : Nat) (B0 : Nat → Int) (q : Nat) (c0 : Int) (hW : LW P L S cnt nb ng) (hnb : nb ≤ 300) (hng : ng ≤ 300) (hqc : q < cnt) : MV l yX1_changeBlockers wsX1_changeBlockers rm_c_Placer_changeBlockers D (kT cI cZ) [.ref hq, .int (iI ((q : Nat) : Int)), .int (iI (c0 : Int))] [(hq, .inr (1, [.ref hp, .ref h5, .ref h6, .ref aa, .ref ar, .ref ax, .int (iI ((dn : Nat) : Int))])), (hp, .inr (2, [.ref ob, .ref og, .ref ap, .ref al, .ref aq, .int (iI ((cnt : Nat) : Int))])), (ap, .inl (cI, 300, .inl (kA P))), (al, .inl (cI, 300, .inl (kA L))), (aq, .inl (cI, 300, .inl (kA S))), (ax, .inl (cI, 300, .inl (kA B0)))] (fun (_ : Unit) => True) (fun (u : Unit) => match u with | _ => [(hq, .inr (1, [.ref hp, .ref h5, .ref h6, .ref aa, .ref ar, .ref ax, .int (iI ((dn : Nat) : Int))])), (hp, .inr (2, [.ref ob, .ref og, .ref ap, .ref al, .ref aq, .int (iI ((cnt : Nat) : Int))])), (ap, .inl (cI, 300, .inl (kA P))), (al, .inl (cI, 300, .inl (kA L))), (aq, .inl (cI, 300, .inl (kA S))), (ax, .inl (cI, 300, .inl (kA (chB P L S q c0 cnt B0))))]) 0 0 := by
  intro sz
  refine k_of (cc := cX1_changeBlockers) (maxL := 4) (ret := none) (by decide) rfl (Nat.le_of_ble_eq_true rfl) ?_
  intro p e s m args below meth c A Q hAe hQ hx hb hr hml hts hown hlocks hnm hP hK hD hS hA ls hl
  have hl : lv_has ls 4 [(0, .ref hq), (1, .int (iI ((q : Nat) : Int))), (2, .int (iI (c0 : Int)))] := hl
  have hi_X1 : ∀ w ∈ u_ws RX1 TX1 7, w ∈ wsX1_changeBlockers := fun w h => km (ikX1 w h)
  have fl9 := hts _ (km wm133)
  have fl35 := hts _ (km wm138)
  have hcn := hW.2.2.2.2
  have hwq := hW.1 q hqc
  refine lv_iconst (v := iI ((0 : Nat) : Int)) hx hb dX1_changeBlockers_0 rfl ?_
  refine lv_istore_n (lv' := [(3, .int (iI ((0 : Nat) : Int))), (0, .ref hq), (1, .int (iI ((q : Nat) : Int))), (2, .int (iI (c0 : Int)))]) hx hb dX1_changeBlockers_1 rfl hl (by decide) rfl (fun ls hl => ?_)
  have lp2 : ∀ (fu : Nat) (k : Nat) (H : Heap) (locs : List Loc) (ls : Array Slot), cnt - k < fu → (k ≤ cnt) → va_P D vwCl [(hq, .inr (1, [.ref hp, .ref h5, .ref h6, .ref aa, .ref ar, .ref ax, .int (iI ((dn : Nat) : Int))])), (hp, .inr (2, [.ref ob, .ref og, .ref ap, .ref al, .ref aq, .int (iI ((cnt : Nat) : Int))])), (ap, .inl (cI, 300, .inl (kA P))), (al, .inl (cI, 300, .inl (kA L))), (aq, .inl (cI, 300, .inl (kA S))), (ax, .inl (cI, 300, .inl (kA (chB P L S q c0 k B0))))] H → va_D A [(hq, .inr (1, [.ref hp, .ref h5, .ref h6, .ref aa, .ref ar, .ref ax, .int (iI ((dn : Nat) : Int))])), (hp, .inr (2, [.ref ob, .ref og, .ref ap, .ref al, .ref aq, .int (iI ((cnt : Nat) : Int))])), (ap, .inl (cI, 300, .inl (kA P))), (al, .inl (cI, 300, .inl (kA L))), (aq, .inl (cI, 300, .inl (kA S))), (ax, .inl (cI, 300, .inl (kA (chB P L S q c0 k B0))))] → va_S A s.heap H locs → lv_has ls 4 [(0, .ref hq), (1, .int (iI ((q : Nat) : Int))), (2, .int (iI (c0 : Int))), (3, .int (iI ((k : Nat) : Int)))] → W p l e rm_c_Placer_changeBlockers s m args below meth c H locs 0 0 Q (F0 m 2 ls []) := by
    intro fu
    induction fu with
    | zero => intro k H locs ls hfu; exact absurd hfu (Nat.not_lt_zero _)
    | succ fu ih2 =>
      intro k H locs ls hfu hk hP hD hS hl
      refine lv_iload_n hx hb dX1_changeBlockers_2 rfl (lv_at hl 3 rfl) ?_
      refine lv_aload_n hx hb dX1_changeBlockers_3 rfl (lv_at hl 0 rfl) ?_
      refine va_get (D := D) (ci := 1) (v := .ref hp) (C := RX1) (T := TX1) (N := 7) hx hb hts hi_X1 hown hK hP 0 rfl rfl 0 (by decide) fl9 (fun _ h9 => h9) rfl dX1_changeBlockers_4 ?_
      refine k_calli (wc := [(hp, .inr (2, [.ref ob, .ref og, .ref ap, .ref al, .ref aq, .int (iI ((cnt : Nat) : Int))]))]) (wr := [(hq, .inr (1, [.ref hp, .ref h5, .ref h6, .ref aa, .ref ar, .ref ax, .int (iI ((dn : Nat) : Int))])), (ap, .inl (cI, 300, .inl (kA P))), (al, .inl (cI, 300, .inl (kA L))), (aq, .inl (cI, 300, .inl (kA S))), (ax, .inl (cI, 300, .inl (kA (chB P L S q c0 k B0))))]) (wf := fun _ => [(hq, .inr (1, [.ref hp, .ref h5, .ref h6, .ref aa, .ref ar, .ref ax, .int (iI ((dn : Nat) : Int))])), (hp, .inr (2, [.ref ob, .ref og, .ref ap, .ref al, .ref aq, .int (iI ((cnt : Nat) : Int))])), (ap, .inl (cI, 300, .inl (kA P))), (al, .inl (cI, 300, .inl (kA L))), (aq, .inl (cI, 300, .inl (kA S))), (ax, .inl (cI, 300, .inl (kA (chB P L S q c0 k B0))))]) hK hP hD hS hA [1] [0, 2, 3, 4, 5] [0, 5, 1, 2, 3, 4] ⟨⟨rfl, rfl, by decide⟩, rfl, by decide, by decide⟩ (fun _ => ⟨rfl, rfl⟩) (by decide) (fun hPc hDc => va_runV (As := []) (rest := [.int (iI ((k : Nat) : Int))]) ⟨hx, hb, hml, hown, hts⟩ (c_Plan_count l D cI cZ (hp := hp) (ob := ob) (og := og) (ap := ap) (al := al) (aq := aq) (cnt := cnt)  _) (cwV 0 hts (kgV wm416 wm316 wm317 wm41 wmcX2_count) rfl rfl rfl (by decide +kernel) ⟨Nat.le_of_ble_eq_true rfl, Nat.le_of_ble_eq_true rfl⟩) (k_preV hK hPc hDc (ci := 2) (q0 := 0) rfl rfl) rfl rfl hl.1 rfl (lv_room (Nat.le_of_ble_eq_true rfl)) dX1_changeBlockers_7 ⟨Nat.le_of_ble_eq_true rfl, Nat.le_of_ble_eq_true rfl⟩) (fun r7 u H locs hw hP hD hS => ?_)
      have hP : va_P D vwCl [(hq, .inr (1, [.ref hp, .ref h5, .ref h6, .ref aa, .ref ar, .ref ax, .int (iI ((dn : Nat) : Int))])), (hp, .inr (2, [.ref ob, .ref og, .ref ap, .ref al, .ref aq, .int (iI ((cnt : Nat) : Int))])), (ap, .inl (cI, 300, .inl (kA P))), (al, .inl (cI, 300, .inl (kA L))), (aq, .inl (cI, 300, .inl (kA S))), (ax, .inl (cI, 300, .inl (kA (chB P L S q c0 k B0))))] H := hP
      have hD : va_D A [(hq, .inr (1, [.ref hp, .ref h5, .ref h6, .ref aa, .ref ar, .ref ax, .int (iI ((dn : Nat) : Int))])), (hp, .inr (2, [.ref ob, .ref og, .ref ap, .ref al, .ref aq, .int (iI ((cnt : Nat) : Int))])), (ap, .inl (cI, 300, .inl (kA P))), (al, .inl (cI, 300, .inl (kA L))), (aq, .inl (cI, 300, .inl (kA S))), (ax, .inl (cI, 300, .inl (kA (chB P L S q c0 k B0))))] := hD
      refine W.widen (k := 0) (n := 0) (Nat.le_of_ble_eq_true rfl) (Nat.le_of_ble_eq_true rfl) ?_
      have hw : r7 = iI ((cnt : Nat) : Int) := hw
      subst hw
      refine lv_icmp_ge (tgt := 53) hx hb dX1_changeBlockers_10 (by decide) (fun c10 => ?_) (fun c10 => ?_)
      · skip
        have c10 := iI_leT (a := ((cnt : Nat) : Int)) (b := ((k : Nat) : Int)) c10 (by omega)
        obtain rfl : k = cnt := by omega
        exact k_vret () hx hb hr hlocks hK hP hD hS [0, 1, 2, 3, 4, 5] (by decide) rfl rfl (trivial) hAe hQ dX1_changeBlockers_53
      · skip
        have c10 := iI_leF (a := ((cnt : Nat) : Int)) (b := ((k : Nat) : Int)) c10 (by omega)
        have hwk := hW.1 k (by omega)
        refine lv_iload_n hx hb dX1_changeBlockers_13 rfl (lv_at hl 3 rfl) ?_
        refine lv_sipush (v := iI (300 : Int)) hx hb dX1_changeBlockers_14 (by decide) ?_
        refine lv_icmp_ge (tgt := 53) hx hb dX1_changeBlockers_17 (by decide) (fun c17 => ?_) (fun c17 => ?_)
        · skip
          have c17 := iI_leT (a := (300 : Int)) (b := ((k : Nat) : Int)) c17 (by omega)
          omega
        · skip
          have c17 := iI_leF (a := (300 : Int)) (b := ((k : Nat) : Int)) c17 (by omega)
          refine lv_iload_n hx hb dX1_changeBlockers_20 rfl (lv_at hl 3 rfl) ?_
          refine lv_iload_n hx hb dX1_changeBlockers_21 rfl (lv_at hl 1 rfl) ?_
          refine lv_icmp_eq (tgt := 47) hx hb dX1_changeBlockers_22 (by decide) (fun c22 => ?_) (fun c22 => ?_)
          · skip
            have c22 := iI_eqT (a := ((k : Nat) : Int)) (b := ((q : Nat) : Int)) c22 (by omega)
            refine lv_iinc (v := iI ((k + 1 : Nat) : Int)) (lv' := [(3, .int (iI ((k + 1 : Nat) : Int))), (0, .ref hq), (1, .int (iI ((q : Nat) : Int))), (2, .int (iI (c0 : Int)))]) hx hb dX1_changeBlockers_47 hl (k := 3) rfl (iA (by omega)) (by decide) rfl (fun ls hl => ?_)
            refine lv_goto (tgt := 2) hx hb dX1_changeBlockers_50 (by decide) ?_
            have hP9 : va_P D vwCl [(hq, .inr (1, [.ref hp, .ref h5, .ref h6, .ref aa, .ref ar, .ref ax, .int (iI ((dn : Nat) : Int))])), (hp, .inr (2, [.ref ob, .ref og, .ref ap, .ref al, .ref aq, .int (iI ((cnt : Nat) : Int))])), (ap, .inl (cI, 300, .inl (kA P))), (al, .inl (cI, 300, .inl (kA L))), (aq, .inl (cI, 300, .inl (kA S))), (ax, .inl (cI, 300, .inl (kA (chB P L S q c0 (k + 1) B0))))] H := by
              have hP := hP
              rw [chB_n (by omega)]
              exact hP
            have hD9 : va_D A [(hq, .inr (1, [.ref hp, .ref h5, .ref h6, .ref aa, .ref ar, .ref ax, .int (iI ((dn : Nat) : Int))])), (hp, .inr (2, [.ref ob, .ref og, .ref ap, .ref al, .ref aq, .int (iI ((cnt : Nat) : Int))])), (ap, .inl (cI, 300, .inl (kA P))), (al, .inl (cI, 300, .inl (kA L))), (aq, .inl (cI, 300, .inl (kA S))), (ax, .inl (cI, 300, .inl (kA (chB P L S q c0 (k + 1) B0))))] := by
              have hD := hD
              rw [chB_n (by omega)]
              exact hD
            exact ih2 (k + 1) _ _ _ (by omega) (by omega) hP9 hD9 hS (lv_sub hl [1, 2, 3, 0] rfl)
          · skip
            have c22 := iI_eqF (a := ((k : Nat) : Int)) (b := ((q : Nat) : Int)) c22 (by omega)
            refine lv_aload_n hx hb dX1_changeBlockers_25 rfl (lv_at hl 0 rfl) ?_
            refine va_get (D := D) (ci := 1) (v := .ref hp) (C := RX1) (T := TX1) (N := 7) hx hb hts hi_X1 hown hK hP 0 rfl rfl 0 (by decide) fl9 (fun _ h9 => h9) rfl dX1_changeBlockers_26 ?_
            refine lv_iload_n hx hb dX1_changeBlockers_29 rfl (lv_at hl 3 rfl) ?_
            refine lv_iload_n hx hb dX1_changeBlockers_30 rfl (lv_at hl 1 rfl) ?_
            refine k_calli (wc := [(hp, .inr (2, [.ref ob, .ref og, .ref ap, .ref al, .ref aq, .int (iI ((cnt : Nat) : Int))])), (ap, .inl (cI, 300, .inl (kA P))), (al, .inl (cI, 300, .inl (kA L))), (aq, .inl (cI, 300, .inl (kA S)))]) (wr := [(hq, .inr (1, [.ref hp, .ref h5, .ref h6, .ref aa, .ref ar, .ref ax, .int (iI ((dn : Nat) : Int))])), (ax, .inl (cI, 300, .inl (kA (chB P L S q c0 k B0))))]) (wf := fun _ => [(hq, .inr (1, [.ref hp, .ref h5, .ref h6, .ref aa, .ref ar, .ref ax, .int (iI ((dn : Nat) : Int))])), (hp, .inr (2, [.ref ob, .ref og, .ref ap, .ref al, .ref aq, .int (iI ((cnt : Nat) : Int))])), (ap, .inl (cI, 300, .inl (kA P))), (al, .inl (cI, 300, .inl (kA L))), (aq, .inl (cI, 300, .inl (kA S))), (ax, .inl (cI, 300, .inl (kA (chB P L S q c0 k B0))))]) hK hP hD hS hA [1, 2, 3, 4] [0, 5] [0, 2, 3, 4, 5, 1] ⟨⟨rfl, rfl, by decide⟩, rfl, by decide, by decide⟩ (fun _ => ⟨rfl, rfl⟩) (by decide) (fun hPc hDc => va_runV (As := [.int (iI ((k : Nat) : Int)), .int (iI ((q : Nat) : Int))]) (rest := []) ⟨hx, hb, hml, hown, hts⟩ (c_Plan_wwt l D cI cZ (hp := hp) (ob := ob) (og := og) (ap := ap) (al := al) (aq := aq) (cnt := cnt) (P := P) (L := L) (S := S) (i := k) (k := q) (hc := by omega) (hi := by omega) (hk := by omega) (hPi := by omega) (hLi := by omega) (hLk := by omega) (hSk := by omega) _) (cwV 2 hts (kgV wm422 wm423 wm424 wm41 wmcX2_writesWhereTakes) rfl rfl rfl (by decide +kernel) ⟨Nat.le_of_ble_eq_true rfl, Nat.le_of_ble_eq_true rfl⟩) (k_preV hK hPc hDc (ci := 2) (q0 := 0) rfl rfl) rfl rfl hl.1 rfl (lv_room (Nat.le_of_ble_eq_true rfl)) dX1_changeBlockers_31 ⟨Nat.le_of_ble_eq_true rfl, Nat.le_of_ble_eq_true rfl⟩) (fun r31 u H locs hw hP hD hS => ?_)
            have hP : va_P D vwCl [(hq, .inr (1, [.ref hp, .ref h5, .ref h6, .ref aa, .ref ar, .ref ax, .int (iI ((dn : Nat) : Int))])), (hp, .inr (2, [.ref ob, .ref og, .ref ap, .ref al, .ref aq, .int (iI ((cnt : Nat) : Int))])), (ap, .inl (cI, 300, .inl (kA P))), (al, .inl (cI, 300, .inl (kA L))), (aq, .inl (cI, 300, .inl (kA S))), (ax, .inl (cI, 300, .inl (kA (chB P L S q c0 k B0))))] H := hP
            have hD : va_D A [(hq, .inr (1, [.ref hp, .ref h5, .ref h6, .ref aa, .ref ar, .ref ax, .int (iI ((dn : Nat) : Int))])), (hp, .inr (2, [.ref ob, .ref og, .ref ap, .ref al, .ref aq, .int (iI ((cnt : Nat) : Int))])), (ap, .inl (cI, 300, .inl (kA P))), (al, .inl (cI, 300, .inl (kA L))), (aq, .inl (cI, 300, .inl (kA S))), (ax, .inl (cI, 300, .inl (kA (chB P L S q c0 k B0))))] := hD
            refine W.widen (k := 0) (n := 0) (Nat.le_of_ble_eq_true rfl) (Nat.le_of_ble_eq_true rfl) ?_
            have hw : r31 = kb (decide (P k < S q + L q ∧ S q < P k + L k)) := hw
            subst hw
            refine lv_if_eq (tgt := 47) hx hb dX1_changeBlockers_34 (by decide) (fun c34 => ?_) (fun c34 => ?_)
            · skip
              have c34 : ¬ (P k < S q + L q ∧ S q < P k + L k) := of_decide_eq_false (kb_T c34)
              refine lv_iinc (v := iI ((k + 1 : Nat) : Int)) (lv' := [(3, .int (iI ((k + 1 : Nat) : Int))), (0, .ref hq), (1, .int (iI ((q : Nat) : Int))), (2, .int (iI (c0 : Int)))]) hx hb dX1_changeBlockers_47 hl (k := 3) rfl (iA (by omega)) (by decide) rfl (fun ls hl => ?_)
              refine lv_goto (tgt := 2) hx hb dX1_changeBlockers_50 (by decide) ?_
              have hP9 : va_P D vwCl [(hq, .inr (1, [.ref hp, .ref h5, .ref h6, .ref aa, .ref ar, .ref ax, .int (iI ((dn : Nat) : Int))])), (hp, .inr (2, [.ref ob, .ref og, .ref ap, .ref al, .ref aq, .int (iI ((cnt : Nat) : Int))])), (ap, .inl (cI, 300, .inl (kA P))), (al, .inl (cI, 300, .inl (kA L))), (aq, .inl (cI, 300, .inl (kA S))), (ax, .inl (cI, 300, .inl (kA (chB P L S q c0 (k + 1) B0))))] H := by
                have hP := hP
                rw [chB_n (by omega)]
                exact hP
              have hD9 : va_D A [(hq, .inr (1, [.ref hp, .ref h5, .ref h6, .ref aa, .ref ar, .ref ax, .int (iI ((dn : Nat) : Int))])), (hp, .inr (2, [.ref ob, .ref og, .ref ap, .ref al, .ref aq, .int (iI ((cnt : Nat) : Int))])), (ap, .inl (cI, 300, .inl (kA P))), (al, .inl (cI, 300, .inl (kA L))), (aq, .inl (cI, 300, .inl (kA S))), (ax, .inl (cI, 300, .inl (kA (chB P L S q c0 (k + 1) B0))))] := by
                have hD := hD
                rw [chB_n (by omega)]
                exact hD
              exact ih2 (k + 1) _ _ _ (by omega) (by omega) hP9 hD9 hS (lv_sub hl [1, 2, 3, 0] rfl)
            · skip
              have c34 : P k < S q + L q ∧ S q < P k + L k := of_decide_eq_true (kb_F c34)
              refine lv_aload_n hx hb dX1_changeBlockers_37 rfl (lv_at hl 0 rfl) ?_
              refine va_get (D := D) (ci := 1) (v := .ref ax) (C := RX1) (T := TX1) (N := 7) hx hb hts hi_X1 hown hK hP 0 rfl rfl 5 (by decide) fl35 (fun _ h9 => h9) rfl dX1_changeBlockers_38 ?_
              refine lv_iload_n hx hb dX1_changeBlockers_41 rfl (lv_at hl 3 rfl) ?_
              refine lv_dup2_11 hx hb dX1_changeBlockers_42 rfl rfl ?_
              refine k_iald hx hb hK hP 5 0 rfl rfl k (by omega) dX1_changeBlockers_43 ?_
              refine kn_i (y := iI (B0 k : Int)) (show kA (chB P L S q c0 k B0) k = iI (B0 k) by unfold kA; rw [chB_k]) ?_
              refine lv_iload_n hx hb dX1_changeBlockers_44 rfl (lv_at hl 2 rfl) ?_
              refine lv_iadd hx hb dX1_changeBlockers_45 ?_
              refine kn_i (iA (c := (B0 k + c0 : Int)) (by omega)) ?_
              refine k_iast hx hb hK hP hD hS 5 0 rfl rfl k (by omega) dX1_changeBlockers_46 (fun H locs hP hD hS => ?_)
              have hP : va_P D vwCl [(hq, .inr (1, [.ref hp, .ref h5, .ref h6, .ref aa, .ref ar, .ref ax, .int (iI ((dn : Nat) : Int))])), (hp, .inr (2, [.ref ob, .ref og, .ref ap, .ref al, .ref aq, .int (iI ((cnt : Nat) : Int))])), (ap, .inl (cI, 300, .inl (kA P))), (al, .inl (cI, 300, .inl (kA L))), (aq, .inl (cI, 300, .inl (kA S))), (ax, .inl (cI, 300, .inl (upd (kA (chB P L S q c0 k B0)) k (iI (B0 k + c0 : Int)))))] H := hP
              have hD : va_D A [(hq, .inr (1, [.ref hp, .ref h5, .ref h6, .ref aa, .ref ar, .ref ax, .int (iI ((dn : Nat) : Int))])), (hp, .inr (2, [.ref ob, .ref og, .ref ap, .ref al, .ref aq, .int (iI ((cnt : Nat) : Int))])), (ap, .inl (cI, 300, .inl (kA P))), (al, .inl (cI, 300, .inl (kA L))), (aq, .inl (cI, 300, .inl (kA S))), (ax, .inl (cI, 300, .inl (upd (kA (chB P L S q c0 k B0)) k (iI (B0 k + c0 : Int)))))] := hD
              rw [show (upd (kA (chB P L S q c0 k B0)) k (iI (B0 k + c0 : Int))) = (kA (chB P L S q c0 (k + 1) B0)) from chB_y (by omega) c34] at hP hD
              refine lv_iinc (v := iI ((k + 1 : Nat) : Int)) (lv' := [(3, .int (iI ((k + 1 : Nat) : Int))), (0, .ref hq), (1, .int (iI ((q : Nat) : Int))), (2, .int (iI (c0 : Int)))]) hx hb dX1_changeBlockers_47 hl (k := 3) rfl (iA (by omega)) (by decide) rfl (fun ls hl => ?_)
              refine lv_goto (tgt := 2) hx hb dX1_changeBlockers_50 (by decide) ?_
              exact ih2 (k + 1) _ _ _ (by omega) (by omega) hP hD hS (lv_sub hl [1, 2, 3, 0] rfl)
  rw [show (kA B0) = (kA (chB P L S q c0 0 B0)) from by rw [chB_0]] at hP hD
  exact lp2 _ 0 _ _ _ (Nat.lt_succ_self _) (by omega) hP hD hS (lv_sub hl [1, 2, 3, 0] rfl)

abbrev rm_c_Placer_countBlockers : Room := { frames := 3, cells := 0, slots := 0, locals := 66 }
set_option maxHeartbeats 4000000 in
set_option maxRecDepth 100000 in
theorem c_Placer_countBlockers (l : Launch) (D : va_G) (cI cZ : ClassId) (hq : Nat) (hp : Nat) (h5 : Nat) (h6 : Nat) (aa : Nat) (ar : Nat) (ax : Nat) (dn : Nat) (ob : Nat) (og : Nat) (ap : Nat) (al : Nat) (aq : Nat) (cnt : Nat) (P : Nat → Int) (L : Nat → Int) (S : Nat → Int) (nb : Nat) (ng : Nat) (B0 : Nat → Int) (hW : LW P L S cnt nb ng) (hnb : nb ≤ 300) (hng : ng ≤ 300) : MV l yX1_countBlockers wsX1_countBlockers rm_c_Placer_countBlockers D (kT cI cZ) [.ref hq] [(hq, .inr (1, [.ref hp, .ref h5, .ref h6, .ref aa, .ref ar, .ref ax, .int (iI ((dn : Nat) : Int))])), (hp, .inr (2, [.ref ob, .ref og, .ref ap, .ref al, .ref aq, .int (iI ((cnt : Nat) : Int))])), (ap, .inl (cI, 300, .inl (kA P))), (al, .inl (cI, 300, .inl (kA L))), (aq, .inl (cI, 300, .inl (kA S))), (ax, .inl (cI, 300, .inl (kA B0)))] (fun (_ : Unit) => True) (fun (u : Unit) => match u with | _ => [(hq, .inr (1, [.ref hp, .ref h5, .ref h6, .ref aa, .ref ar, .ref ax, .int (iI ((dn : Nat) : Int))])), (hp, .inr (2, [.ref ob, .ref og, .ref ap, .ref al, .ref aq, .int (iI ((cnt : Nat) : Int))])), (ap, .inl (cI, 300, .inl (kA P))), (al, .inl (cI, 300, .inl (kA L))), (aq, .inl (cI, 300, .inl (kA S))), (ax, .inl (cI, 300, .inl (kA (cbF P L S cnt B0 cnt))))]) 0 0 := by
  intro sz
  refine k_of (cc := cX1_countBlockers) (maxL := 2) (ret := none) (by decide) rfl (Nat.le_of_ble_eq_true rfl) ?_
  intro p e s m args below meth c A Q hAe hQ hx hb hr hml hts hown hlocks hnm hP hK hD hS hA ls hl
  have hl : lv_has ls 2 [(0, .ref hq)] := hl
  have hi_X1 : ∀ w ∈ u_ws RX1 TX1 7, w ∈ wsX1_countBlockers := fun w h => km (ikX1 w h)
  have fl9 := hts _ (km wm133)
  have hcn := hW.2.2.2.2
  refine lv_iconst (v := iI ((0 : Nat) : Int)) hx hb dX1_countBlockers_0 rfl ?_
  refine lv_istore_n (lv' := [(1, .int (iI ((0 : Nat) : Int))), (0, .ref hq)]) hx hb dX1_countBlockers_1 rfl hl (by decide) rfl (fun ls hl => ?_)
  have lp2 : ∀ (fu : Nat) (k : Nat) (H : Heap) (locs : List Loc) (ls : Array Slot), cnt - k < fu → (k ≤ cnt) → va_P D vwCl [(hq, .inr (1, [.ref hp, .ref h5, .ref h6, .ref aa, .ref ar, .ref ax, .int (iI ((dn : Nat) : Int))])), (hp, .inr (2, [.ref ob, .ref og, .ref ap, .ref al, .ref aq, .int (iI ((cnt : Nat) : Int))])), (ap, .inl (cI, 300, .inl (kA P))), (al, .inl (cI, 300, .inl (kA L))), (aq, .inl (cI, 300, .inl (kA S))), (ax, .inl (cI, 300, .inl (kA (cbF P L S cnt B0 k))))] H → va_D A [(hq, .inr (1, [.ref hp, .ref h5, .ref h6, .ref aa, .ref ar, .ref ax, .int (iI ((dn : Nat) : Int))])), (hp, .inr (2, [.ref ob, .ref og, .ref ap, .ref al, .ref aq, .int (iI ((cnt : Nat) : Int))])), (ap, .inl (cI, 300, .inl (kA P))), (al, .inl (cI, 300, .inl (kA L))), (aq, .inl (cI, 300, .inl (kA S))), (ax, .inl (cI, 300, .inl (kA (cbF P L S cnt B0 k))))] → va_S A s.heap H locs → lv_has ls 2 [(0, .ref hq), (1, .int (iI ((k : Nat) : Int)))] → W p l e rm_c_Placer_countBlockers s m args below meth c H locs 0 0 Q (F0 m 2 ls []) := by
    intro fu
    induction fu with
    | zero => intro k H locs ls hfu; exact absurd hfu (Nat.not_lt_zero _)
    | succ fu ih2 =>
      intro k H locs ls hfu hk hP hD hS hl
      refine lv_iload_n hx hb dX1_countBlockers_2 rfl (lv_at hl 1 rfl) ?_
      refine lv_aload_n hx hb dX1_countBlockers_3 rfl (lv_at hl 0 rfl) ?_
      refine va_get (D := D) (ci := 1) (v := .ref hp) (C := RX1) (T := TX1) (N := 7) hx hb hts hi_X1 hown hK hP 0 rfl rfl 0 (by decide) fl9 (fun _ h9 => h9) rfl dX1_countBlockers_4 ?_
      refine k_calli (wc := [(hp, .inr (2, [.ref ob, .ref og, .ref ap, .ref al, .ref aq, .int (iI ((cnt : Nat) : Int))]))]) (wr := [(hq, .inr (1, [.ref hp, .ref h5, .ref h6, .ref aa, .ref ar, .ref ax, .int (iI ((dn : Nat) : Int))])), (ap, .inl (cI, 300, .inl (kA P))), (al, .inl (cI, 300, .inl (kA L))), (aq, .inl (cI, 300, .inl (kA S))), (ax, .inl (cI, 300, .inl (kA (cbF P L S cnt B0 k))))]) (wf := fun _ => [(hq, .inr (1, [.ref hp, .ref h5, .ref h6, .ref aa, .ref ar, .ref ax, .int (iI ((dn : Nat) : Int))])), (hp, .inr (2, [.ref ob, .ref og, .ref ap, .ref al, .ref aq, .int (iI ((cnt : Nat) : Int))])), (ap, .inl (cI, 300, .inl (kA P))), (al, .inl (cI, 300, .inl (kA L))), (aq, .inl (cI, 300, .inl (kA S))), (ax, .inl (cI, 300, .inl (kA (cbF P L S cnt B0 k))))]) hK hP hD hS hA [1] [0, 2, 3, 4, 5] [0, 5, 1, 2, 3, 4] ⟨⟨rfl, rfl, by decide⟩, rfl, by decide, by decide⟩ (fun _ => ⟨rfl, rfl⟩) (by decide) (fun hPc hDc => va_runV (As := []) (rest := [.int (iI ((k : Nat) : Int))]) ⟨hx, hb, hml, hown, hts⟩ (c_Plan_count l D cI cZ (hp := hp) (ob := ob) (og := og) (ap := ap) (al := al) (aq := aq) (cnt := cnt)  _) (cwV 0 hts (kgV wm416 wm316 wm317 wm41 wmcX2_count) rfl rfl rfl (by decide +kernel) ⟨Nat.le_of_ble_eq_true rfl, Nat.le_of_ble_eq_true rfl⟩) (k_preV hK hPc hDc (ci := 2) (q0 := 0) rfl rfl) rfl rfl hl.1 rfl (lv_room (Nat.le_of_ble_eq_true rfl)) dX1_countBlockers_7 ⟨Nat.le_of_ble_eq_true rfl, Nat.le_of_ble_eq_true rfl⟩) (fun r7 u H locs hw hP hD hS => ?_)
      have hP : va_P D vwCl [(hq, .inr (1, [.ref hp, .ref h5, .ref h6, .ref aa, .ref ar, .ref ax, .int (iI ((dn : Nat) : Int))])), (hp, .inr (2, [.ref ob, .ref og, .ref ap, .ref al, .ref aq, .int (iI ((cnt : Nat) : Int))])), (ap, .inl (cI, 300, .inl (kA P))), (al, .inl (cI, 300, .inl (kA L))), (aq, .inl (cI, 300, .inl (kA S))), (ax, .inl (cI, 300, .inl (kA (cbF P L S cnt B0 k))))] H := hP
      have hD : va_D A [(hq, .inr (1, [.ref hp, .ref h5, .ref h6, .ref aa, .ref ar, .ref ax, .int (iI ((dn : Nat) : Int))])), (hp, .inr (2, [.ref ob, .ref og, .ref ap, .ref al, .ref aq, .int (iI ((cnt : Nat) : Int))])), (ap, .inl (cI, 300, .inl (kA P))), (al, .inl (cI, 300, .inl (kA L))), (aq, .inl (cI, 300, .inl (kA S))), (ax, .inl (cI, 300, .inl (kA (cbF P L S cnt B0 k))))] := hD
      refine W.widen (k := 0) (n := 0) (Nat.le_of_ble_eq_true rfl) (Nat.le_of_ble_eq_true rfl) ?_
      have hw : r7 = iI ((cnt : Nat) : Int) := hw
      subst hw
      refine lv_icmp_ge (tgt := 36) hx hb dX1_countBlockers_10 (by decide) (fun c10 => ?_) (fun c10 => ?_)
      · skip
        have c10 := iI_leT (a := ((cnt : Nat) : Int)) (b := ((k : Nat) : Int)) c10 (by omega)
        obtain rfl : k = cnt := by omega
        exact k_vret () hx hb hr hlocks hK hP hD hS [0, 1, 2, 3, 4, 5] (by decide) rfl rfl (trivial) hAe hQ dX1_countBlockers_36
      · skip
        have c10 := iI_leF (a := ((cnt : Nat) : Int)) (b := ((k : Nat) : Int)) c10 (by omega)
        refine lv_aload_n hx hb dX1_countBlockers_13 rfl (lv_at hl 0 rfl) ?_
        refine va_get (D := D) (ci := 1) (v := .ref hp) (C := RX1) (T := TX1) (N := 7) hx hb hts hi_X1 hown hK hP 0 rfl rfl 0 (by decide) fl9 (fun _ h9 => h9) rfl dX1_countBlockers_14 ?_
        refine lv_iload_n hx hb dX1_countBlockers_17 rfl (lv_at hl 1 rfl) ?_
        refine k_calli (wc := [(hp, .inr (2, [.ref ob, .ref og, .ref ap, .ref al, .ref aq, .int (iI ((cnt : Nat) : Int))])), (aq, .inl (cI, 300, .inl (kA S)))]) (wr := [(hq, .inr (1, [.ref hp, .ref h5, .ref h6, .ref aa, .ref ar, .ref ax, .int (iI ((dn : Nat) : Int))])), (ap, .inl (cI, 300, .inl (kA P))), (al, .inl (cI, 300, .inl (kA L))), (ax, .inl (cI, 300, .inl (kA (cbF P L S cnt B0 k))))]) (wf := fun _ => [(hq, .inr (1, [.ref hp, .ref h5, .ref h6, .ref aa, .ref ar, .ref ax, .int (iI ((dn : Nat) : Int))])), (hp, .inr (2, [.ref ob, .ref og, .ref ap, .ref al, .ref aq, .int (iI ((cnt : Nat) : Int))])), (ap, .inl (cI, 300, .inl (kA P))), (al, .inl (cI, 300, .inl (kA L))), (aq, .inl (cI, 300, .inl (kA S))), (ax, .inl (cI, 300, .inl (kA (cbF P L S cnt B0 k))))]) hK hP hD hS hA [1, 4] [0, 2, 3, 5] [0, 4, 1, 2, 5, 3] ⟨⟨rfl, rfl, by decide⟩, rfl, by decide, by decide⟩ (fun _ => ⟨rfl, rfl⟩) (by decide) (fun hPc hDc => va_runV (As := [.int (iI ((k : Nat) : Int))]) (rest := []) ⟨hx, hb, hml, hown, hts⟩ (c_Plan_isCopyk l D cI cZ (hp := hp) (ob := ob) (og := og) (ap := ap) (al := al) (aq := aq) (cnt := cnt) (F := S) (k := k) (hc := by omega) (hk := by omega) (hF := fun j hj => by have := hW.1 j hj; omega) _) (cwV 1 hts (kgV wm417 wm261 wm262 wm41 wmcX2_isCopy) rfl rfl rfl (by decide +kernel) ⟨Nat.le_of_ble_eq_true rfl, Nat.le_of_ble_eq_true rfl⟩) (k_preV hK hPc hDc (ci := 2) (q0 := 0) rfl rfl) rfl rfl hl.1 rfl (lv_room (Nat.le_of_ble_eq_true rfl)) dX1_countBlockers_18 ⟨Nat.le_of_ble_eq_true rfl, Nat.le_of_ble_eq_true rfl⟩) (fun r18 u H locs hw hP hD hS => ?_)
        have hP : va_P D vwCl [(hq, .inr (1, [.ref hp, .ref h5, .ref h6, .ref aa, .ref ar, .ref ax, .int (iI ((dn : Nat) : Int))])), (hp, .inr (2, [.ref ob, .ref og, .ref ap, .ref al, .ref aq, .int (iI ((cnt : Nat) : Int))])), (ap, .inl (cI, 300, .inl (kA P))), (al, .inl (cI, 300, .inl (kA L))), (aq, .inl (cI, 300, .inl (kA S))), (ax, .inl (cI, 300, .inl (kA (cbF P L S cnt B0 k))))] H := hP
        have hD : va_D A [(hq, .inr (1, [.ref hp, .ref h5, .ref h6, .ref aa, .ref ar, .ref ax, .int (iI ((dn : Nat) : Int))])), (hp, .inr (2, [.ref ob, .ref og, .ref ap, .ref al, .ref aq, .int (iI ((cnt : Nat) : Int))])), (ap, .inl (cI, 300, .inl (kA P))), (al, .inl (cI, 300, .inl (kA L))), (aq, .inl (cI, 300, .inl (kA S))), (ax, .inl (cI, 300, .inl (kA (cbF P L S cnt B0 k))))] := hD
        refine W.widen (k := 0) (n := 0) (Nat.le_of_ble_eq_true rfl) (Nat.le_of_ble_eq_true rfl) ?_
        have hw : r18 = kb (decide (¬ S k = -1)) := hw
        subst hw
        refine lv_if_eq (tgt := 30) hx hb dX1_countBlockers_21 (by decide) (fun c21 => ?_) (fun c21 => ?_)
        · skip
          have c21 : ¬ (¬ S k = -1) := of_decide_eq_false (kb_T c21)
          refine lv_iinc (v := iI ((k + 1 : Nat) : Int)) (lv' := [(1, .int (iI ((k + 1 : Nat) : Int))), (0, .ref hq)]) hx hb dX1_countBlockers_30 hl (k := 1) rfl (iA (by omega)) (by decide) rfl (fun ls hl => ?_)
          refine lv_goto (tgt := 2) hx hb dX1_countBlockers_33 (by decide) ?_
          have hP9 : va_P D vwCl [(hq, .inr (1, [.ref hp, .ref h5, .ref h6, .ref aa, .ref ar, .ref ax, .int (iI ((dn : Nat) : Int))])), (hp, .inr (2, [.ref ob, .ref og, .ref ap, .ref al, .ref aq, .int (iI ((cnt : Nat) : Int))])), (ap, .inl (cI, 300, .inl (kA P))), (al, .inl (cI, 300, .inl (kA L))), (aq, .inl (cI, 300, .inl (kA S))), (ax, .inl (cI, 300, .inl (kA (cbF P L S cnt B0 (k + 1)))))] H := by
            have hP := hP
            rw [cbF, if_pos (by omega)]
            exact hP
          have hD9 : va_D A [(hq, .inr (1, [.ref hp, .ref h5, .ref h6, .ref aa, .ref ar, .ref ax, .int (iI ((dn : Nat) : Int))])), (hp, .inr (2, [.ref ob, .ref og, .ref ap, .ref al, .ref aq, .int (iI ((cnt : Nat) : Int))])), (ap, .inl (cI, 300, .inl (kA P))), (al, .inl (cI, 300, .inl (kA L))), (aq, .inl (cI, 300, .inl (kA S))), (ax, .inl (cI, 300, .inl (kA (cbF P L S cnt B0 (k + 1)))))] := by
            have hD := hD
            rw [cbF, if_pos (by omega)]
            exact hD
          exact ih2 (k + 1) _ _ _ (by omega) (by omega) hP9 hD9 hS (lv_sub hl [1, 0] rfl)
        · skip
          have c21 : ¬ S k = -1 := of_decide_eq_true (kb_F c21)
          refine lv_aload_n hx hb dX1_countBlockers_24 rfl (lv_at hl 0 rfl) ?_
          refine lv_iload_n hx hb dX1_countBlockers_25 rfl (lv_at hl 1 rfl) ?_
          refine lv_iconst (v := iI (1 : Int)) hx hb dX1_countBlockers_26 rfl ?_
          refine k_callv (wc := [(hq, .inr (1, [.ref hp, .ref h5, .ref h6, .ref aa, .ref ar, .ref ax, .int (iI ((dn : Nat) : Int))])), (hp, .inr (2, [.ref ob, .ref og, .ref ap, .ref al, .ref aq, .int (iI ((cnt : Nat) : Int))])), (ap, .inl (cI, 300, .inl (kA P))), (al, .inl (cI, 300, .inl (kA L))), (aq, .inl (cI, 300, .inl (kA S))), (ax, .inl (cI, 300, .inl (kA (cbF P L S cnt B0 k))))]) (wr := []) (wf := fun _ => [(hq, .inr (1, [.ref hp, .ref h5, .ref h6, .ref aa, .ref ar, .ref ax, .int (iI ((dn : Nat) : Int))])), (hp, .inr (2, [.ref ob, .ref og, .ref ap, .ref al, .ref aq, .int (iI ((cnt : Nat) : Int))])), (ap, .inl (cI, 300, .inl (kA P))), (al, .inl (cI, 300, .inl (kA L))), (aq, .inl (cI, 300, .inl (kA S))), (ax, .inl (cI, 300, .inl (kA (chB P L S k 1 cnt (cbF P L S cnt B0 k)))))]) hK hP hD hS hA [0, 1, 2, 3, 4, 5] [] [0, 1, 2, 3, 4, 5] ⟨⟨rfl, rfl, by decide⟩, rfl, by decide, by decide⟩ (fun _ => ⟨rfl, rfl⟩) (by decide) (fun hPc hDc => va_runV (As := [.int (iI ((k : Nat) : Int)), .int (iI (1 : Int))]) (rest := []) ⟨hx, hb, hml, hown, hts⟩ (c_Placer_changeBlockers l D cI cZ (hq := hq) (hp := hp) (h5 := h5) (h6 := h6) (aa := aa) (ar := ar) (ax := ax) (dn := dn) (ob := ob) (og := og) (ap := ap) (al := al) (aq := aq) (cnt := cnt) (P := P) (L := L) (S := S) (nb := nb) (ng := ng) (B0 := (cbF P L S cnt B0 k)) (q := k) (c0 := 1) (hW := hW) (hnb := hnb) (hng := hng) (hqc := by omega) _) (cwV 2 hts (kgV wm418 wm420 wm14 wm43 wmcX1_changeBlockers) rfl rfl rfl (by decide +kernel) ⟨Nat.le_of_ble_eq_true rfl, Nat.le_of_ble_eq_true rfl⟩) (k_preV hK hPc hDc (ci := 1) (q0 := 0) rfl rfl) rfl rfl hl.1 rfl (lv_room (Nat.le_of_ble_eq_true rfl)) dX1_countBlockers_27 ⟨Nat.le_of_ble_eq_true rfl, Nat.le_of_ble_eq_true rfl⟩) (fun u H locs hw hP hD hS => ?_)
          have hP : va_P D vwCl [(hq, .inr (1, [.ref hp, .ref h5, .ref h6, .ref aa, .ref ar, .ref ax, .int (iI ((dn : Nat) : Int))])), (hp, .inr (2, [.ref ob, .ref og, .ref ap, .ref al, .ref aq, .int (iI ((cnt : Nat) : Int))])), (ap, .inl (cI, 300, .inl (kA P))), (al, .inl (cI, 300, .inl (kA L))), (aq, .inl (cI, 300, .inl (kA S))), (ax, .inl (cI, 300, .inl (kA (chB P L S k 1 cnt (cbF P L S cnt B0 k)))))] H := hP
          have hD : va_D A [(hq, .inr (1, [.ref hp, .ref h5, .ref h6, .ref aa, .ref ar, .ref ax, .int (iI ((dn : Nat) : Int))])), (hp, .inr (2, [.ref ob, .ref og, .ref ap, .ref al, .ref aq, .int (iI ((cnt : Nat) : Int))])), (ap, .inl (cI, 300, .inl (kA P))), (al, .inl (cI, 300, .inl (kA L))), (aq, .inl (cI, 300, .inl (kA S))), (ax, .inl (cI, 300, .inl (kA (chB P L S k 1 cnt (cbF P L S cnt B0 k)))))] := hD
          refine W.widen (k := 0) (n := 0) (Nat.le_of_ble_eq_true rfl) (Nat.le_of_ble_eq_true rfl) ?_
          refine lv_iinc (v := iI ((k + 1 : Nat) : Int)) (lv' := [(1, .int (iI ((k + 1 : Nat) : Int))), (0, .ref hq)]) hx hb dX1_countBlockers_30 hl (k := 1) rfl (iA (by omega)) (by decide) rfl (fun ls hl => ?_)
          refine lv_goto (tgt := 2) hx hb dX1_countBlockers_33 (by decide) ?_
          have hP9 : va_P D vwCl [(hq, .inr (1, [.ref hp, .ref h5, .ref h6, .ref aa, .ref ar, .ref ax, .int (iI ((dn : Nat) : Int))])), (hp, .inr (2, [.ref ob, .ref og, .ref ap, .ref al, .ref aq, .int (iI ((cnt : Nat) : Int))])), (ap, .inl (cI, 300, .inl (kA P))), (al, .inl (cI, 300, .inl (kA L))), (aq, .inl (cI, 300, .inl (kA S))), (ax, .inl (cI, 300, .inl (kA (cbF P L S cnt B0 (k + 1)))))] H := by
            have hP := hP
            rw [cbF, if_neg c21]
            exact hP
          have hD9 : va_D A [(hq, .inr (1, [.ref hp, .ref h5, .ref h6, .ref aa, .ref ar, .ref ax, .int (iI ((dn : Nat) : Int))])), (hp, .inr (2, [.ref ob, .ref og, .ref ap, .ref al, .ref aq, .int (iI ((cnt : Nat) : Int))])), (ap, .inl (cI, 300, .inl (kA P))), (al, .inl (cI, 300, .inl (kA L))), (aq, .inl (cI, 300, .inl (kA S))), (ax, .inl (cI, 300, .inl (kA (cbF P L S cnt B0 (k + 1)))))] := by
            have hD := hD
            rw [cbF, if_neg c21]
            exact hD
          exact ih2 (k + 1) _ _ _ (by omega) (by omega) hP9 hD9 hS (lv_sub hl [1, 0] rfl)
  exact lp2 _ 0 _ _ _ (Nat.lt_succ_self _) (by omega) hP hD hS (lv_sub hl [1, 0] rfl)

abbrev rm_c_Placer_nextFree : Room := { frames := 1, cells := 0, slots := 0, locals := 20 }
set_option maxHeartbeats 4000000 in
set_option maxRecDepth 100000 in
theorem c_Placer_nextFree (l : Launch) (D : va_G) (cI cZ : ClassId) (hq : Nat) (hp : Nat) (h5 : Nat) (h6 : Nat) (aa : Nat) (ar : Nat) (ax : Nat) (dn : Nat) (ob : Nat) (og : Nat) (ap : Nat) (al : Nat) (aq : Nat) (cnt : Nat) (T0 : Nat → Int) (B0 : Nat → Int) (hc : cnt ≤ 300) (hTr : ∀ i, i < cnt → -1 ≤ T0 i ∧ T0 i ≤ 1000) (hBr : ∀ i, i < cnt → -2000 ≤ B0 i ∧ B0 i ≤ 2000) : MI l yX1_nextFree wsX1_nextFree rm_c_Placer_nextFree D (kT cI cZ) [.ref hq] [(hq, .inr (1, [.ref hp, .ref h5, .ref h6, .ref aa, .ref ar, .ref ax, .int (iI ((dn : Nat) : Int))])), (hp, .inr (2, [.ref ob, .ref og, .ref ap, .ref al, .ref aq, .int (iI ((cnt : Nat) : Int))])), (ar, .inl (cI, 300, .inl (kA T0))), (ax, .inl (cI, 300, .inl (kA B0)))] (fun (r : Int32) (_ : Unit) => r = iI (nfF T0 B0 cnt 0 : Int)) (fun (u : Unit) => match u with | _ => [(hq, .inr (1, [.ref hp, .ref h5, .ref h6, .ref aa, .ref ar, .ref ax, .int (iI ((dn : Nat) : Int))])), (hp, .inr (2, [.ref ob, .ref og, .ref ap, .ref al, .ref aq, .int (iI ((cnt : Nat) : Int))])), (ar, .inl (cI, 300, .inl (kA T0))), (ax, .inl (cI, 300, .inl (kA B0)))]) 0 0 := by
  intro sz
  refine k_of (cc := cX1_nextFree) (maxL := 2) (ret := (some .int)) (by decide) rfl (Nat.le_of_ble_eq_true rfl) ?_
  intro p e s m args below meth c A Q hAe hQ hx hb hr hml hts hown hlocks hnm hP hK hD hS hA ls hl
  have hl : lv_has ls 2 [(0, .ref hq)] := hl
  have hi_X1 : ∀ w ∈ u_ws RX1 TX1 7, w ∈ wsX1_nextFree := fun w h => km (ikX1 w h)
  have fl9 := hts _ (km wm133)
  have fl31 := hts _ (km wm137)
  have fl35 := hts _ (km wm138)
  refine lv_iconst (v := iI ((0 : Nat) : Int)) hx hb dX1_nextFree_0 rfl ?_
  refine lv_istore_n (lv' := [(1, .int (iI ((0 : Nat) : Int))), (0, .ref hq)]) hx hb dX1_nextFree_1 rfl hl (by decide) rfl (fun ls hl => ?_)
  have lp2 : ∀ (fu : Nat) (k : Nat) (H : Heap) (locs : List Loc) (ls : Array Slot), cnt - k < fu → (k ≤ cnt) → (nfF T0 B0 (cnt - k) k = nfF T0 B0 cnt 0) → va_P D vwCl [(hq, .inr (1, [.ref hp, .ref h5, .ref h6, .ref aa, .ref ar, .ref ax, .int (iI ((dn : Nat) : Int))])), (hp, .inr (2, [.ref ob, .ref og, .ref ap, .ref al, .ref aq, .int (iI ((cnt : Nat) : Int))])), (ar, .inl (cI, 300, .inl (kA T0))), (ax, .inl (cI, 300, .inl (kA B0)))] H → va_D A [(hq, .inr (1, [.ref hp, .ref h5, .ref h6, .ref aa, .ref ar, .ref ax, .int (iI ((dn : Nat) : Int))])), (hp, .inr (2, [.ref ob, .ref og, .ref ap, .ref al, .ref aq, .int (iI ((cnt : Nat) : Int))])), (ar, .inl (cI, 300, .inl (kA T0))), (ax, .inl (cI, 300, .inl (kA B0)))] → va_S A s.heap H locs → lv_has ls 2 [(0, .ref hq), (1, .int (iI ((k : Nat) : Int)))] → W p l e rm_c_Placer_nextFree s m args below meth c H locs 0 0 Q (F0 m 2 ls []) := by
    intro fu
    induction fu with
    | zero => intro k H locs ls hfu; exact absurd hfu (Nat.not_lt_zero _)
    | succ fu ih2 =>
      intro k H locs ls hfu hk hR hP hD hS hl
      refine lv_iload_n hx hb dX1_nextFree_2 rfl (lv_at hl 1 rfl) ?_
      refine lv_aload_n hx hb dX1_nextFree_3 rfl (lv_at hl 0 rfl) ?_
      refine va_get (D := D) (ci := 1) (v := .ref hp) (C := RX1) (T := TX1) (N := 7) hx hb hts hi_X1 hown hK hP 0 rfl rfl 0 (by decide) fl9 (fun _ h9 => h9) rfl dX1_nextFree_4 ?_
      refine k_calli (wc := [(hp, .inr (2, [.ref ob, .ref og, .ref ap, .ref al, .ref aq, .int (iI ((cnt : Nat) : Int))]))]) (wr := [(hq, .inr (1, [.ref hp, .ref h5, .ref h6, .ref aa, .ref ar, .ref ax, .int (iI ((dn : Nat) : Int))])), (ar, .inl (cI, 300, .inl (kA T0))), (ax, .inl (cI, 300, .inl (kA B0)))]) (wf := fun _ => [(hq, .inr (1, [.ref hp, .ref h5, .ref h6, .ref aa, .ref ar, .ref ax, .int (iI ((dn : Nat) : Int))])), (hp, .inr (2, [.ref ob, .ref og, .ref ap, .ref al, .ref aq, .int (iI ((cnt : Nat) : Int))])), (ar, .inl (cI, 300, .inl (kA T0))), (ax, .inl (cI, 300, .inl (kA B0)))]) hK hP hD hS hA [1] [0, 2, 3] [0, 3, 1, 2] ⟨⟨rfl, rfl, by decide⟩, rfl, by decide, by decide⟩ (fun _ => ⟨rfl, rfl⟩) (by decide) (fun hPc hDc => va_runV (As := []) (rest := [.int (iI ((k : Nat) : Int))]) ⟨hx, hb, hml, hown, hts⟩ (c_Plan_count l D cI cZ (hp := hp) (ob := ob) (og := og) (ap := ap) (al := al) (aq := aq) (cnt := cnt)  _) (cwV 0 hts (kgV wm416 wm316 wm317 wm41 wmcX2_count) rfl rfl rfl (by decide +kernel) ⟨Nat.le_of_ble_eq_true rfl, Nat.le_of_ble_eq_true rfl⟩) (k_preV hK hPc hDc (ci := 2) (q0 := 0) rfl rfl) rfl rfl hl.1 rfl (lv_room (Nat.le_of_ble_eq_true rfl)) dX1_nextFree_7 ⟨Nat.le_of_ble_eq_true rfl, Nat.le_of_ble_eq_true rfl⟩) (fun r7 u H locs hw hP hD hS => ?_)
      have hP : va_P D vwCl [(hq, .inr (1, [.ref hp, .ref h5, .ref h6, .ref aa, .ref ar, .ref ax, .int (iI ((dn : Nat) : Int))])), (hp, .inr (2, [.ref ob, .ref og, .ref ap, .ref al, .ref aq, .int (iI ((cnt : Nat) : Int))])), (ar, .inl (cI, 300, .inl (kA T0))), (ax, .inl (cI, 300, .inl (kA B0)))] H := hP
      have hD : va_D A [(hq, .inr (1, [.ref hp, .ref h5, .ref h6, .ref aa, .ref ar, .ref ax, .int (iI ((dn : Nat) : Int))])), (hp, .inr (2, [.ref ob, .ref og, .ref ap, .ref al, .ref aq, .int (iI ((cnt : Nat) : Int))])), (ar, .inl (cI, 300, .inl (kA T0))), (ax, .inl (cI, 300, .inl (kA B0)))] := hD
      refine W.widen (k := 0) (n := 0) (Nat.le_of_ble_eq_true rfl) (Nat.le_of_ble_eq_true rfl) ?_
      have hw : r7 = iI ((cnt : Nat) : Int) := hw
      subst hw
      refine lv_icmp_ge (tgt := 47) hx hb dX1_nextFree_10 (by decide) (fun c10 => ?_) (fun c10 => ?_)
      · skip
        have c10 := iI_leT (a := ((cnt : Nat) : Int)) (b := ((k : Nat) : Int)) c10 (by omega)
        refine lv_iconst (v := iI (-1 : Int)) hx hb dX1_nextFree_47 rfl ?_
        exact k_iret () hx hb hr hlocks hK hP hD hS [0, 1, 2, 3] (by decide) rfl rfl (by rw [← hR, show cnt - k = 0 by omega]; rfl) hAe hQ dX1_nextFree_48
      · skip
        have c10 := iI_leF (a := ((cnt : Nat) : Int)) (b := ((k : Nat) : Int)) c10 (by omega)
        have hT1 := hTr k (by omega)
        have hB1 := hBr k (by omega)
        refine lv_iload_n hx hb dX1_nextFree_13 rfl (lv_at hl 1 rfl) ?_
        refine lv_sipush (v := iI (300 : Int)) hx hb dX1_nextFree_14 (by decide) ?_
        refine lv_icmp_ge (tgt := 47) hx hb dX1_nextFree_17 (by decide) (fun c17 => ?_) (fun c17 => ?_)
        · skip
          have c17 := iI_leT (a := (300 : Int)) (b := ((k : Nat) : Int)) c17 (by omega)
          omega
        · skip
          have c17 := iI_leF (a := (300 : Int)) (b := ((k : Nat) : Int)) c17 (by omega)
          refine lv_aload_n hx hb dX1_nextFree_20 rfl (lv_at hl 0 rfl) ?_
          refine va_get (D := D) (ci := 1) (v := .ref ar) (C := RX1) (T := TX1) (N := 7) hx hb hts hi_X1 hown hK hP 0 rfl rfl 4 (by decide) fl31 (fun _ h9 => h9) rfl dX1_nextFree_21 ?_
          refine lv_iload_n hx hb dX1_nextFree_24 rfl (lv_at hl 1 rfl) ?_
          refine k_iald hx hb hK hP 2 0 rfl rfl k (by omega) dX1_nextFree_25 ?_
          refine kn_i (y := iI (T0 k : Int)) (rfl) ?_
          refine lv_iconst (v := iI (-1 : Int)) hx hb dX1_nextFree_26 rfl ?_
          refine lv_icmp_ne (tgt := 41) hx hb dX1_nextFree_27 (by decide) (fun c27 => ?_) (fun c27 => ?_)
          · skip
            have c27 := iI_eqF (a := (T0 k : Int)) (b := (-1 : Int)) c27 (by omega)
            refine lv_iinc (v := iI ((k + 1 : Nat) : Int)) (lv' := [(1, .int (iI ((k + 1 : Nat) : Int))), (0, .ref hq)]) hx hb dX1_nextFree_41 hl (k := 1) rfl (iA (by omega)) (by decide) rfl (fun ls hl => ?_)
            refine lv_goto (tgt := 2) hx hb dX1_nextFree_44 (by decide) ?_
            exact ih2 (k + 1) _ _ _ (by omega) (by omega) (by rw [← nfF_n (by omega) (by omega)]; exact hR) hP hD hS (lv_sub hl [1, 0] rfl)
          · skip
            have c27 := iI_eqT (a := (T0 k : Int)) (b := (-1 : Int)) c27 (by omega)
            refine lv_aload_n hx hb dX1_nextFree_30 rfl (lv_at hl 0 rfl) ?_
            refine va_get (D := D) (ci := 1) (v := .ref ax) (C := RX1) (T := TX1) (N := 7) hx hb hts hi_X1 hown hK hP 0 rfl rfl 5 (by decide) fl35 (fun _ h9 => h9) rfl dX1_nextFree_31 ?_
            refine lv_iload_n hx hb dX1_nextFree_34 rfl (lv_at hl 1 rfl) ?_
            refine k_iald hx hb hK hP 3 0 rfl rfl k (by omega) dX1_nextFree_35 ?_
            refine kn_i (y := iI (B0 k : Int)) (rfl) ?_
            refine lv_if_ne (tgt := 41) hx hb dX1_nextFree_36 (by decide) (fun c36 => ?_) (fun c36 => ?_)
            · skip
              have c36 := iI_eqF (a := (B0 k : Int)) (b := (0 : Int)) c36 (by omega)
              refine lv_iinc (v := iI ((k + 1 : Nat) : Int)) (lv' := [(1, .int (iI ((k + 1 : Nat) : Int))), (0, .ref hq)]) hx hb dX1_nextFree_41 hl (k := 1) rfl (iA (by omega)) (by decide) rfl (fun ls hl => ?_)
              refine lv_goto (tgt := 2) hx hb dX1_nextFree_44 (by decide) ?_
              exact ih2 (k + 1) _ _ _ (by omega) (by omega) (by rw [← nfF_n (by omega) (by omega)]; exact hR) hP hD hS (lv_sub hl [1, 0] rfl)
            · skip
              have c36 := iI_eqT (a := (B0 k : Int)) (b := (0 : Int)) c36 (by omega)
              refine lv_iload_n hx hb dX1_nextFree_39 rfl (lv_at hl 1 rfl) ?_
              exact k_iret () hx hb hr hlocks hK hP hD hS [0, 1, 2, 3] (by decide) rfl rfl (by rw [← hR, nfF_y (by omega) (by omega)]) hAe hQ dX1_nextFree_40
  exact lp2 _ 0 _ _ _ (Nat.lt_succ_self _) (by omega) (by rfl) hP hD hS (lv_sub hl [1, 0] rfl)

abbrev rm_c_Placer_wantsMemory : Room := { frames := 3, cells := 0, slots := 0, locals := 63 }
set_option maxHeartbeats 4000000 in
set_option maxRecDepth 100000 in
theorem c_Placer_wantsMemory (l : Launch) (D : va_G) (cI cZ : ClassId) (hq : Nat) (hp : Nat) (h5 : Nat) (h6 : Nat) (aa : Nat) (ar : Nat) (ax : Nat) (dn : Nat) (ob : Nat) (og : Nat) (ap : Nat) (al : Nat) (aq : Nat) (cnt : Nat) (S : Nat → Int) (A0 : Nat → Int) (T0 : Nat → Int) (k : Nat) (hc : cnt ≤ 300) (hA0 : ∀ i, i < 300 → A0 i = 0 ∨ A0 i = 1) (hk : k < cnt) (hF : ∀ i, i < cnt → -1 ≤ S i ∧ S i ≤ 300) (hTr : ∀ i, i < cnt → -1 ≤ T0 i ∧ T0 i ≤ 1000) : MI l yX1_wantsMemory wsX1_wantsMemory rm_c_Placer_wantsMemory D (kT cI cZ) [.ref hq, .int (iI ((k : Nat) : Int))] [(hq, .inr (1, [.ref hp, .ref h5, .ref h6, .ref aa, .ref ar, .ref ax, .int (iI ((dn : Nat) : Int))])), (hp, .inr (2, [.ref ob, .ref og, .ref ap, .ref al, .ref aq, .int (iI ((cnt : Nat) : Int))])), (aq, .inl (cI, 300, .inl (kA S))), (aa, .inl (cZ, 300, .inl (kA A0))), (ar, .inl (cI, 300, .inl (kA T0)))] (fun (r : Int32) (_ : Unit) => r = kb (decide ((¬ S k = -1 ∧ T0 k = -1 ∧ A0 k = 0)))) (fun (u : Unit) => match u with | _ => [(hq, .inr (1, [.ref hp, .ref h5, .ref h6, .ref aa, .ref ar, .ref ax, .int (iI ((dn : Nat) : Int))])), (hp, .inr (2, [.ref ob, .ref og, .ref ap, .ref al, .ref aq, .int (iI ((cnt : Nat) : Int))])), (aq, .inl (cI, 300, .inl (kA S))), (aa, .inl (cZ, 300, .inl (kA A0))), (ar, .inl (cI, 300, .inl (kA T0)))]) 0 0 := by
  intro sz
  refine k_of (cc := cX1_wantsMemory) (maxL := 2) (ret := (some .boolean)) (by decide) rfl (Nat.le_of_ble_eq_true rfl) ?_
  intro p e s m args below meth c A Q hAe hQ hx hb hr hml hts hown hlocks hnm hP hK hD hS hA ls hl
  have hl : lv_has ls 2 [(0, .ref hq), (1, .int (iI ((k : Nat) : Int)))] := hl
  have hi_X1 : ∀ w ∈ u_ws RX1 TX1 7, w ∈ wsX1_wantsMemory := fun w h => km (ikX1 w h)
  have fl9 := hts _ (km wm133)
  have hT1 := hTr k hk
  have e1 : rZ T0 300 ((k : Nat) : Int) = T0 k := rZ_in (by omega)
  refine lv_aload_n hx hb dX1_wantsMemory_0 rfl (lv_at hl 0 rfl) ?_
  refine va_get (D := D) (ci := 1) (v := .ref hp) (C := RX1) (T := TX1) (N := 7) hx hb hts hi_X1 hown hK hP 0 rfl rfl 0 (by decide) fl9 (fun _ h9 => h9) rfl dX1_wantsMemory_1 ?_
  refine lv_iload_n hx hb dX1_wantsMemory_4 rfl (lv_at hl 1 rfl) ?_
  refine k_calli (wc := [(hp, .inr (2, [.ref ob, .ref og, .ref ap, .ref al, .ref aq, .int (iI ((cnt : Nat) : Int))])), (aq, .inl (cI, 300, .inl (kA S)))]) (wr := [(hq, .inr (1, [.ref hp, .ref h5, .ref h6, .ref aa, .ref ar, .ref ax, .int (iI ((dn : Nat) : Int))])), (aa, .inl (cZ, 300, .inl (kA A0))), (ar, .inl (cI, 300, .inl (kA T0)))]) (wf := fun _ => [(hq, .inr (1, [.ref hp, .ref h5, .ref h6, .ref aa, .ref ar, .ref ax, .int (iI ((dn : Nat) : Int))])), (hp, .inr (2, [.ref ob, .ref og, .ref ap, .ref al, .ref aq, .int (iI ((cnt : Nat) : Int))])), (aq, .inl (cI, 300, .inl (kA S))), (aa, .inl (cZ, 300, .inl (kA A0))), (ar, .inl (cI, 300, .inl (kA T0)))]) hK hP hD hS hA [1, 2] [0, 3, 4] [0, 3, 4, 1, 2] ⟨⟨rfl, rfl, by decide⟩, rfl, by decide, by decide⟩ (fun _ => ⟨rfl, rfl⟩) (by decide) (fun hPc hDc => va_runV (As := [.int (iI ((k : Nat) : Int))]) (rest := []) ⟨hx, hb, hml, hown, hts⟩ (c_Plan_isCopyk l D cI cZ (hp := hp) (ob := ob) (og := og) (ap := ap) (al := al) (aq := aq) (cnt := cnt) (F := S) (k := k) (hc := by omega) (hk := by omega) (hF := hF) _) (cwV 1 hts (kgV wm417 wm261 wm262 wm41 wmcX2_isCopy) rfl rfl rfl (by decide +kernel) ⟨Nat.le_of_ble_eq_true rfl, Nat.le_of_ble_eq_true rfl⟩) (k_preV hK hPc hDc (ci := 2) (q0 := 0) rfl rfl) rfl rfl hl.1 rfl (lv_room (Nat.le_of_ble_eq_true rfl)) dX1_wantsMemory_5 ⟨Nat.le_of_ble_eq_true rfl, Nat.le_of_ble_eq_true rfl⟩) (fun r5 u H locs hw hP hD hS => ?_)
  have hP : va_P D vwCl [(hq, .inr (1, [.ref hp, .ref h5, .ref h6, .ref aa, .ref ar, .ref ax, .int (iI ((dn : Nat) : Int))])), (hp, .inr (2, [.ref ob, .ref og, .ref ap, .ref al, .ref aq, .int (iI ((cnt : Nat) : Int))])), (aq, .inl (cI, 300, .inl (kA S))), (aa, .inl (cZ, 300, .inl (kA A0))), (ar, .inl (cI, 300, .inl (kA T0)))] H := hP
  have hD : va_D A [(hq, .inr (1, [.ref hp, .ref h5, .ref h6, .ref aa, .ref ar, .ref ax, .int (iI ((dn : Nat) : Int))])), (hp, .inr (2, [.ref ob, .ref og, .ref ap, .ref al, .ref aq, .int (iI ((cnt : Nat) : Int))])), (aq, .inl (cI, 300, .inl (kA S))), (aa, .inl (cZ, 300, .inl (kA A0))), (ar, .inl (cI, 300, .inl (kA T0)))] := hD
  refine W.widen (k := 0) (n := 0) (Nat.le_of_ble_eq_true rfl) (Nat.le_of_ble_eq_true rfl) ?_
  have hw : r5 = kb (decide (¬ S k = -1)) := hw
  subst hw
  refine lv_if_eq (tgt := 32) hx hb dX1_wantsMemory_8 (by decide) (fun c8 => ?_) (fun c8 => ?_)
  · skip
    have c8 : ¬ (¬ S k = -1) := of_decide_eq_false (kb_T c8)
    refine lv_iconst (v := iI (0 : Int)) hx hb dX1_wantsMemory_32 rfl ?_
    exact k_zret () hx hb hr (by decide) hlocks hK hP hD hS [0, 1, 2, 3, 4] (by decide) rfl rfl (by first | exact kb1 (by omega) | exact kb0 (by omega)) hAe hQ dX1_wantsMemory_33
  · skip
    have c8 : ¬ S k = -1 := of_decide_eq_true (kb_F c8)
    refine lv_aload_n hx hb dX1_wantsMemory_11 rfl (lv_at hl 0 rfl) ?_
    refine lv_iload_n hx hb dX1_wantsMemory_12 rfl (lv_at hl 1 rfl) ?_
    refine k_calli (wc := [(hq, .inr (1, [.ref hp, .ref h5, .ref h6, .ref aa, .ref ar, .ref ax, .int (iI ((dn : Nat) : Int))])), (ar, .inl (cI, 300, .inl (kA T0)))]) (wr := [(hp, .inr (2, [.ref ob, .ref og, .ref ap, .ref al, .ref aq, .int (iI ((cnt : Nat) : Int))])), (aq, .inl (cI, 300, .inl (kA S))), (aa, .inl (cZ, 300, .inl (kA A0)))]) (wf := fun _ => [(hq, .inr (1, [.ref hp, .ref h5, .ref h6, .ref aa, .ref ar, .ref ax, .int (iI ((dn : Nat) : Int))])), (hp, .inr (2, [.ref ob, .ref og, .ref ap, .ref al, .ref aq, .int (iI ((cnt : Nat) : Int))])), (aq, .inl (cI, 300, .inl (kA S))), (aa, .inl (cZ, 300, .inl (kA A0))), (ar, .inl (cI, 300, .inl (kA T0)))]) hK hP hD hS hA [0, 4] [1, 2, 3] [3, 0, 1, 2, 4] ⟨⟨rfl, rfl, by decide⟩, rfl, by decide, by decide⟩ (fun _ => ⟨rfl, rfl⟩) (by decide) (fun hPc hDc => va_runV (As := [.int (iI ((k : Nat) : Int))]) (rest := []) ⟨hx, hb, hml, hown, hts⟩ (c_Placer_turnOf l D cI cZ (hq := hq) (hp := hp) (h5 := h5) (h6 := h6) (aa := aa) (ar := ar) (ax := ax) (dn := dn) (T0 := T0) (z := ((k : Nat) : Int)) (hz := by omega) _) (cwV 1 hts (kgV wm438 wm333 wm334 wm43 wmcX1_turnOf) rfl rfl rfl (by decide +kernel) ⟨Nat.le_of_ble_eq_true rfl, Nat.le_of_ble_eq_true rfl⟩) (k_preV hK hPc hDc (ci := 1) (q0 := 0) rfl rfl) rfl rfl hl.1 rfl (lv_room (Nat.le_of_ble_eq_true rfl)) dX1_wantsMemory_13 ⟨Nat.le_of_ble_eq_true rfl, Nat.le_of_ble_eq_true rfl⟩) (fun r13 u H locs hw hP hD hS => ?_)
    have hP : va_P D vwCl [(hq, .inr (1, [.ref hp, .ref h5, .ref h6, .ref aa, .ref ar, .ref ax, .int (iI ((dn : Nat) : Int))])), (hp, .inr (2, [.ref ob, .ref og, .ref ap, .ref al, .ref aq, .int (iI ((cnt : Nat) : Int))])), (aq, .inl (cI, 300, .inl (kA S))), (aa, .inl (cZ, 300, .inl (kA A0))), (ar, .inl (cI, 300, .inl (kA T0)))] H := hP
    have hD : va_D A [(hq, .inr (1, [.ref hp, .ref h5, .ref h6, .ref aa, .ref ar, .ref ax, .int (iI ((dn : Nat) : Int))])), (hp, .inr (2, [.ref ob, .ref og, .ref ap, .ref al, .ref aq, .int (iI ((cnt : Nat) : Int))])), (aq, .inl (cI, 300, .inl (kA S))), (aa, .inl (cZ, 300, .inl (kA A0))), (ar, .inl (cI, 300, .inl (kA T0)))] := hD
    refine W.widen (k := 0) (n := 0) (Nat.le_of_ble_eq_true rfl) (Nat.le_of_ble_eq_true rfl) ?_
    have hw : r13 = iI (rZ T0 300 ((k : Nat) : Int) : Int) := hw
    subst hw
    refine lv_iconst (v := iI (-1 : Int)) hx hb dX1_wantsMemory_16 rfl ?_
    refine lv_icmp_ne (tgt := 32) hx hb dX1_wantsMemory_17 (by decide) (fun c17 => ?_) (fun c17 => ?_)
    · skip
      have c17 := iI_eqF (a := (rZ T0 300 ((k : Nat) : Int) : Int)) (b := (-1 : Int)) c17 (by omega)
      refine lv_iconst (v := iI (0 : Int)) hx hb dX1_wantsMemory_32 rfl ?_
      exact k_zret () hx hb hr (by decide) hlocks hK hP hD hS [0, 1, 2, 3, 4] (by decide) rfl rfl (by first | exact kb1 (by omega) | exact kb0 (by omega)) hAe hQ dX1_wantsMemory_33
    · skip
      have c17 := iI_eqT (a := (rZ T0 300 ((k : Nat) : Int) : Int)) (b := (-1 : Int)) c17 (by omega)
      refine lv_aload_n hx hb dX1_wantsMemory_20 rfl (lv_at hl 0 rfl) ?_
      refine lv_iload_n hx hb dX1_wantsMemory_21 rfl (lv_at hl 1 rfl) ?_
      refine k_calli (wc := [(hq, .inr (1, [.ref hp, .ref h5, .ref h6, .ref aa, .ref ar, .ref ax, .int (iI ((dn : Nat) : Int))])), (aa, .inl (cZ, 300, .inl (kA A0)))]) (wr := [(hp, .inr (2, [.ref ob, .ref og, .ref ap, .ref al, .ref aq, .int (iI ((cnt : Nat) : Int))])), (aq, .inl (cI, 300, .inl (kA S))), (ar, .inl (cI, 300, .inl (kA T0)))]) (wf := fun _ => [(hq, .inr (1, [.ref hp, .ref h5, .ref h6, .ref aa, .ref ar, .ref ax, .int (iI ((dn : Nat) : Int))])), (hp, .inr (2, [.ref ob, .ref og, .ref ap, .ref al, .ref aq, .int (iI ((cnt : Nat) : Int))])), (aq, .inl (cI, 300, .inl (kA S))), (aa, .inl (cZ, 300, .inl (kA A0))), (ar, .inl (cI, 300, .inl (kA T0)))]) hK hP hD hS hA [0, 3] [1, 2, 4] [3, 0, 1, 4, 2] ⟨⟨rfl, rfl, by decide⟩, rfl, by decide, by decide⟩ (fun _ => ⟨rfl, rfl⟩) (by decide) (fun hPc hDc => va_runV (As := [.int (iI ((k : Nat) : Int))]) (rest := []) ⟨hx, hb, hml, hown, hts⟩ (c_Placer_wasPutAside l D cI cZ (hq := hq) (hp := hp) (h5 := h5) (h6 := h6) (aa := aa) (ar := ar) (ax := ax) (dn := dn) (A0 := A0) (z := ((k : Nat) : Int)) (hz := by omega) (hA0 := by omega) _) (cwV 1 hts (kgV wm439 wm329 wm330 wm43 wmcX1_wasPutAside) rfl rfl rfl (by decide +kernel) ⟨Nat.le_of_ble_eq_true rfl, Nat.le_of_ble_eq_true rfl⟩) (k_preV hK hPc hDc (ci := 1) (q0 := 0) rfl rfl) rfl rfl hl.1 rfl (lv_room (Nat.le_of_ble_eq_true rfl)) dX1_wantsMemory_22 ⟨Nat.le_of_ble_eq_true rfl, Nat.le_of_ble_eq_true rfl⟩) (fun r22 u H locs hw hP hD hS => ?_)
      have hP : va_P D vwCl [(hq, .inr (1, [.ref hp, .ref h5, .ref h6, .ref aa, .ref ar, .ref ax, .int (iI ((dn : Nat) : Int))])), (hp, .inr (2, [.ref ob, .ref og, .ref ap, .ref al, .ref aq, .int (iI ((cnt : Nat) : Int))])), (aq, .inl (cI, 300, .inl (kA S))), (aa, .inl (cZ, 300, .inl (kA A0))), (ar, .inl (cI, 300, .inl (kA T0)))] H := hP
      have hD : va_D A [(hq, .inr (1, [.ref hp, .ref h5, .ref h6, .ref aa, .ref ar, .ref ax, .int (iI ((dn : Nat) : Int))])), (hp, .inr (2, [.ref ob, .ref og, .ref ap, .ref al, .ref aq, .int (iI ((cnt : Nat) : Int))])), (aq, .inl (cI, 300, .inl (kA S))), (aa, .inl (cZ, 300, .inl (kA A0))), (ar, .inl (cI, 300, .inl (kA T0)))] := hD
      refine W.widen (k := 0) (n := 0) (Nat.le_of_ble_eq_true rfl) (Nat.le_of_ble_eq_true rfl) ?_
      have hw : r22 = kb (decide ((0 ≤ ((k : Nat) : Int) ∧ ((k : Nat) : Int) < 300) ∧ ¬ A0 ((k : Nat) : Int).toNat = 0)) := hw
      subst hw
      refine lv_if_ne (tgt := 32) hx hb dX1_wantsMemory_25 (by decide) (fun c25 => ?_) (fun c25 => ?_)
      · skip
        have c25 : (0 ≤ ((k : Nat) : Int) ∧ ((k : Nat) : Int) < 300) ∧ ¬ A0 ((k : Nat) : Int).toNat = 0 := of_decide_eq_true (kb_F c25)
        have e2 : ((k : Nat) : Int).toNat = k := rfl
        rw [e2] at c25
        refine lv_iconst (v := iI (0 : Int)) hx hb dX1_wantsMemory_32 rfl ?_
        exact k_zret () hx hb hr (by decide) hlocks hK hP hD hS [0, 1, 2, 3, 4] (by decide) rfl rfl (by first | exact kb1 (by omega) | exact kb0 (by omega)) hAe hQ dX1_wantsMemory_33
      · skip
        have c25 : ¬ ((0 ≤ ((k : Nat) : Int) ∧ ((k : Nat) : Int) < 300) ∧ ¬ A0 ((k : Nat) : Int).toNat = 0) := of_decide_eq_false (kb_T c25)
        have e2 : ((k : Nat) : Int).toNat = k := rfl
        rw [e2] at c25
        refine lv_iconst (v := iI (1 : Int)) hx hb dX1_wantsMemory_28 rfl ?_
        refine lv_goto (tgt := 33) hx hb dX1_wantsMemory_29 (by decide) ?_
        exact k_zret () hx hb hr (by decide) hlocks hK hP hD hS [0, 1, 2, 3, 4] (by decide) rfl rfl (by first | exact kb1 (by omega) | exact kb0 (by omega)) hAe hQ dX1_wantsMemory_33
