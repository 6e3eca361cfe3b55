abbrev rm_c_Plan_base : Room := { frames := 0, cells := 0, slots := 0, locals := 0 }
set_option maxHeartbeats 4000000 in
set_option maxRecDepth 100000 in
theorem c_Plan_base (l : Launch) (D : va_G) (cI cZ : ClassId) (hp : Nat) (ob : Nat) (og : Nat) (ap : Nat) (al : Nat) (aq : Nat) (cnt : Nat)  : MQq l yX2_base wsX2_base rm_c_Plan_base D (kT cI cZ) [.ref hp] [(hp, .inr (2, [.ref ob, .ref og, .ref ap, .ref al, .ref aq, .int (iI ((cnt : Nat) : Int))]))] (fun (r : Option Nat) (_ : Unit) => r = some ob) (fun (u : Unit) => match u with | _ => [(hp, .inr (2, [.ref ob, .ref og, .ref ap, .ref al, .ref aq, .int (iI ((cnt : Nat) : Int))]))]) 0 0 := by
  intro sz
  refine k_of (cc := cX2_base) (maxL := 1) (ret := (some (.object "DeltaMaker$Row"))) (by decide) rfl (Nat.le_of_ble_eq_true rfl) ?_
  intro p e s m args below meth c A Q hAe hQ hx hb hr hml hts hown hlocks hnm hP hK hD hS hA ls hl
  have hl : lv_has ls 1 [(0, .ref hp)] := hl
  have hi_X2 : ∀ w ∈ u_ws RX2 TX2 6, w ∈ wsX2_base := fun w h => km (ikX2 w h)
  have fl14 := hts _ (km wm78)
  refine lv_aload_n hx hb dX2_base_0 rfl (lv_at hl 0 rfl) ?_
  refine va_get (D := D) (ci := 2) (v := .ref ob) (C := RX2) (T := TX2) (N := 6) hx hb hts hi_X2 hown hK hP 0 rfl rfl 0 (by decide) fl14 (fun _ h9 => h9) rfl dX2_base_1 ?_
  exact k_aret (r := some ob) () hx hb hr hlocks hK hP hD hS [0] (by decide) rfl rfl (rfl) hAe hQ rfl dX2_base_4

abbrev rm_c_Plan_goal : Room := { frames := 0, cells := 0, slots := 0, locals := 0 }
set_option maxHeartbeats 4000000 in
set_option maxRecDepth 100000 in
theorem c_Plan_goal (l : Launch) (D : va_G) (cI cZ : ClassId) (hp : Nat) (ob : Nat) (og : Nat) (ap : Nat) (al : Nat) (aq : Nat) (cnt : Nat)  : MQq l yX2_goal wsX2_goal rm_c_Plan_goal D (kT cI cZ) [.ref hp] [(hp, .inr (2, [.ref ob, .ref og, .ref ap, .ref al, .ref aq, .int (iI ((cnt : Nat) : Int))]))] (fun (r : Option Nat) (_ : Unit) => r = some og) (fun (u : Unit) => match u with | _ => [(hp, .inr (2, [.ref ob, .ref og, .ref ap, .ref al, .ref aq, .int (iI ((cnt : Nat) : Int))]))]) 0 0 := by
  intro sz
  refine k_of (cc := cX2_goal) (maxL := 1) (ret := (some (.object "DeltaMaker$Row"))) (by decide) rfl (Nat.le_of_ble_eq_true rfl) ?_
  intro p e s m args below meth c A Q hAe hQ hx hb hr hml hts hown hlocks hnm hP hK hD hS hA ls hl
  have hl : lv_has ls 1 [(0, .ref hp)] := hl
  have hi_X2 : ∀ w ∈ u_ws RX2 TX2 6, w ∈ wsX2_goal := fun w h => km (ikX2 w h)
  have fl20 := hts _ (km wm79)
  refine lv_aload_n hx hb dX2_goal_0 rfl (lv_at hl 0 rfl) ?_
  refine va_get (D := D) (ci := 2) (v := .ref og) (C := RX2) (T := TX2) (N := 6) hx hb hts hi_X2 hown hK hP 0 rfl rfl 1 (by decide) fl20 (fun _ h9 => h9) rfl dX2_goal_1 ?_
  exact k_aret (r := some og) () hx hb hr hlocks hK hP hD hS [0] (by decide) rfl rfl (rfl) hAe hQ rfl dX2_goal_4

abbrev rm_c_Plan_count : Room := { frames := 0, cells := 0, slots := 0, locals := 0 }
set_option maxHeartbeats 4000000 in
set_option maxRecDepth 100000 in
theorem c_Plan_count (l : Launch) (D : va_G) (cI cZ : ClassId) (hp : Nat) (ob : Nat) (og : Nat) (ap : Nat) (al : Nat) (aq : Nat) (cnt : Nat)  : MI l yX2_count wsX2_count rm_c_Plan_count D (kT cI cZ) [.ref hp] [(hp, .inr (2, [.ref ob, .ref og, .ref ap, .ref al, .ref aq, .int (iI ((cnt : Nat) : Int))]))] (fun (r : Int32) (_ : Unit) => r = iI ((cnt : Nat) : Int)) (fun (u : Unit) => match u with | _ => [(hp, .inr (2, [.ref ob, .ref og, .ref ap, .ref al, .ref aq, .int (iI ((cnt : Nat) : Int))]))]) 0 0 := by
  intro sz
  refine k_of (cc := cX2_count) (maxL := 1) (ret := (some .int)) (by decide) rfl (Nat.le_of_ble_eq_true rfl) ?_
  intro p e s m args below meth c A Q hAe hQ hx hb hr hml hts hown hlocks hnm hP hK hD hS hA ls hl
  have hl : lv_has ls 1 [(0, .ref hp)] := hl
  have hi_X2 : ∀ w ∈ u_ws RX2 TX2 6, w ∈ wsX2_count := fun w h => km (ikX2 w h)
  have fl33 := hts _ (km wm83)
  refine lv_aload_n hx hb dX2_count_0 rfl (lv_at hl 0 rfl) ?_
  refine va_get (D := D) (ci := 2) (v := .int (iI ((cnt : Nat) : Int))) (C := RX2) (T := TX2) (N := 6) hx hb hts hi_X2 hown hK hP 0 rfl rfl 5 (by decide) fl33 (fun _ h9 => h9) rfl dX2_count_1 ?_
  exact k_iret () hx hb hr hlocks hK hP hD hS [0] (by decide) rfl rfl (rfl) hAe hQ dX2_count_4

abbrev rm_c_Plan_has : Room := { frames := 0, cells := 0, slots := 0, locals := 0 }
set_option maxHeartbeats 4000000 in
set_option maxRecDepth 100000 in
theorem c_Plan_has (l : Launch) (D : va_G) (cI cZ : ClassId) (hp : Nat) (ob : Nat) (og : Nat) (ap : Nat) (al : Nat) (aq : Nat) (cnt : Nat) (z : Int) (hc : cnt ≤ 300) (hz : -2147483648 ≤ z ∧ z < 2147483648) : MI l yX2_has wsX2_has rm_c_Plan_has D (kT cI cZ) [.ref hp, .int (iI (z : Int))] [(hp, .inr (2, [.ref ob, .ref og, .ref ap, .ref al, .ref aq, .int (iI ((cnt : Nat) : Int))]))] (fun (r : Int32) (_ : Unit) => r = kb (decide (0 ≤ z ∧ z < ((cnt : Nat) : Int)))) (fun (u : Unit) => match u with | _ => [(hp, .inr (2, [.ref ob, .ref og, .ref ap, .ref al, .ref aq, .int (iI ((cnt : Nat) : Int))]))]) 0 0 := by
  intro sz
  refine k_of (cc := cX2_has) (maxL := 2) (ret := (some .boolean)) (by decide) rfl (Nat.le_of_ble_eq_true rfl) ?_
  intro p e s m args below meth c A Q hAe hQ hx hb hr hml hts hown hlocks hnm hP hK hD hS hA ls hl
  have hl : lv_has ls 2 [(0, .ref hp), (1, .int (iI (z : Int)))] := hl
  have hi_X2 : ∀ w ∈ u_ws RX2 TX2 6, w ∈ wsX2_has := fun w h => km (ikX2 w h)
  have fl33 := hts _ (km wm83)
  refine lv_iload_n hx hb dX2_has_0 rfl (lv_at hl 1 rfl) ?_
  refine lv_if_lt (tgt := 16) hx hb dX2_has_1 (by decide) (fun c1 => ?_) (fun c1 => ?_)
  · skip
    have c1 := iI_ltT (a := (z : Int)) (b := (0 : Int)) c1 (by omega)
    refine lv_iconst (v := iI (0 : Int)) hx hb dX2_has_16 rfl ?_
    exact k_zret () hx hb hr (by decide) hlocks hK hP hD hS [0] (by decide) rfl rfl (by first | exact kb1 (by omega) | exact kb0 (by omega)) hAe hQ dX2_has_17
  · skip
    have c1 := iI_ltF (a := (z : Int)) (b := (0 : Int)) c1 (by omega)
    refine lv_iload_n hx hb dX2_has_4 rfl (lv_at hl 1 rfl) ?_
    refine lv_aload_n hx hb dX2_has_5 rfl (lv_at hl 0 rfl) ?_
    refine va_get (D := D) (ci := 2) (v := .int (iI ((cnt : Nat) : Int))) (C := RX2) (T := TX2) (N := 6) hx hb hts hi_X2 hown hK hP 0 rfl rfl 5 (by decide) fl33 (fun _ h9 => h9) rfl dX2_has_6 ?_
    refine lv_icmp_ge (tgt := 16) hx hb dX2_has_9 (by decide) (fun c9 => ?_) (fun c9 => ?_)
    · skip
      have c9 := iI_leT (a := ((cnt : Nat) : Int)) (b := (z : Int)) c9 (by omega)
      refine lv_iconst (v := iI (0 : Int)) hx hb dX2_has_16 rfl ?_
      exact k_zret () hx hb hr (by decide) hlocks hK hP hD hS [0] (by decide) rfl rfl (by first | exact kb1 (by omega) | exact kb0 (by omega)) hAe hQ dX2_has_17
    · skip
      have c9 := iI_leF (a := ((cnt : Nat) : Int)) (b := (z : Int)) c9 (by omega)
      refine lv_iconst (v := iI (1 : Int)) hx hb dX2_has_12 rfl ?_
      refine lv_goto (tgt := 17) hx hb dX2_has_13 (by decide) ?_
      exact k_zret () hx hb hr (by decide) hlocks hK hP hD hS [0] (by decide) rfl rfl (by first | exact kb1 (by omega) | exact kb0 (by omega)) hAe hQ dX2_has_17

abbrev rm_c_Plan_place : Room := { frames := 1, cells := 0, slots := 0, locals := 21 }
set_option maxHeartbeats 4000000 in
set_option maxRecDepth 100000 in
theorem c_Plan_place (l : Launch) (D : va_G) (cI cZ : ClassId) (hp : Nat) (ob : Nat) (og : Nat) (ap : Nat) (al : Nat) (aq : Nat) (cnt : Nat) (F : Nat → Int) (z : Int) (hc : cnt ≤ 300) (hz : -2147483648 ≤ z ∧ z < 2147483648) : MI l yX2_place wsX2_place rm_c_Plan_place D (kT cI cZ) [.ref hp, .int (iI (z : Int))] [(hp, .inr (2, [.ref ob, .ref og, .ref ap, .ref al, .ref aq, .int (iI ((cnt : Nat) : Int))])), (ap, .inl (cI, 300, .inl (kA F)))] (fun (r : Int32) (_ : Unit) => r = iI (rZ F cnt z : Int)) (fun (u : Unit) => match u with | _ => [(hp, .inr (2, [.ref ob, .ref og, .ref ap, .ref al, .ref aq, .int (iI ((cnt : Nat) : Int))])), (ap, .inl (cI, 300, .inl (kA F)))]) 0 0 := by
  intro sz
  refine k_of (cc := cX2_place) (maxL := 2) (ret := (some .int)) (by decide) rfl (Nat.le_of_ble_eq_true rfl) ?_
  intro p e s m args below meth c A Q hAe hQ hx hb hr hml hts hown hlocks hnm hP hK hD hS hA ls hl
  have hl : lv_has ls 2 [(0, .ref hp), (1, .int (iI (z : Int)))] := hl
  have hi_X2 : ∀ w ∈ u_ws RX2 TX2 6, w ∈ wsX2_place := fun w h => km (ikX2 w h)
  have fl23 := hts _ (km wm80)
  refine lv_aload_n hx hb dX2_place_0 rfl (lv_at hl 0 rfl) ?_
  refine lv_iload_n hx hb dX2_place_1 rfl (lv_at hl 1 rfl) ?_
  refine k_calli (wc := [(hp, .inr (2, [.ref ob, .ref og, .ref ap, .ref al, .ref aq, .int (iI ((cnt : Nat) : Int))]))]) (wr := [(ap, .inl (cI, 300, .inl (kA F)))]) (wf := fun _ => [(hp, .inr (2, [.ref ob, .ref og, .ref ap, .ref al, .ref aq, .int (iI ((cnt : Nat) : Int))])), (ap, .inl (cI, 300, .inl (kA F)))]) hK hP hD hS hA [0] [1] [1, 0] ⟨⟨rfl, rfl, by decide⟩, rfl, by decide, by decide⟩ (fun _ => ⟨rfl, rfl⟩) (by decide) (fun hPc hDc => va_runV (As := [.int (iI (z : Int))]) (rest := []) ⟨hx, hb, hml, hown, hts⟩ (c_Plan_has l D cI cZ (hp := hp) (ob := ob) (og := og) (ap := ap) (al := al) (aq := aq) (cnt := cnt) (z := z) (hc := by omega) (hz := by omega) _) (cwV 1 hts (kgV wm256 wm257 wm258 wm41 wmcX2_has) rfl rfl rfl (by decide +kernel) ⟨Nat.le_of_ble_eq_true rfl, Nat.le_of_ble_eq_true rfl⟩) (k_preV hK hPc hDc (ci := 2) (q0 := 0) rfl rfl) rfl rfl hl.1 rfl (lv_room (Nat.le_of_ble_eq_true rfl)) dX2_place_2 ⟨Nat.le_of_ble_eq_true rfl, Nat.le_of_ble_eq_true rfl⟩) (fun r2 u H locs hw hP hD hS => ?_)
  have hP : va_P D vwCl [(hp, .inr (2, [.ref ob, .ref og, .ref ap, .ref al, .ref aq, .int (iI ((cnt : Nat) : Int))])), (ap, .inl (cI, 300, .inl (kA F)))] H := hP
  have hD : va_D A [(hp, .inr (2, [.ref ob, .ref og, .ref ap, .ref al, .ref aq, .int (iI ((cnt : Nat) : Int))])), (ap, .inl (cI, 300, .inl (kA F)))] := hD
  refine W.widen (k := 0) (n := 0) (Nat.le_of_ble_eq_true rfl) (Nat.le_of_ble_eq_true rfl) ?_
  have hw : r2 = kb (decide (0 ≤ z ∧ z < ((cnt : Nat) : Int))) := hw
  subst hw
  refine lv_if_eq (tgt := 17) hx hb dX2_place_5 (by decide) (fun c5 => ?_) (fun c5 => ?_)
  · skip
    have c5 : ¬ (0 ≤ z ∧ z < ((cnt : Nat) : Int)) := of_decide_eq_false (kb_T c5)
    refine lv_iconst (v := iI (-1 : Int)) hx hb dX2_place_17 rfl ?_
    exact k_iret () hx hb hr hlocks hK hP hD hS [0, 1] (by decide) rfl rfl (by unfold rZ; first | rw [if_pos (by omega)] | rw [if_neg (by omega)]) hAe hQ dX2_place_18
  · skip
    have c5 : 0 ≤ z ∧ z < ((cnt : Nat) : Int) := of_decide_eq_true (kb_F c5)
    refine lv_aload_n hx hb dX2_place_8 rfl (lv_at hl 0 rfl) ?_
    refine va_get (D := D) (ci := 2) (v := .ref ap) (C := RX2) (T := TX2) (N := 6) hx hb hts hi_X2 hown hK hP 0 rfl rfl 2 (by decide) fl23 (fun _ h9 => h9) rfl dX2_place_9 ?_
    refine lv_iload_n hx hb dX2_place_12 rfl (lv_at hl 1 rfl) ?_
    refine k_iald hx hb hK hP 1 0 rfl rfl z.toNat (by omega) dX2_place_13 ?_
    refine kn_i (y := iI (F z.toNat : Int)) (rfl) ?_
    refine lv_goto (tgt := 18) hx hb dX2_place_14 (by decide) ?_
    exact k_iret () hx hb hr hlocks hK hP hD hS [0, 1] (by decide) rfl rfl (by unfold rZ; first | rw [if_pos (by omega)] | rw [if_neg (by omega)]) hAe hQ dX2_place_18

abbrev rm_c_Plan_placek : Room := { frames := 1, cells := 0, slots := 0, locals := 21 }
set_option maxHeartbeats 4000000 in
set_option maxRecDepth 100000 in
theorem c_Plan_placek (l : Launch) (D : va_G) (cI cZ : ClassId) (hp : Nat) (ob : Nat) (og : Nat) (ap : Nat) (al : Nat) (aq : Nat) (cnt : Nat) (F : Nat → Int) (k : Nat) (hc : cnt ≤ 300) (hk : k < cnt) : MI l yX2_place wsX2_place rm_c_Plan_placek D (kT cI cZ) [.ref hp, .int (iI ((k : Nat) : Int))] [(hp, .inr (2, [.ref ob, .ref og, .ref ap, .ref al, .ref aq, .int (iI ((cnt : Nat) : Int))])), (ap, .inl (cI, 300, .inl (kA F)))] (fun (r : Int32) (_ : Unit) => r = iI (F k : Int)) (fun (u : Unit) => match u with | _ => [(hp, .inr (2, [.ref ob, .ref og, .ref ap, .ref al, .ref aq, .int (iI ((cnt : Nat) : Int))])), (ap, .inl (cI, 300, .inl (kA F)))]) 0 0 := by
  intro sz
  refine k_of (cc := cX2_place) (maxL := 2) (ret := (some .int)) (by decide) rfl (Nat.le_of_ble_eq_true rfl) ?_
  intro p e s m args below meth c A Q hAe hQ hx hb hr hml hts hown hlocks hnm hP hK hD hS hA ls hl
  have hl : lv_has ls 2 [(0, .ref hp), (1, .int (iI ((k : Nat) : Int)))] := hl
  have hi_X2 : ∀ w ∈ u_ws RX2 TX2 6, w ∈ wsX2_place := fun w h => km (ikX2 w h)
  have fl23 := hts _ (km wm80)
  refine lv_aload_n hx hb dX2_place_0 rfl (lv_at hl 0 rfl) ?_
  refine lv_iload_n hx hb dX2_place_1 rfl (lv_at hl 1 rfl) ?_
  refine k_calli (wc := [(hp, .inr (2, [.ref ob, .ref og, .ref ap, .ref al, .ref aq, .int (iI ((cnt : Nat) : Int))]))]) (wr := [(ap, .inl (cI, 300, .inl (kA F)))]) (wf := fun _ => [(hp, .inr (2, [.ref ob, .ref og, .ref ap, .ref al, .ref aq, .int (iI ((cnt : Nat) : Int))])), (ap, .inl (cI, 300, .inl (kA F)))]) hK hP hD hS hA [0] [1] [1, 0] ⟨⟨rfl, rfl, by decide⟩, rfl, by decide, by decide⟩ (fun _ => ⟨rfl, rfl⟩) (by decide) (fun hPc hDc => va_runV (As := [.int (iI ((k : Nat) : Int))]) (rest := []) ⟨hx, hb, hml, hown, hts⟩ (c_Plan_has l D cI cZ (hp := hp) (ob := ob) (og := og) (ap := ap) (al := al) (aq := aq) (cnt := cnt) (z := ((k : Nat) : Int)) (hc := by omega) (hz := by omega) _) (cwV 1 hts (kgV wm256 wm257 wm258 wm41 wmcX2_has) rfl rfl rfl (by decide +kernel) ⟨Nat.le_of_ble_eq_true rfl, Nat.le_of_ble_eq_true rfl⟩) (k_preV hK hPc hDc (ci := 2) (q0 := 0) rfl rfl) rfl rfl hl.1 rfl (lv_room (Nat.le_of_ble_eq_true rfl)) dX2_place_2 ⟨Nat.le_of_ble_eq_true rfl, Nat.le_of_ble_eq_true rfl⟩) (fun r2 u H locs hw hP hD hS => ?_)
  have hP : va_P D vwCl [(hp, .inr (2, [.ref ob, .ref og, .ref ap, .ref al, .ref aq, .int (iI ((cnt : Nat) : Int))])), (ap, .inl (cI, 300, .inl (kA F)))] H := hP
  have hD : va_D A [(hp, .inr (2, [.ref ob, .ref og, .ref ap, .ref al, .ref aq, .int (iI ((cnt : Nat) : Int))])), (ap, .inl (cI, 300, .inl (kA F)))] := hD
  refine W.widen (k := 0) (n := 0) (Nat.le_of_ble_eq_true rfl) (Nat.le_of_ble_eq_true rfl) ?_
  have hw : r2 = kb (decide (0 ≤ ((k : Nat) : Int) ∧ ((k : Nat) : Int) < ((cnt : Nat) : Int))) := hw
  subst hw
  refine lv_if_eq (tgt := 17) hx hb dX2_place_5 (by decide) (fun c5 => ?_) (fun c5 => ?_)
  · skip
    have c5 : ¬ (0 ≤ ((k : Nat) : Int) ∧ ((k : Nat) : Int) < ((cnt : Nat) : Int)) := of_decide_eq_false (kb_T c5)
    omega
  · skip
    have c5 : 0 ≤ ((k : Nat) : Int) ∧ ((k : Nat) : Int) < ((cnt : Nat) : Int) := of_decide_eq_true (kb_F c5)
    refine lv_aload_n hx hb dX2_place_8 rfl (lv_at hl 0 rfl) ?_
    refine va_get (D := D) (ci := 2) (v := .ref ap) (C := RX2) (T := TX2) (N := 6) hx hb hts hi_X2 hown hK hP 0 rfl rfl 2 (by decide) fl23 (fun _ h9 => h9) rfl dX2_place_9 ?_
    refine lv_iload_n hx hb dX2_place_12 rfl (lv_at hl 1 rfl) ?_
    refine k_iald hx hb hK hP 1 0 rfl rfl k (by omega) dX2_place_13 ?_
    refine kn_i (y := iI (F k : Int)) (rfl) ?_
    refine lv_goto (tgt := 18) hx hb dX2_place_14 (by decide) ?_
    exact k_iret () hx hb hr hlocks hK hP hD hS [0, 1] (by decide) rfl rfl (rfl) hAe hQ dX2_place_18

abbrev rm_c_Plan_length : Room := { frames := 1, cells := 0, slots := 0, locals := 21 }
set_option maxHeartbeats 4000000 in
set_option maxRecDepth 100000 in
theorem c_Plan_length (l : Launch) (D : va_G) (cI cZ : ClassId) (hp : Nat) (ob : Nat) (og : Nat) (ap : Nat) (al : Nat) (aq : Nat) (cnt : Nat) (F : Nat → Int) (z : Int) (hc : cnt ≤ 300) (hz : -2147483648 ≤ z ∧ z < 2147483648) : MI l yX2_length wsX2_length rm_c_Plan_length D (kT cI cZ) [.ref hp, .int (iI (z : Int))] [(hp, .inr (2, [.ref ob, .ref og, .ref ap, .ref al, .ref aq, .int (iI ((cnt : Nat) : Int))])), (al, .inl (cI, 300, .inl (kA F)))] (fun (r : Int32) (_ : Unit) => r = iI (rZ F cnt z : Int)) (fun (u : Unit) => match u with | _ => [(hp, .inr (2, [.ref ob, .ref og, .ref ap, .ref al, .ref aq, .int (iI ((cnt : Nat) : Int))])), (al, .inl (cI, 300, .inl (kA F)))]) 0 0 := by
  intro sz
  refine k_of (cc := cX2_length) (maxL := 2) (ret := (some .int)) (by decide) rfl (Nat.le_of_ble_eq_true rfl) ?_
  intro p e s m args below meth c A Q hAe hQ hx hb hr hml hts hown hlocks hnm hP hK hD hS hA ls hl
  have hl : lv_has ls 2 [(0, .ref hp), (1, .int (iI (z : Int)))] := hl
  have hi_X2 : ∀ w ∈ u_ws RX2 TX2 6, w ∈ wsX2_length := fun w h => km (ikX2 w h)
  have fl27 := hts _ (km wm81)
  refine lv_aload_n hx hb dX2_length_0 rfl (lv_at hl 0 rfl) ?_
  refine lv_iload_n hx hb dX2_length_1 rfl (lv_at hl 1 rfl) ?_
  refine k_calli (wc := [(hp, .inr (2, [.ref ob, .ref og, .ref ap, .ref al, .ref aq, .int (iI ((cnt : Nat) : Int))]))]) (wr := [(al, .inl (cI, 300, .inl (kA F)))]) (wf := fun _ => [(hp, .inr (2, [.ref ob, .ref og, .ref ap, .ref al, .ref aq, .int (iI ((cnt : Nat) : Int))])), (al, .inl (cI, 300, .inl (kA F)))]) hK hP hD hS hA [0] [1] [1, 0] ⟨⟨rfl, rfl, by decide⟩, rfl, by decide, by decide⟩ (fun _ => ⟨rfl, rfl⟩) (by decide) (fun hPc hDc => va_runV (As := [.int (iI (z : Int))]) (rest := []) ⟨hx, hb, hml, hown, hts⟩ (c_Plan_has l D cI cZ (hp := hp) (ob := ob) (og := og) (ap := ap) (al := al) (aq := aq) (cnt := cnt) (z := z) (hc := by omega) (hz := by omega) _) (cwV 1 hts (kgV wm256 wm257 wm258 wm41 wmcX2_has) rfl rfl rfl (by decide +kernel) ⟨Nat.le_of_ble_eq_true rfl, Nat.le_of_ble_eq_true rfl⟩) (k_preV hK hPc hDc (ci := 2) (q0 := 0) rfl rfl) rfl rfl hl.1 rfl (lv_room (Nat.le_of_ble_eq_true rfl)) dX2_length_2 ⟨Nat.le_of_ble_eq_true rfl, Nat.le_of_ble_eq_true rfl⟩) (fun r2 u H locs hw hP hD hS => ?_)
  have hP : va_P D vwCl [(hp, .inr (2, [.ref ob, .ref og, .ref ap, .ref al, .ref aq, .int (iI ((cnt : Nat) : Int))])), (al, .inl (cI, 300, .inl (kA F)))] H := hP
  have hD : va_D A [(hp, .inr (2, [.ref ob, .ref og, .ref ap, .ref al, .ref aq, .int (iI ((cnt : Nat) : Int))])), (al, .inl (cI, 300, .inl (kA F)))] := hD
  refine W.widen (k := 0) (n := 0) (Nat.le_of_ble_eq_true rfl) (Nat.le_of_ble_eq_true rfl) ?_
  have hw : r2 = kb (decide (0 ≤ z ∧ z < ((cnt : Nat) : Int))) := hw
  subst hw
  refine lv_if_eq (tgt := 17) hx hb dX2_length_5 (by decide) (fun c5 => ?_) (fun c5 => ?_)
  · skip
    have c5 : ¬ (0 ≤ z ∧ z < ((cnt : Nat) : Int)) := of_decide_eq_false (kb_T c5)
    refine lv_iconst (v := iI (-1 : Int)) hx hb dX2_length_17 rfl ?_
    exact k_iret () hx hb hr hlocks hK hP hD hS [0, 1] (by decide) rfl rfl (by unfold rZ; first | rw [if_pos (by omega)] | rw [if_neg (by omega)]) hAe hQ dX2_length_18
  · skip
    have c5 : 0 ≤ z ∧ z < ((cnt : Nat) : Int) := of_decide_eq_true (kb_F c5)
    refine lv_aload_n hx hb dX2_length_8 rfl (lv_at hl 0 rfl) ?_
    refine va_get (D := D) (ci := 2) (v := .ref al) (C := RX2) (T := TX2) (N := 6) hx hb hts hi_X2 hown hK hP 0 rfl rfl 3 (by decide) fl27 (fun _ h9 => h9) rfl dX2_length_9 ?_
    refine lv_iload_n hx hb dX2_length_12 rfl (lv_at hl 1 rfl) ?_
    refine k_iald hx hb hK hP 1 0 rfl rfl z.toNat (by omega) dX2_length_13 ?_
    refine kn_i (y := iI (F z.toNat : Int)) (rfl) ?_
    refine lv_goto (tgt := 18) hx hb dX2_length_14 (by decide) ?_
    exact k_iret () hx hb hr hlocks hK hP hD hS [0, 1] (by decide) rfl rfl (by unfold rZ; first | rw [if_pos (by omega)] | rw [if_neg (by omega)]) hAe hQ dX2_length_18

abbrev rm_c_Plan_lengthk : Room := { frames := 1, cells := 0, slots := 0, locals := 21 }
set_option maxHeartbeats 4000000 in
set_option maxRecDepth 100000 in
theorem c_Plan_lengthk (l : Launch) (D : va_G) (cI cZ : ClassId) (hp : Nat) (ob : Nat) (og : Nat) (ap : Nat) (al : Nat) (aq : Nat) (cnt : Nat) (F : Nat → Int) (k : Nat) (hc : cnt ≤ 300) (hk : k < cnt) : MI l yX2_length wsX2_length rm_c_Plan_lengthk D (kT cI cZ) [.ref hp, .int (iI ((k : Nat) : Int))] [(hp, .inr (2, [.ref ob, .ref og, .ref ap, .ref al, .ref aq, .int (iI ((cnt : Nat) : Int))])), (al, .inl (cI, 300, .inl (kA F)))] (fun (r : Int32) (_ : Unit) => r = iI (F k : Int)) (fun (u : Unit) => match u with | _ => [(hp, .inr (2, [.ref ob, .ref og, .ref ap, .ref al, .ref aq, .int (iI ((cnt : Nat) : Int))])), (al, .inl (cI, 300, .inl (kA F)))]) 0 0 := by
  intro sz
  refine k_of (cc := cX2_length) (maxL := 2) (ret := (some .int)) (by decide) rfl (Nat.le_of_ble_eq_true rfl) ?_
  intro p e s m args below meth c A Q hAe hQ hx hb hr hml hts hown hlocks hnm hP hK hD hS hA ls hl
  have hl : lv_has ls 2 [(0, .ref hp), (1, .int (iI ((k : Nat) : Int)))] := hl
  have hi_X2 : ∀ w ∈ u_ws RX2 TX2 6, w ∈ wsX2_length := fun w h => km (ikX2 w h)
  have fl27 := hts _ (km wm81)
  refine lv_aload_n hx hb dX2_length_0 rfl (lv_at hl 0 rfl) ?_
  refine lv_iload_n hx hb dX2_length_1 rfl (lv_at hl 1 rfl) ?_
  refine k_calli (wc := [(hp, .inr (2, [.ref ob, .ref og, .ref ap, .ref al, .ref aq, .int (iI ((cnt : Nat) : Int))]))]) (wr := [(al, .inl (cI, 300, .inl (kA F)))]) (wf := fun _ => [(hp, .inr (2, [.ref ob, .ref og, .ref ap, .ref al, .ref aq, .int (iI ((cnt : Nat) : Int))])), (al, .inl (cI, 300, .inl (kA F)))]) hK hP hD hS hA [0] [1] [1, 0] ⟨⟨rfl, rfl, by decide⟩, rfl, by decide, by decide⟩ (fun _ => ⟨rfl, rfl⟩) (by decide) (fun hPc hDc => va_runV (As := [.int (iI ((k : Nat) : Int))]) (rest := []) ⟨hx, hb, hml, hown, hts⟩ (c_Plan_has l D cI cZ (hp := hp) (ob := ob) (og := og) (ap := ap) (al := al) (aq := aq) (cnt := cnt) (z := ((k : Nat) : Int)) (hc := by omega) (hz := by omega) _) (cwV 1 hts (kgV wm256 wm257 wm258 wm41 wmcX2_has) rfl rfl rfl (by decide +kernel) ⟨Nat.le_of_ble_eq_true rfl, Nat.le_of_ble_eq_true rfl⟩) (k_preV hK hPc hDc (ci := 2) (q0 := 0) rfl rfl) rfl rfl hl.1 rfl (lv_room (Nat.le_of_ble_eq_true rfl)) dX2_length_2 ⟨Nat.le_of_ble_eq_true rfl, Nat.le_of_ble_eq_true rfl⟩) (fun r2 u H locs hw hP hD hS => ?_)
  have hP : va_P D vwCl [(hp, .inr (2, [.ref ob, .ref og, .ref ap, .ref al, .ref aq, .int (iI ((cnt : Nat) : Int))])), (al, .inl (cI, 300, .inl (kA F)))] H := hP
  have hD : va_D A [(hp, .inr (2, [.ref ob, .ref og, .ref ap, .ref al, .ref aq, .int (iI ((cnt : Nat) : Int))])), (al, .inl (cI, 300, .inl (kA F)))] := hD
  refine W.widen (k := 0) (n := 0) (Nat.le_of_ble_eq_true rfl) (Nat.le_of_ble_eq_true rfl) ?_
  have hw : r2 = kb (decide (0 ≤ ((k : Nat) : Int) ∧ ((k : Nat) : Int) < ((cnt : Nat) : Int))) := hw
  subst hw
  refine lv_if_eq (tgt := 17) hx hb dX2_length_5 (by decide) (fun c5 => ?_) (fun c5 => ?_)
  · skip
    have c5 : ¬ (0 ≤ ((k : Nat) : Int) ∧ ((k : Nat) : Int) < ((cnt : Nat) : Int)) := of_decide_eq_false (kb_T c5)
    omega
  · skip
    have c5 : 0 ≤ ((k : Nat) : Int) ∧ ((k : Nat) : Int) < ((cnt : Nat) : Int) := of_decide_eq_true (kb_F c5)
    refine lv_aload_n hx hb dX2_length_8 rfl (lv_at hl 0 rfl) ?_
    refine va_get (D := D) (ci := 2) (v := .ref al) (C := RX2) (T := TX2) (N := 6) hx hb hts hi_X2 hown hK hP 0 rfl rfl 3 (by decide) fl27 (fun _ h9 => h9) rfl dX2_length_9 ?_
    refine lv_iload_n hx hb dX2_length_12 rfl (lv_at hl 1 rfl) ?_
    refine k_iald hx hb hK hP 1 0 rfl rfl k (by omega) dX2_length_13 ?_
    refine kn_i (y := iI (F k : Int)) (rfl) ?_
    refine lv_goto (tgt := 18) hx hb dX2_length_14 (by decide) ?_
    exact k_iret () hx hb hr hlocks hK hP hD hS [0, 1] (by decide) rfl rfl (rfl) hAe hQ dX2_length_18

abbrev rm_c_Plan_source : Room := { frames := 1, cells := 0, slots := 0, locals := 21 }
set_option maxHeartbeats 4000000 in
set_option maxRecDepth 100000 in
theorem c_Plan_source (l : Launch) (D : va_G) (cI cZ : ClassId) (hp : Nat) (ob : Nat) (og : Nat) (ap : Nat) (al : Nat) (aq : Nat) (cnt : Nat) (F : Nat → Int) (z : Int) (hc : cnt ≤ 300) (hz : -2147483648 ≤ z ∧ z < 2147483648) : MI l yX2_source wsX2_source rm_c_Plan_source D (kT cI cZ) [.ref hp, .int (iI (z : Int))] [(hp, .inr (2, [.ref ob, .ref og, .ref ap, .ref al, .ref aq, .int (iI ((cnt : Nat) : Int))])), (aq, .inl (cI, 300, .inl (kA F)))] (fun (r : Int32) (_ : Unit) => r = iI (rZ F cnt z : Int)) (fun (u : Unit) => match u with | _ => [(hp, .inr (2, [.ref ob, .ref og, .ref ap, .ref al, .ref aq, .int (iI ((cnt : Nat) : Int))])), (aq, .inl (cI, 300, .inl (kA F)))]) 0 0 := by
  intro sz
  refine k_of (cc := cX2_source) (maxL := 2) (ret := (some .int)) (by decide) rfl (Nat.le_of_ble_eq_true rfl) ?_
  intro p e s m args below meth c A Q hAe hQ hx hb hr hml hts hown hlocks hnm hP hK hD hS hA ls hl
  have hl : lv_has ls 2 [(0, .ref hp), (1, .int (iI (z : Int)))] := hl
  have hi_X2 : ∀ w ∈ u_ws RX2 TX2 6, w ∈ wsX2_source := fun w h => km (ikX2 w h)
  have fl30 := hts _ (km wm82)
  refine lv_aload_n hx hb dX2_source_0 rfl (lv_at hl 0 rfl) ?_
  refine lv_iload_n hx hb dX2_source_1 rfl (lv_at hl 1 rfl) ?_
  refine k_calli (wc := [(hp, .inr (2, [.ref ob, .ref og, .ref ap, .ref al, .ref aq, .int (iI ((cnt : Nat) : Int))]))]) (wr := [(aq, .inl (cI, 300, .inl (kA F)))]) (wf := fun _ => [(hp, .inr (2, [.ref ob, .ref og, .ref ap, .ref al, .ref aq, .int (iI ((cnt : Nat) : Int))])), (aq, .inl (cI, 300, .inl (kA F)))]) hK hP hD hS hA [0] [1] [1, 0] ⟨⟨rfl, rfl, by decide⟩, rfl, by decide, by decide⟩ (fun _ => ⟨rfl, rfl⟩) (by decide) (fun hPc hDc => va_runV (As := [.int (iI (z : Int))]) (rest := []) ⟨hx, hb, hml, hown, hts⟩ (c_Plan_has l D cI cZ (hp := hp) (ob := ob) (og := og) (ap := ap) (al := al) (aq := aq) (cnt := cnt) (z := z) (hc := by omega) (hz := by omega) _) (cwV 1 hts (kgV wm256 wm257 wm258 wm41 wmcX2_has) rfl rfl rfl (by decide +kernel) ⟨Nat.le_of_ble_eq_true rfl, Nat.le_of_ble_eq_true rfl⟩) (k_preV hK hPc hDc (ci := 2) (q0 := 0) rfl rfl) rfl rfl hl.1 rfl (lv_room (Nat.le_of_ble_eq_true rfl)) dX2_source_2 ⟨Nat.le_of_ble_eq_true rfl, Nat.le_of_ble_eq_true rfl⟩) (fun r2 u H locs hw hP hD hS => ?_)
  have hP : va_P D vwCl [(hp, .inr (2, [.ref ob, .ref og, .ref ap, .ref al, .ref aq, .int (iI ((cnt : Nat) : Int))])), (aq, .inl (cI, 300, .inl (kA F)))] H := hP
  have hD : va_D A [(hp, .inr (2, [.ref ob, .ref og, .ref ap, .ref al, .ref aq, .int (iI ((cnt : Nat) : Int))])), (aq, .inl (cI, 300, .inl (kA F)))] := hD
  refine W.widen (k := 0) (n := 0) (Nat.le_of_ble_eq_true rfl) (Nat.le_of_ble_eq_true rfl) ?_
  have hw : r2 = kb (decide (0 ≤ z ∧ z < ((cnt : Nat) : Int))) := hw
  subst hw
  refine lv_if_eq (tgt := 17) hx hb dX2_source_5 (by decide) (fun c5 => ?_) (fun c5 => ?_)
  · skip
    have c5 : ¬ (0 ≤ z ∧ z < ((cnt : Nat) : Int)) := of_decide_eq_false (kb_T c5)
    refine lv_iconst (v := iI (-1 : Int)) hx hb dX2_source_17 rfl ?_
    exact k_iret () hx hb hr hlocks hK hP hD hS [0, 1] (by decide) rfl rfl (by unfold rZ; first | rw [if_pos (by omega)] | rw [if_neg (by omega)]) hAe hQ dX2_source_18
  · skip
    have c5 : 0 ≤ z ∧ z < ((cnt : Nat) : Int) := of_decide_eq_true (kb_F c5)
    refine lv_aload_n hx hb dX2_source_8 rfl (lv_at hl 0 rfl) ?_
    refine va_get (D := D) (ci := 2) (v := .ref aq) (C := RX2) (T := TX2) (N := 6) hx hb hts hi_X2 hown hK hP 0 rfl rfl 4 (by decide) fl30 (fun _ h9 => h9) rfl dX2_source_9 ?_
    refine lv_iload_n hx hb dX2_source_12 rfl (lv_at hl 1 rfl) ?_
    refine k_iald hx hb hK hP 1 0 rfl rfl z.toNat (by omega) dX2_source_13 ?_
    refine kn_i (y := iI (F z.toNat : Int)) (rfl) ?_
    refine lv_goto (tgt := 18) hx hb dX2_source_14 (by decide) ?_
    exact k_iret () hx hb hr hlocks hK hP hD hS [0, 1] (by decide) rfl rfl (by unfold rZ; first | rw [if_pos (by omega)] | rw [if_neg (by omega)]) hAe hQ dX2_source_18

abbrev rm_c_Plan_sourcek : Room := { frames := 1, cells := 0, slots := 0, locals := 21 }
set_option maxHeartbeats 4000000 in
set_option maxRecDepth 100000 in
theorem c_Plan_sourcek (l : Launch) (D : va_G) (cI cZ : ClassId) (hp : Nat) (ob : Nat) (og : Nat) (ap : Nat) (al : Nat) (aq : Nat) (cnt : Nat) (F : Nat → Int) (k : Nat) (hc : cnt ≤ 300) (hk : k < cnt) : MI l yX2_source wsX2_source rm_c_Plan_sourcek D (kT cI cZ) [.ref hp, .int (iI ((k : Nat) : Int))] [(hp, .inr (2, [.ref ob, .ref og, .ref ap, .ref al, .ref aq, .int (iI ((cnt : Nat) : Int))])), (aq, .inl (cI, 300, .inl (kA F)))] (fun (r : Int32) (_ : Unit) => r = iI (F k : Int)) (fun (u : Unit) => match u with | _ => [(hp, .inr (2, [.ref ob, .ref og, .ref ap, .ref al, .ref aq, .int (iI ((cnt : Nat) : Int))])), (aq, .inl (cI, 300, .inl (kA F)))]) 0 0 := by
  intro sz
  refine k_of (cc := cX2_source) (maxL := 2) (ret := (some .int)) (by decide) rfl (Nat.le_of_ble_eq_true rfl) ?_
  intro p e s m args below meth c A Q hAe hQ hx hb hr hml hts hown hlocks hnm hP hK hD hS hA ls hl
  have hl : lv_has ls 2 [(0, .ref hp), (1, .int (iI ((k : Nat) : Int)))] := hl
  have hi_X2 : ∀ w ∈ u_ws RX2 TX2 6, w ∈ wsX2_source := fun w h => km (ikX2 w h)
  have fl30 := hts _ (km wm82)
  refine lv_aload_n hx hb dX2_source_0 rfl (lv_at hl 0 rfl) ?_
  refine lv_iload_n hx hb dX2_source_1 rfl (lv_at hl 1 rfl) ?_
  refine k_calli (wc := [(hp, .inr (2, [.ref ob, .ref og, .ref ap, .ref al, .ref aq, .int (iI ((cnt : Nat) : Int))]))]) (wr := [(aq, .inl (cI, 300, .inl (kA F)))]) (wf := fun _ => [(hp, .inr (2, [.ref ob, .ref og, .ref ap, .ref al, .ref aq, .int (iI ((cnt : Nat) : Int))])), (aq, .inl (cI, 300, .inl (kA F)))]) hK hP hD hS hA [0] [1] [1, 0] ⟨⟨rfl, rfl, by decide⟩, rfl, by decide, by decide⟩ (fun _ => ⟨rfl, rfl⟩) (by decide) (fun hPc hDc => va_runV (As := [.int (iI ((k : Nat) : Int))]) (rest := []) ⟨hx, hb, hml, hown, hts⟩ (c_Plan_has l D cI cZ (hp := hp) (ob := ob) (og := og) (ap := ap) (al := al) (aq := aq) (cnt := cnt) (z := ((k : Nat) : Int)) (hc := by omega) (hz := by omega) _) (cwV 1 hts (kgV wm256 wm257 wm258 wm41 wmcX2_has) rfl rfl rfl (by decide +kernel) ⟨Nat.le_of_ble_eq_true rfl, Nat.le_of_ble_eq_true rfl⟩) (k_preV hK hPc hDc (ci := 2) (q0 := 0) rfl rfl) rfl rfl hl.1 rfl (lv_room (Nat.le_of_ble_eq_true rfl)) dX2_source_2 ⟨Nat.le_of_ble_eq_true rfl, Nat.le_of_ble_eq_true rfl⟩) (fun r2 u H locs hw hP hD hS => ?_)
  have hP : va_P D vwCl [(hp, .inr (2, [.ref ob, .ref og, .ref ap, .ref al, .ref aq, .int (iI ((cnt : Nat) : Int))])), (aq, .inl (cI, 300, .inl (kA F)))] H := hP
  have hD : va_D A [(hp, .inr (2, [.ref ob, .ref og, .ref ap, .ref al, .ref aq, .int (iI ((cnt : Nat) : Int))])), (aq, .inl (cI, 300, .inl (kA F)))] := hD
  refine W.widen (k := 0) (n := 0) (Nat.le_of_ble_eq_true rfl) (Nat.le_of_ble_eq_true rfl) ?_
  have hw : r2 = kb (decide (0 ≤ ((k : Nat) : Int) ∧ ((k : Nat) : Int) < ((cnt : Nat) : Int))) := hw
  subst hw
  refine lv_if_eq (tgt := 17) hx hb dX2_source_5 (by decide) (fun c5 => ?_) (fun c5 => ?_)
  · skip
    have c5 : ¬ (0 ≤ ((k : Nat) : Int) ∧ ((k : Nat) : Int) < ((cnt : Nat) : Int)) := of_decide_eq_false (kb_T c5)
    omega
  · skip
    have c5 : 0 ≤ ((k : Nat) : Int) ∧ ((k : Nat) : Int) < ((cnt : Nat) : Int) := of_decide_eq_true (kb_F c5)
    refine lv_aload_n hx hb dX2_source_8 rfl (lv_at hl 0 rfl) ?_
    refine va_get (D := D) (ci := 2) (v := .ref aq) (C := RX2) (T := TX2) (N := 6) hx hb hts hi_X2 hown hK hP 0 rfl rfl 4 (by decide) fl30 (fun _ h9 => h9) rfl dX2_source_9 ?_
    refine lv_iload_n hx hb dX2_source_12 rfl (lv_at hl 1 rfl) ?_
    refine k_iald hx hb hK hP 1 0 rfl rfl k (by omega) dX2_source_13 ?_
    refine kn_i (y := iI (F k : Int)) (rfl) ?_
    refine lv_goto (tgt := 18) hx hb dX2_source_14 (by decide) ?_
    exact k_iret () hx hb hr hlocks hK hP hD hS [0, 1] (by decide) rfl rfl (rfl) hAe hQ dX2_source_18

abbrev rm_c_Plan_isCopy : Room := { frames := 2, cells := 0, slots := 0, locals := 42 }
set_option maxHeartbeats 4000000 in
set_option maxRecDepth 100000 in
theorem c_Plan_isCopy (l : Launch) (D : va_G) (cI cZ : ClassId) (hp : Nat) (ob : Nat) (og : Nat) (ap : Nat) (al : Nat) (aq : Nat) (cnt : Nat) (F : Nat → Int) (z : Int) (hc : cnt ≤ 300) (hz : -2147483648 ≤ z ∧ z < 2147483648) (hF : ∀ i, i < cnt → -1 ≤ F i ∧ F i ≤ 300) : MI l yX2_isCopy wsX2_isCopy rm_c_Plan_isCopy D (kT cI cZ) [.ref hp, .int (iI (z : Int))] [(hp, .inr (2, [.ref ob, .ref og, .ref ap, .ref al, .ref aq, .int (iI ((cnt : Nat) : Int))])), (aq, .inl (cI, 300, .inl (kA F)))] (fun (r : Int32) (_ : Unit) => r = kb (decide (¬ rZ F cnt z = -1))) (fun (u : Unit) => match u with | _ => [(hp, .inr (2, [.ref ob, .ref og, .ref ap, .ref al, .ref aq, .int (iI ((cnt : Nat) : Int))])), (aq, .inl (cI, 300, .inl (kA F)))]) 0 0 := by
  intro sz
  refine k_of (cc := cX2_isCopy) (maxL := 2) (ret := (some .boolean)) (by decide) rfl (Nat.le_of_ble_eq_true rfl) ?_
  intro p e s m args below meth c A Q hAe hQ hx hb hr hml hts hown hlocks hnm hP hK hD hS hA ls hl
  have hl : lv_has ls 2 [(0, .ref hp), (1, .int (iI (z : Int)))] := hl
  have hrz := rZ_rng (P := F) (n := cnt) (z := z) (b := 300) (by omega) hF
  refine lv_aload_n hx hb dX2_isCopy_0 rfl (lv_at hl 0 rfl) ?_
  refine lv_iload_n hx hb dX2_isCopy_1 rfl (lv_at hl 1 rfl) ?_
  refine k_calli (wc := [(hp, .inr (2, [.ref ob, .ref og, .ref ap, .ref al, .ref aq, .int (iI ((cnt : Nat) : Int))])), (aq, .inl (cI, 300, .inl (kA F)))]) (wr := []) (wf := fun _ => [(hp, .inr (2, [.ref ob, .ref og, .ref ap, .ref al, .ref aq, .int (iI ((cnt : Nat) : Int))])), (aq, .inl (cI, 300, .inl (kA F)))]) hK hP hD hS hA [0, 1] [] [0, 1] ⟨⟨rfl, rfl, by decide⟩, rfl, by decide, by decide⟩ (fun _ => ⟨rfl, rfl⟩) (by decide) (fun hPc hDc => va_runV (As := [.int (iI (z : Int))]) (rest := []) ⟨hx, hb, hml, hown, hts⟩ (c_Plan_source l D cI cZ (hp := hp) (ob := ob) (og := og) (ap := ap) (al := al) (aq := aq) (cnt := cnt) (F := F) (z := z) (hc := by omega) (hz := by omega) _) (cwV 1 hts (kgV wm264 wm265 wm266 wm41 wmcX2_source) rfl rfl rfl (by decide +kernel) ⟨Nat.le_of_ble_eq_true rfl, Nat.le_of_ble_eq_true rfl⟩) (k_preV hK hPc hDc (ci := 2) (q0 := 0) rfl rfl) rfl rfl hl.1 rfl (lv_room (Nat.le_of_ble_eq_true rfl)) dX2_isCopy_2 ⟨Nat.le_of_ble_eq_true rfl, Nat.le_of_ble_eq_true rfl⟩) (fun r2 u H locs hw hP hD hS => ?_)
  have hP : va_P D vwCl [(hp, .inr (2, [.ref ob, .ref og, .ref ap, .ref al, .ref aq, .int (iI ((cnt : Nat) : Int))])), (aq, .inl (cI, 300, .inl (kA F)))] H := hP
  have hD : va_D A [(hp, .inr (2, [.ref ob, .ref og, .ref ap, .ref al, .ref aq, .int (iI ((cnt : Nat) : Int))])), (aq, .inl (cI, 300, .inl (kA F)))] := hD
  refine W.widen (k := 0) (n := 0) (Nat.le_of_ble_eq_true rfl) (Nat.le_of_ble_eq_true rfl) ?_
  have hw : r2 = iI (rZ F cnt z : Int) := hw
  subst hw
  refine lv_iconst (v := iI (-1 : Int)) hx hb dX2_isCopy_5 rfl ?_
  refine lv_icmp_eq (tgt := 13) hx hb dX2_isCopy_6 (by decide) (fun c6 => ?_) (fun c6 => ?_)
  · skip
    have c6 := iI_eqT (a := (rZ F cnt z : Int)) (b := (-1 : Int)) c6 (by omega)
    refine lv_iconst (v := iI (0 : Int)) hx hb dX2_isCopy_13 rfl ?_
    exact k_zret () hx hb hr (by decide) hlocks hK hP hD hS [0, 1] (by decide) rfl rfl (by first | exact kb1 (by omega) | exact kb0 (by omega)) hAe hQ dX2_isCopy_14
  · skip
    have c6 := iI_eqF (a := (rZ F cnt z : Int)) (b := (-1 : Int)) c6 (by omega)
    refine lv_iconst (v := iI (1 : Int)) hx hb dX2_isCopy_9 rfl ?_
    refine lv_goto (tgt := 14) hx hb dX2_isCopy_10 (by decide) ?_
    exact k_zret () hx hb hr (by decide) hlocks hK hP hD hS [0, 1] (by decide) rfl rfl (by first | exact kb1 (by omega) | exact kb0 (by omega)) hAe hQ dX2_isCopy_14

abbrev rm_c_Plan_isCopyk : Room := { frames := 2, cells := 0, slots := 0, locals := 42 }
set_option maxHeartbeats 4000000 in
set_option maxRecDepth 100000 in
theorem c_Plan_isCopyk (l : Launch) (D : va_G) (cI cZ : ClassId) (hp : Nat) (ob : Nat) (og : Nat) (ap : Nat) (al : Nat) (aq : Nat) (cnt : Nat) (F : Nat → Int) (k : Nat) (hc : cnt ≤ 300) (hk : k < cnt) (hF : ∀ i, i < cnt → -1 ≤ F i ∧ F i ≤ 300) : MI l yX2_isCopy wsX2_isCopy rm_c_Plan_isCopyk D (kT cI cZ) [.ref hp, .int (iI ((k : Nat) : Int))] [(hp, .inr (2, [.ref ob, .ref og, .ref ap, .ref al, .ref aq, .int (iI ((cnt : Nat) : Int))])), (aq, .inl (cI, 300, .inl (kA F)))] (fun (r : Int32) (_ : Unit) => r = kb (decide (¬ F k = -1))) (fun (u : Unit) => match u with | _ => [(hp, .inr (2, [.ref ob, .ref og, .ref ap, .ref al, .ref aq, .int (iI ((cnt : Nat) : Int))])), (aq, .inl (cI, 300, .inl (kA F)))]) 0 0 := by
  intro sz
  refine k_of (cc := cX2_isCopy) (maxL := 2) (ret := (some .boolean)) (by decide) rfl (Nat.le_of_ble_eq_true rfl) ?_
  intro p e s m args below meth c A Q hAe hQ hx hb hr hml hts hown hlocks hnm hP hK hD hS hA ls hl
  have hl : lv_has ls 2 [(0, .ref hp), (1, .int (iI ((k : Nat) : Int)))] := hl
  have hrz := hF k hk
  refine lv_aload_n hx hb dX2_isCopy_0 rfl (lv_at hl 0 rfl) ?_
  refine lv_iload_n hx hb dX2_isCopy_1 rfl (lv_at hl 1 rfl) ?_
  refine k_calli (wc := [(hp, .inr (2, [.ref ob, .ref og, .ref ap, .ref al, .ref aq, .int (iI ((cnt : Nat) : Int))])), (aq, .inl (cI, 300, .inl (kA F)))]) (wr := []) (wf := fun _ => [(hp, .inr (2, [.ref ob, .ref og, .ref ap, .ref al, .ref aq, .int (iI ((cnt : Nat) : Int))])), (aq, .inl (cI, 300, .inl (kA F)))]) hK hP hD hS hA [0, 1] [] [0, 1] ⟨⟨rfl, rfl, by decide⟩, rfl, by decide, by decide⟩ (fun _ => ⟨rfl, rfl⟩) (by decide) (fun hPc hDc => va_runV (As := [.int (iI ((k : Nat) : Int))]) (rest := []) ⟨hx, hb, hml, hown, hts⟩ (c_Plan_sourcek l D cI cZ (hp := hp) (ob := ob) (og := og) (ap := ap) (al := al) (aq := aq) (cnt := cnt) (F := F) (k := k) (hc := by omega) (hk := by omega) _) (cwV 1 hts (kgV wm264 wm265 wm266 wm41 wmcX2_source) rfl rfl rfl (by decide +kernel) ⟨Nat.le_of_ble_eq_true rfl, Nat.le_of_ble_eq_true rfl⟩) (k_preV hK hPc hDc (ci := 2) (q0 := 0) rfl rfl) rfl rfl hl.1 rfl (lv_room (Nat.le_of_ble_eq_true rfl)) dX2_isCopy_2 ⟨Nat.le_of_ble_eq_true rfl, Nat.le_of_ble_eq_true rfl⟩) (fun r2 u H locs hw hP hD hS => ?_)
  have hP : va_P D vwCl [(hp, .inr (2, [.ref ob, .ref og, .ref ap, .ref al, .ref aq, .int (iI ((cnt : Nat) : Int))])), (aq, .inl (cI, 300, .inl (kA F)))] H := hP
  have hD : va_D A [(hp, .inr (2, [.ref ob, .ref og, .ref ap, .ref al, .ref aq, .int (iI ((cnt : Nat) : Int))])), (aq, .inl (cI, 300, .inl (kA F)))] := hD
  refine W.widen (k := 0) (n := 0) (Nat.le_of_ble_eq_true rfl) (Nat.le_of_ble_eq_true rfl) ?_
  have hw : r2 = iI (F k : Int) := hw
  subst hw
  refine lv_iconst (v := iI (-1 : Int)) hx hb dX2_isCopy_5 rfl ?_
  refine lv_icmp_eq (tgt := 13) hx hb dX2_isCopy_6 (by decide) (fun c6 => ?_) (fun c6 => ?_)
  · skip
    have c6 := iI_eqT (a := (F k : Int)) (b := (-1 : Int)) c6 (by omega)
    refine lv_iconst (v := iI (0 : Int)) hx hb dX2_isCopy_13 rfl ?_
    exact k_zret () hx hb hr (by decide) hlocks hK hP hD hS [0, 1] (by decide) rfl rfl (by first | exact kb1 (by omega) | exact kb0 (by omega)) hAe hQ dX2_isCopy_14
  · skip
    have c6 := iI_eqF (a := (F k : Int)) (b := (-1 : Int)) c6 (by omega)
    refine lv_iconst (v := iI (1 : Int)) hx hb dX2_isCopy_9 rfl ?_
    refine lv_goto (tgt := 14) hx hb dX2_isCopy_10 (by decide) ?_
    exact k_zret () hx hb hr (by decide) hlocks hK hP hD hS [0, 1] (by decide) rfl rfl (by first | exact kb1 (by omega) | exact kb0 (by omega)) hAe hQ dX2_isCopy_14
