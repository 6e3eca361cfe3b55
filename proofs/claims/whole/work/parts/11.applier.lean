abbrev rm_c_Row_atN : Room := { frames := 0, cells := 0, slots := 0, locals := 0 }
set_option maxHeartbeats 4000000 in
set_option maxRecDepth 100000 in
theorem c_Row_atN (l : Launch) (D : va_G) (cI cZ : ClassId) (h : Nat) (a : Nat) (M : Nat) (n : Nat) (F : Nat → Nat) (k : Nat) (hM : M ≤ 900) (hn : n ≤ M) (hk : k < 2000) : MI l yX3_at wsX3_at rm_c_Row_atN D (kT cI cZ) [.ref h, .int (iI ((k : Nat) : Int))] [(h, .inr (3, [.ref a, .int (iI ((n : Nat) : Int))])), (a, .inl (cI, M, .inl (kN F)))] (fun (r : Int32) (_ : Unit) => r = iI (rK F n k : Int)) (fun (u : Unit) => match u with | _ => [(h, .inr (3, [.ref a, .int (iI ((n : Nat) : Int))])), (a, .inl (cI, M, .inl (kN F)))]) 0 0 := by
  intro sz
  refine k_of (cc := cX3_at) (maxL := 2) (ret := (some .int)) (by decide) rfl (Nat.le_of_ble_eq_true rfl) ?_
  intro p e s m args below meth c A Q hAe hQ hx hb hr hml hts hown hlocks hnm hP hK hD hS hA ls hl
  have hl : lv_has ls 2 [(0, .ref h), (1, .int (iI ((k : Nat) : Int)))] := hl
  have hi_X3 : ∀ w ∈ u_ws RX3 TX3 2, w ∈ wsX3_at := fun w h => km (ikX3 w h)
  have fl21 := hts _ (km wm63)
  have fl15 := hts _ (km wm62)
  refine lv_iload_n hx hb dX3_at_0 rfl (lv_at hl 1 rfl) ?_
  refine lv_if_lt (tgt := 21) hx hb dX3_at_1 (by decide) (fun c1 => ?_) (fun c1 => ?_)
  · skip
    have c1 := iI_ltT (a := ((k : Nat) : Int)) (b := (0 : Int)) c1 (by omega)
    omega
  · skip
    have c1 := iI_ltF (a := ((k : Nat) : Int)) (b := (0 : Int)) c1 (by omega)
    refine lv_iload_n hx hb dX3_at_4 rfl (lv_at hl 1 rfl) ?_
    refine lv_aload_n hx hb dX3_at_5 rfl (lv_at hl 0 rfl) ?_
    refine va_get (D := D) (ci := 3) (v := .int (iI ((n : Nat) : Int))) (C := RX3) (T := TX3) (N := 2) hx hb hts hi_X3 hown hK hP 0 rfl rfl 1 (by decide) fl21 (fun _ h9 => h9) rfl dX3_at_6 ?_
    refine lv_icmp_ge (tgt := 21) hx hb dX3_at_9 (by decide) (fun c9 => ?_) (fun c9 => ?_)
    · skip
      have c9 := iI_leT (a := ((n : Nat) : Int)) (b := ((k : Nat) : Int)) c9 (by omega)
      refine lv_iconst (v := iI (-1 : Int)) hx hb dX3_at_21 rfl ?_
      exact k_iret () hx hb hr hlocks hK hP hD hS [0, 1] (by decide) rfl rfl (by unfold rK; first | rw [if_pos (by omega)] | rw [if_neg (by omega)]) hAe hQ dX3_at_22
    · skip
      have c9 := iI_leF (a := ((n : Nat) : Int)) (b := ((k : Nat) : Int)) c9 (by omega)
      refine lv_aload_n hx hb dX3_at_12 rfl (lv_at hl 0 rfl) ?_
      refine va_get (D := D) (ci := 3) (v := .ref a) (C := RX3) (T := TX3) (N := 2) hx hb hts hi_X3 hown hK hP 0 rfl rfl 0 (by decide) fl15 (fun _ h9 => h9) rfl dX3_at_13 ?_
      refine lv_iload_n hx hb dX3_at_16 rfl (lv_at hl 1 rfl) ?_
      refine k_iald hx hb hK hP 1 0 rfl rfl k (by omega) dX3_at_17 ?_
      refine kn_i (y := iI ((F k : Nat) : Int)) (rfl) ?_
      refine lv_goto (tgt := 22) hx hb dX3_at_18 (by decide) ?_
      exact k_iret () hx hb hr hlocks hK hP hD hS [0, 1] (by decide) rfl rfl (by unfold rK; first | rw [if_pos (by omega)] | rw [if_neg (by omega)]) hAe hQ dX3_at_22

abbrev rm_c_Row_atNk : Room := { frames := 0, cells := 0, slots := 0, locals := 0 }
set_option maxHeartbeats 4000000 in
set_option maxRecDepth 100000 in
theorem c_Row_atNk (l : Launch) (D : va_G) (cI cZ : ClassId) (h : Nat) (a : Nat) (M : Nat) (n : Nat) (F : Nat → Nat) (k : Nat) (hM : M ≤ 900) (hn : n ≤ M) (hk : k < n) : MI l yX3_at wsX3_at rm_c_Row_atNk D (kT cI cZ) [.ref h, .int (iI ((k : Nat) : Int))] [(h, .inr (3, [.ref a, .int (iI ((n : Nat) : Int))])), (a, .inl (cI, M, .inl (kN F)))] (fun (r : Int32) (_ : Unit) => r = iI ((F k : Nat) : Int)) (fun (u : Unit) => match u with | _ => [(h, .inr (3, [.ref a, .int (iI ((n : Nat) : Int))])), (a, .inl (cI, M, .inl (kN F)))]) 0 0 := by
  intro sz
  refine k_of (cc := cX3_at) (maxL := 2) (ret := (some .int)) (by decide) rfl (Nat.le_of_ble_eq_true rfl) ?_
  intro p e s m args below meth c A Q hAe hQ hx hb hr hml hts hown hlocks hnm hP hK hD hS hA ls hl
  have hl : lv_has ls 2 [(0, .ref h), (1, .int (iI ((k : Nat) : Int)))] := hl
  have hi_X3 : ∀ w ∈ u_ws RX3 TX3 2, w ∈ wsX3_at := fun w h => km (ikX3 w h)
  have fl21 := hts _ (km wm63)
  have fl15 := hts _ (km wm62)
  refine lv_iload_n hx hb dX3_at_0 rfl (lv_at hl 1 rfl) ?_
  refine lv_if_lt (tgt := 21) hx hb dX3_at_1 (by decide) (fun c1 => ?_) (fun c1 => ?_)
  · skip
    have c1 := iI_ltT (a := ((k : Nat) : Int)) (b := (0 : Int)) c1 (by omega)
    omega
  · skip
    have c1 := iI_ltF (a := ((k : Nat) : Int)) (b := (0 : Int)) c1 (by omega)
    refine lv_iload_n hx hb dX3_at_4 rfl (lv_at hl 1 rfl) ?_
    refine lv_aload_n hx hb dX3_at_5 rfl (lv_at hl 0 rfl) ?_
    refine va_get (D := D) (ci := 3) (v := .int (iI ((n : Nat) : Int))) (C := RX3) (T := TX3) (N := 2) hx hb hts hi_X3 hown hK hP 0 rfl rfl 1 (by decide) fl21 (fun _ h9 => h9) rfl dX3_at_6 ?_
    refine lv_icmp_ge (tgt := 21) hx hb dX3_at_9 (by decide) (fun c9 => ?_) (fun c9 => ?_)
    · skip
      have c9 := iI_leT (a := ((n : Nat) : Int)) (b := ((k : Nat) : Int)) c9 (by omega)
      omega
    · skip
      have c9 := iI_leF (a := ((n : Nat) : Int)) (b := ((k : Nat) : Int)) c9 (by omega)
      refine lv_aload_n hx hb dX3_at_12 rfl (lv_at hl 0 rfl) ?_
      refine va_get (D := D) (ci := 3) (v := .ref a) (C := RX3) (T := TX3) (N := 2) hx hb hts hi_X3 hown hK hP 0 rfl rfl 0 (by decide) fl15 (fun _ h9 => h9) rfl dX3_at_13 ?_
      refine lv_iload_n hx hb dX3_at_16 rfl (lv_at hl 1 rfl) ?_
      refine k_iald hx hb hK hP 1 0 rfl rfl k (by omega) dX3_at_17 ?_
      refine kn_i (y := iI ((F k : Nat) : Int)) (rfl) ?_
      refine lv_goto (tgt := 22) hx hb dX3_at_18 (by decide) ?_
      exact k_iret () hx hb hr hlocks hK hP hD hS [0, 1] (by decide) rfl rfl (rfl) hAe hQ dX3_at_22

abbrev rm_c_Applier_unread : Room := { frames := 1, cells := 0, slots := 0, locals := 20 }
set_option maxHeartbeats 4000000 in
set_option maxRecDepth 100000 in
theorem c_Applier_unread (l : Launch) (D : va_G) (cI cZ : ClassId) (ha : Nat) (h3 : Nat) (h1 : Nat) (h4 : Nat) (a0 : Nat) (b0 : Nat) (ds : Int) (dc : Int32) (a3 : Nat) (n3 : Nat) (F : Nat → Nat) (hat : a0 ≤ n3) (hn3 : n3 ≤ 900) : MI l yX0_unread wsX0_unread rm_c_Applier_unread D (kT cI cZ) [.ref ha] [(ha, .inr (0, [.ref h3, .ref h1, .ref h4, .int (iI ((a0 : Nat) : Int)), .int (iI ((b0 : Nat) : Int)), .int (iI (ds : Int)), .int dc])), (h3, .inr (3, [.ref a3, .int (iI ((n3 : Nat) : Int))])), (a3, .inl (cI, 900, .inl (kN F)))] (fun (r : Int32) (_ : Unit) => r = iI (((n3 - a0) : Nat) : Int)) (fun (u : Unit) => match u with | _ => [(ha, .inr (0, [.ref h3, .ref h1, .ref h4, .int (iI ((a0 : Nat) : Int)), .int (iI ((b0 : Nat) : Int)), .int (iI (ds : Int)), .int dc])), (h3, .inr (3, [.ref a3, .int (iI ((n3 : Nat) : Int))])), (a3, .inl (cI, 900, .inl (kN F)))]) 0 0 := by
  intro sz
  refine k_of (cc := cX0_unread) (maxL := 1) (ret := (some .int)) (by decide) rfl (Nat.le_of_ble_eq_true rfl) ?_
  intro p e s m args below meth c A Q hAe hQ hx hb hr hml hts hown hlocks hnm hP hK hD hS hA ls hl
  have hl : lv_has ls 1 [(0, .ref ha)] := hl
  have hi_X0 : ∀ w ∈ u_ws RX0 TX0 7, w ∈ wsX0_unread := fun w h => km (ikX0 w h)
  have fl9 := hts _ (km wm103)
  have fl21 := hts _ (km wm106)
  refine lv_aload_n hx hb dX0_unread_0 rfl (lv_at hl 0 rfl) ?_
  refine va_get (D := D) (ci := 0) (v := .ref h3) (C := RX0) (T := TX0) (N := 7) hx hb hts hi_X0 hown hK hP 0 rfl rfl 0 (by decide) fl9 (fun _ h9 => h9) rfl dX0_unread_1 ?_
  refine k_calli (wc := [(h3, .inr (3, [.ref a3, .int (iI ((n3 : Nat) : Int))])), (a3, .inl (cI, 900, .inl (kN F)))]) (wr := [(ha, .inr (0, [.ref h3, .ref h1, .ref h4, .int (iI ((a0 : Nat) : Int)), .int (iI ((b0 : Nat) : Int)), .int (iI (ds : Int)), .int dc]))]) (wf := fun _ => [(ha, .inr (0, [.ref h3, .ref h1, .ref h4, .int (iI ((a0 : Nat) : Int)), .int (iI ((b0 : Nat) : Int)), .int (iI (ds : Int)), .int dc])), (h3, .inr (3, [.ref a3, .int (iI ((n3 : Nat) : Int))])), (a3, .inl (cI, 900, .inl (kN F)))]) hK hP hD hS hA [1, 2] [0] [0, 1, 2] ⟨⟨rfl, rfl, by decide⟩, rfl, by decide, by decide⟩ (fun _ => ⟨rfl, rfl⟩) (by decide) (fun hPc hDc => va_runV (As := []) (rest := []) ⟨hx, hb, hml, hown, hts⟩ (c_Row_count l D cI cZ (h := h3) (a := a3) (M := 900) (n := n3) (f := (kN F))  _) (cwV 0 hts (kgV wm358 wm193 wm194 wm39 wmcX3_count) rfl rfl rfl (by decide +kernel) ⟨Nat.le_of_ble_eq_true rfl, Nat.le_of_ble_eq_true rfl⟩) (k_preV hK hPc hDc (ci := 3) (q0 := 0) rfl rfl) rfl rfl hl.1 rfl (lv_room (Nat.le_of_ble_eq_true rfl)) dX0_unread_4 ⟨Nat.le_of_ble_eq_true rfl, Nat.le_of_ble_eq_true rfl⟩) (fun r4 u H locs hw hP hD hS => ?_)
  have hP : va_P D vwCl [(ha, .inr (0, [.ref h3, .ref h1, .ref h4, .int (iI ((a0 : Nat) : Int)), .int (iI ((b0 : Nat) : Int)), .int (iI (ds : Int)), .int dc])), (h3, .inr (3, [.ref a3, .int (iI ((n3 : Nat) : Int))])), (a3, .inl (cI, 900, .inl (kN F)))] H := hP
  have hD : va_D A [(ha, .inr (0, [.ref h3, .ref h1, .ref h4, .int (iI ((a0 : Nat) : Int)), .int (iI ((b0 : Nat) : Int)), .int (iI (ds : Int)), .int dc])), (h3, .inr (3, [.ref a3, .int (iI ((n3 : Nat) : Int))])), (a3, .inl (cI, 900, .inl (kN F)))] := hD
  refine W.widen (k := 0) (n := 0) (Nat.le_of_ble_eq_true rfl) (Nat.le_of_ble_eq_true rfl) ?_
  have hw : r4 = iI ((n3 : Nat) : Int) := hw
  subst hw
  refine lv_aload_n hx hb dX0_unread_7 rfl (lv_at hl 0 rfl) ?_
  refine va_get (D := D) (ci := 0) (v := .int (iI ((a0 : Nat) : Int))) (C := RX0) (T := TX0) (N := 7) hx hb hts hi_X0 hown hK hP 0 rfl rfl 3 (by decide) fl21 (fun _ h9 => h9) rfl dX0_unread_8 ?_
  refine lv_isub hx hb dX0_unread_11 ?_
  refine kn_i (iB (c := (((n3 - a0) : Nat) : Int)) (by omega)) ?_
  exact k_iret () hx hb hr hlocks hK hP hD hS [0, 1, 2] (by decide) rfl rfl (rfl) hAe hQ dX0_unread_12

abbrev rm_c_Applier_readVarint : Room := { frames := 1, cells := 0, slots := 0, locals := 21 }
set_option maxHeartbeats 4000000 in
set_option maxRecDepth 100000 in
theorem c_Applier_readVarint (l : Launch) (D : va_G) (cI cZ : ClassId) (ha : Nat) (h3 : Nat) (h1 : Nat) (h4 : Nat) (a0 : Nat) (b0 : Nat) (ds : Int) (dc : Int32) (a3 : Nat) (n3 : Nat) (F : Nat → Nat) (hat : a0 ≤ n3) (hn3 : n3 ≤ 900) (hB : ∀ j, j < n3 → F j < 256) : MI l yX0_readVarint wsX0_readVarint rm_c_Applier_readVarint D (kT cI cZ) [.ref ha] [(ha, .inr (0, [.ref h3, .ref h1, .ref h4, .int (iI ((a0 : Nat) : Int)), .int (iI ((b0 : Nat) : Int)), .int (iI (ds : Int)), .int dc])), (h3, .inr (3, [.ref a3, .int (iI ((n3 : Nat) : Int))])), (a3, .inl (cI, 900, .inl (kN F)))] (fun (r : Int32) (_ : Unit) => r = iI ((rv F n3 a0).1 : Int)) (fun (u : Unit) => match u with | _ => [(ha, .inr (0, [.ref h3, .ref h1, .ref h4, .int (iI (((rv F n3 a0).2 : Nat) : Int)), .int (iI ((b0 : Nat) : Int)), .int (iI (ds : Int)), .int dc])), (h3, .inr (3, [.ref a3, .int (iI ((n3 : Nat) : Int))])), (a3, .inl (cI, 900, .inl (kN F)))]) 0 0 := by
  intro sz
  refine k_of (cc := cX0_readVarint) (maxL := 4) (ret := (some .int)) (by decide) rfl (Nat.le_of_ble_eq_true rfl) ?_
  intro p e s m args below meth c A Q hAe hQ hx hb hr hml hts hown hlocks hnm hP hK hD hS hA ls hl
  have hl : lv_has ls 4 [(0, .ref ha)] := hl
  have hi_X0 : ∀ w ∈ u_ws RX0 TX0 7, w ∈ wsX0_readVarint := fun w h => km (ikX0 w h)
  have fl9 := hts _ (km wm103)
  have fl21 := hts _ (km wm106)
  refine lv_iconst (v := iI ((0 : Nat) : Int)) hx hb dX0_readVarint_0 rfl ?_
  refine lv_istore_n (lv' := [(1, .int (iI ((0 : Nat) : Int))), (0, .ref ha)]) hx hb dX0_readVarint_1 rfl hl (by decide) rfl (fun ls hl => ?_)
  refine lv_iconst (v := iI ((0 : Nat) : Int)) hx hb dX0_readVarint_2 rfl ?_
  refine lv_istore_n (lv' := [(2, .int (iI ((0 : Nat) : Int))), (1, .int (iI ((0 : Nat) : Int))), (0, .ref ha)]) hx hb dX0_readVarint_3 rfl hl (by decide) rfl (fun ls hl => ?_)
  have lp4 : ∀ (fu : Nat) (k : Nat) (acc : Nat) (a9 : Nat) (H : Heap) (locs : List Loc) (ls : Array Slot), 4 - k < fu → (k ≤ 4) → (acc < 128 ^ k) → (a9 ≤ n3) → (rvF F n3 (4 - k) k acc a9 = rv F n3 a0) → va_P D vwCl [(ha, .inr (0, [.ref h3, .ref h1, .ref h4, .int (iI ((a9 : Nat) : Int)), .int (iI ((b0 : Nat) : Int)), .int (iI (ds : Int)), .int dc])), (h3, .inr (3, [.ref a3, .int (iI ((n3 : Nat) : Int))])), (a3, .inl (cI, 900, .inl (kN F)))] H → va_D A [(ha, .inr (0, [.ref h3, .ref h1, .ref h4, .int (iI ((a9 : Nat) : Int)), .int (iI ((b0 : Nat) : Int)), .int (iI (ds : Int)), .int dc])), (h3, .inr (3, [.ref a3, .int (iI ((n3 : Nat) : Int))])), (a3, .inl (cI, 900, .inl (kN F)))] → va_S A s.heap H locs → lv_has ls 4 [(0, .ref ha), (1, .int (iI ((acc : Nat) : Int))), (2, .int (iI ((k : Nat) : Int)))] → W p l e rm_c_Applier_readVarint s m args below meth c H locs 0 0 Q (F0 m 4 ls []) := by
    intro fu
    induction fu with
    | zero => intro k acc a9 H locs ls hfu; exact absurd hfu (Nat.not_lt_zero _)
    | succ fu ih4 =>
      intro k acc a9 H locs ls hfu hk hacc ha9 hR hP hD hS hl
      refine lv_iload_n hx hb dX0_readVarint_4 rfl (lv_at hl 2 rfl) ?_
      refine lv_iconst (v := iI (4 : Int)) hx hb dX0_readVarint_5 rfl ?_
      refine lv_icmp_ge (tgt := 77) hx hb dX0_readVarint_6 (by decide) (fun c6 => ?_) (fun c6 => ?_)
      · skip
        have c6 := iI_leT (a := (4 : Int)) (b := ((k : Nat) : Int)) c6 (by omega)
        refine lv_iconst (v := iI (-1 : Int)) hx hb dX0_readVarint_77 rfl ?_
        have hE : rv F n3 a0 = (-1, a9) := by rw [← hR, show 4 - k = 0 by omega]; rfl
        rw [show iI ((a9 : Nat) : Int) = iI (((rv F n3 a0).2 : Nat) : Int) from by rw [hE]] at hP hD
        exact k_iret () hx hb hr hlocks hK hP hD hS [0, 1, 2] (by decide) rfl rfl (by rw [hE]) hAe hQ dX0_readVarint_78
      · skip
        have c6 := iI_leF (a := (4 : Int)) (b := ((k : Nat) : Int)) c6 (by omega)
        refine lv_aload_n hx hb dX0_readVarint_9 rfl (lv_at hl 0 rfl) ?_
        refine va_get (D := D) (ci := 0) (v := .ref h3) (C := RX0) (T := TX0) (N := 7) hx hb hts hi_X0 hown hK hP 0 rfl rfl 0 (by decide) fl9 (fun _ h9 => h9) rfl dX0_readVarint_10 ?_
        refine lv_aload_n hx hb dX0_readVarint_13 rfl (lv_at hl 0 rfl) ?_
        refine va_get (D := D) (ci := 0) (v := .int (iI ((a9 : Nat) : Int))) (C := RX0) (T := TX0) (N := 7) hx hb hts hi_X0 hown hK hP 0 rfl rfl 3 (by decide) fl21 (fun _ h9 => h9) rfl dX0_readVarint_14 ?_
        refine k_calli (wc := [(h3, .inr (3, [.ref a3, .int (iI ((n3 : Nat) : Int))])), (a3, .inl (cI, 900, .inl (kN F)))]) (wr := [(ha, .inr (0, [.ref h3, .ref h1, .ref h4, .int (iI ((a9 : Nat) : Int)), .int (iI ((b0 : Nat) : Int)), .int (iI (ds : Int)), .int dc]))]) (wf := fun _ => [(ha, .inr (0, [.ref h3, .ref h1, .ref h4, .int (iI ((a9 : Nat) : Int)), .int (iI ((b0 : Nat) : Int)), .int (iI (ds : Int)), .int dc])), (h3, .inr (3, [.ref a3, .int (iI ((n3 : Nat) : Int))])), (a3, .inl (cI, 900, .inl (kN F)))]) hK hP hD hS hA [1, 2] [0] [0, 1, 2] ⟨⟨rfl, rfl, by decide⟩, rfl, by decide, by decide⟩ (fun _ => ⟨rfl, rfl⟩) (by decide) (fun hPc hDc => va_runV (As := [.int (iI ((a9 : Nat) : Int))]) (rest := []) ⟨hx, hb, hml, hown, hts⟩ (c_Row_atN l D cI cZ (h := h3) (a := a3) (M := 900) (n := n3) (F := F) (k := a9) (hM := by omega) (hn := by omega) (hk := by omega) _) (cwV 1 hts (kgV wm353 wm225 wm226 wm39 wmcX3_at) rfl rfl rfl (by decide +kernel) ⟨Nat.le_of_ble_eq_true rfl, Nat.le_of_ble_eq_true rfl⟩) (k_preV hK hPc hDc (ci := 3) (q0 := 0) rfl rfl) rfl rfl hl.1 rfl (lv_room (Nat.le_of_ble_eq_true rfl)) dX0_readVarint_17 ⟨Nat.le_of_ble_eq_true rfl, Nat.le_of_ble_eq_true rfl⟩) (fun r17 u H locs hw hP hD hS => ?_)
        have hP : va_P D vwCl [(ha, .inr (0, [.ref h3, .ref h1, .ref h4, .int (iI ((a9 : Nat) : Int)), .int (iI ((b0 : Nat) : Int)), .int (iI (ds : Int)), .int dc])), (h3, .inr (3, [.ref a3, .int (iI ((n3 : Nat) : Int))])), (a3, .inl (cI, 900, .inl (kN F)))] H := hP
        have hD : va_D A [(ha, .inr (0, [.ref h3, .ref h1, .ref h4, .int (iI ((a9 : Nat) : Int)), .int (iI ((b0 : Nat) : Int)), .int (iI (ds : Int)), .int dc])), (h3, .inr (3, [.ref a3, .int (iI ((n3 : Nat) : Int))])), (a3, .inl (cI, 900, .inl (kN F)))] := hD
        refine W.widen (k := 0) (n := 0) (Nat.le_of_ble_eq_true rfl) (Nat.le_of_ble_eq_true rfl) ?_
        have hw : r17 = iI (rK F n3 a9 : Int) := hw
        subst hw
        have hrk := rK_rng (n := n3) (k := a9) hB
        refine lv_istore_n (lv' := [(3, .int (iI (rK F n3 a9 : Int))), (0, .ref ha), (1, .int (iI ((acc : Nat) : Int))), (2, .int (iI ((k : Nat) : Int)))]) hx hb dX0_readVarint_20 rfl hl (by decide) rfl (fun ls hl => ?_)
        refine lv_iload_n hx hb dX0_readVarint_21 rfl (lv_at hl 0 rfl) ?_
        refine lv_iconst (v := iI (-1 : Int)) hx hb dX0_readVarint_22 rfl ?_
        refine lv_icmp_ne (tgt := 28) hx hb dX0_readVarint_23 (by decide) (fun c23 => ?_) (fun c23 => ?_)
        · skip
          have c23 := iI_eqF (a := (rK F n3 a9 : Int)) (b := (-1 : Int)) c23 (by omega)
          have hlt := rK_lt c23
          have hv := rK_in (F := F) hlt
          have hb9 := hB a9 hlt
          refine lv_aload_n hx hb dX0_readVarint_28 rfl (lv_at hl 1 rfl) ?_
          refine lv_dup hx hb dX0_readVarint_29 rfl ?_
          refine va_get (D := D) (ci := 0) (v := .int (iI ((a9 : Nat) : Int))) (C := RX0) (T := TX0) (N := 7) hx hb hts hi_X0 hown hK hP 0 rfl rfl 3 (by decide) fl21 (fun _ h9 => h9) rfl dX0_readVarint_30 ?_
          refine lv_iconst (v := iI (1 : Int)) hx hb dX0_readVarint_33 rfl ?_
          refine lv_iadd hx hb dX0_readVarint_34 ?_
          refine kn_i (iA (c := ((a9 + 1 : Nat) : Int)) (by omega)) ?_
          refine va_put (D := D) (ci := 0) (v := .int (iI ((a9 + 1 : Nat) : Int))) (ty := .int) (C := RX0) (T := TX0) (N := 7) hx hb hts hi_X0 tyX0 tyX0_ok nmX0 hown hK hP hD hS 0 rfl rfl 3 (by decide) fl21 (fun _ h9 => h9) rfl (by decide +kernel) rfl rfl (Nat.le_of_ble_eq_true rfl) dX0_readVarint_35 (fun H locs hP hD hS => ?_)
          have hP : va_P D vwCl [(ha, .inr (0, [.ref h3, .ref h1, .ref h4, .int (iI ((a9 + 1 : Nat) : Int)), .int (iI ((b0 : Nat) : Int)), .int (iI (ds : Int)), .int dc])), (h3, .inr (3, [.ref a3, .int (iI ((n3 : Nat) : Int))])), (a3, .inl (cI, 900, .inl (kN F)))] H := hP
          have hD : va_D A [(ha, .inr (0, [.ref h3, .ref h1, .ref h4, .int (iI ((a9 + 1 : Nat) : Int)), .int (iI ((b0 : Nat) : Int)), .int (iI (ds : Int)), .int dc])), (h3, .inr (3, [.ref a3, .int (iI ((n3 : Nat) : Int))])), (a3, .inl (cI, 900, .inl (kN F)))] := hD
          refine lv_iload_n hx hb dX0_readVarint_38 rfl (lv_at hl 2 rfl) ?_
          refine lv_iload_n hx hb dX0_readVarint_39 rfl (lv_at hl 0 rfl) ?_
          refine lv_bipush (v := iI (127 : Int)) hx hb dX0_readVarint_40 (by decide) ?_
          refine lv_iand hx hb dX0_readVarint_42 ?_
          refine kn_i (y := iI ((F a9 % 128 : Nat) : Int)) (by rw [hv]; exact b_and127 (by omega)) ?_
          refine lv_bipush (v := iI (7 : Int)) hx hb dX0_readVarint_43 (by decide) ?_
          refine lv_iload_n hx hb dX0_readVarint_45 rfl (lv_at hl 3 rfl) ?_
          refine lv_imul hx hb dX0_readVarint_46 ?_
          refine kn_i (iM (c := ((7 * k : Nat) : Int)) (by omega)) ?_
          refine lv_ishl hx hb dX0_readVarint_47 ?_
          refine lv_ior hx hb dX0_readVarint_48 ?_
          refine kn_i (y := iI ((acc + F a9 % 128 * 128 ^ k : Nat) : Int)) (b_vor (by omega) hacc (Nat.mod_lt _ (by decide))) ?_
          refine lv_istore_n (lv' := [(1, .int (iI ((acc + F a9 % 128 * 128 ^ k : Nat) : Int))), (3, .int (iI (rK F n3 a9 : Int))), (0, .ref ha), (2, .int (iI ((k : Nat) : Int)))]) hx hb dX0_readVarint_49 rfl hl (by decide) rfl (fun ls hl => ?_)
          refine lv_iload_n hx hb dX0_readVarint_50 rfl (lv_at hl 1 rfl) ?_
          refine lv_sipush (v := iI (128 : Int)) hx hb dX0_readVarint_51 (by decide) ?_
          refine lv_icmp_ge (tgt := 71) hx hb dX0_readVarint_54 (by decide) (fun c54 => ?_) (fun c54 => ?_)
          · skip
            have c54 := iI_leT (a := (128 : Int)) (b := (rK F n3 a9 : Int)) c54 (by omega)
            refine lv_iinc (v := iI ((k + 1 : Nat) : Int)) (lv' := [(2, .int (iI ((k + 1 : Nat) : Int))), (1, .int (iI ((acc + F a9 % 128 * 128 ^ k : Nat) : Int))), (3, .int (iI (rK F n3 a9 : Int))), (0, .ref ha)]) hx hb dX0_readVarint_71 hl (k := 3) rfl (iA (by omega)) (by decide) rfl (fun ls hl => ?_)
            refine lv_goto (tgt := 4) hx hb dX0_readVarint_74 (by decide) ?_
            exact ih4 (k + 1) (acc + F a9 % 128 * 128 ^ k) (a9 + 1) _ _ _ (by omega) (by omega) (pw_acc hacc) (by omega) (by rw [← rvF_go (by omega) hlt (by omega)]; exact hR) hP hD hS (lv_sub hl [3, 1, 0] rfl)
          · skip
            have c54 := iI_leF (a := (128 : Int)) (b := (rK F n3 a9 : Int)) c54 (by omega)
            refine lv_iload_n hx hb dX0_readVarint_57 rfl (lv_at hl 1 rfl) ?_
            refine lv_if_ne (tgt := 69) hx hb dX0_readVarint_58 (by decide) (fun c58 => ?_) (fun c58 => ?_)
            · skip
              have c58 := iI_eqF (a := (rK F n3 a9 : Int)) (b := (0 : Int)) c58 (by omega)
              refine lv_iload_n hx hb dX0_readVarint_69 rfl (lv_at hl 0 rfl) ?_
              have hE : rv F n3 a0 = (((acc + F a9 % 128 * 128 ^ k : Nat) : Int), a9 + 1) := by rw [← hR, rvF_v (by omega) hlt (by omega) (by omega)]
              rw [show iI ((a9 + 1 : Nat) : Int) = iI (((rv F n3 a0).2 : Nat) : Int) from by rw [hE]] at hP hD
              exact k_iret () hx hb hr hlocks hK hP hD hS [0, 1, 2] (by decide) rfl rfl (by rw [hE]) hAe hQ dX0_readVarint_70
            · skip
              have c58 := iI_eqT (a := (rK F n3 a9 : Int)) (b := (0 : Int)) c58 (by omega)
              refine lv_iload_n hx hb dX0_readVarint_61 rfl (lv_at hl 3 rfl) ?_
              refine lv_if_le (tgt := 69) hx hb dX0_readVarint_62 (by decide) (fun c62 => ?_) (fun c62 => ?_)
              · skip
                have c62 := iI_leT (a := ((k : Nat) : Int)) (b := (0 : Int)) c62 (by omega)
                refine lv_iload_n hx hb dX0_readVarint_69 rfl (lv_at hl 0 rfl) ?_
                have hE : rv F n3 a0 = (((acc + F a9 % 128 * 128 ^ k : Nat) : Int), a9 + 1) := by rw [← hR, rvF_v (by omega) hlt (by omega) (by omega)]
                rw [show iI ((a9 + 1 : Nat) : Int) = iI (((rv F n3 a0).2 : Nat) : Int) from by rw [hE]] at hP hD
                exact k_iret () hx hb hr hlocks hK hP hD hS [0, 1, 2] (by decide) rfl rfl (by rw [hE]) hAe hQ dX0_readVarint_70
              · skip
                have c62 := iI_leF (a := ((k : Nat) : Int)) (b := (0 : Int)) c62 (by omega)
                refine lv_iconst (v := iI (-1 : Int)) hx hb dX0_readVarint_65 rfl ?_
                refine lv_goto (tgt := 70) hx hb dX0_readVarint_66 (by decide) ?_
                have hE : rv F n3 a0 = (-1, a9 + 1) := by rw [← hR, rvF_z (by omega) hlt (by omega) (by omega)]
                rw [show iI ((a9 + 1 : Nat) : Int) = iI (((rv F n3 a0).2 : Nat) : Int) from by rw [hE]] at hP hD
                exact k_iret () hx hb hr hlocks hK hP hD hS [0, 1, 2] (by decide) rfl rfl (by rw [hE]) hAe hQ dX0_readVarint_70
        · skip
          have c23 := iI_eqT (a := (rK F n3 a9 : Int)) (b := (-1 : Int)) c23 (by omega)
          refine lv_iconst (v := iI (-1 : Int)) hx hb dX0_readVarint_26 rfl ?_
          have hE : rv F n3 a0 = (-1, a9) := by rw [← hR, rvF_out (by omega) (fun h => by rw [rK_in h] at c23; omega)]
          rw [show iI ((a9 : Nat) : Int) = iI (((rv F n3 a0).2 : Nat) : Int) from by rw [hE]] at hP hD
          exact k_iret () hx hb hr hlocks hK hP hD hS [0, 1, 2] (by decide) rfl rfl (by rw [hE]) hAe hQ dX0_readVarint_27
  exact lp4 _ 0 0 a0 _ _ _ (Nat.lt_succ_self _) (by omega) (by decide) (by omega) (by rfl) hP hD hS (lv_sub hl [2, 1, 0] rfl)

abbrev rm_c_Applier_readWord : Room := { frames := 1, cells := 0, slots := 0, locals := 21 }
set_option maxHeartbeats 4000000 in
set_option maxRecDepth 100000 in
theorem c_Applier_readWord (l : Launch) (D : va_G) (cI cZ : ClassId) (ha : Nat) (h3 : Nat) (h1 : Nat) (h4 : Nat) (a0 : Nat) (b0 : Nat) (ds : Int) (dc : Int32) (a3 : Nat) (n3 : Nat) (F : Nat → Nat) (ha4 : a0 + 4 ≤ n3) (hn3 : n3 ≤ 900) : MI l yX0_readWord wsX0_readWord rm_c_Applier_readWord D (kT cI cZ) [.ref ha] [(ha, .inr (0, [.ref h3, .ref h1, .ref h4, .int (iI ((a0 : Nat) : Int)), .int (iI ((b0 : Nat) : Int)), .int (iI (ds : Int)), .int dc])), (h3, .inr (3, [.ref a3, .int (iI ((n3 : Nat) : Int))])), (a3, .inl (cI, 900, .inl (kN F)))] (fun (r : Int32) (_ : Unit) => r = (rdW F a0 4)) (fun (u : Unit) => match u with | _ => [(ha, .inr (0, [.ref h3, .ref h1, .ref h4, .int (iI ((a0 + 4 : Nat) : Int)), .int (iI ((b0 : Nat) : Int)), .int (iI (ds : Int)), .int dc])), (h3, .inr (3, [.ref a3, .int (iI ((n3 : Nat) : Int))])), (a3, .inl (cI, 900, .inl (kN F)))]) 0 0 := by
  intro sz
  refine k_of (cc := cX0_readWord) (maxL := 3) (ret := (some .int)) (by decide) rfl (Nat.le_of_ble_eq_true rfl) ?_
  intro p e s m args below meth c A Q hAe hQ hx hb hr hml hts hown hlocks hnm hP hK hD hS hA ls hl
  have hl : lv_has ls 3 [(0, .ref ha)] := hl
  have hi_X0 : ∀ w ∈ u_ws RX0 TX0 7, w ∈ wsX0_readWord := fun w h => km (ikX0 w h)
  have fl9 := hts _ (km wm103)
  have fl21 := hts _ (km wm106)
  refine lv_iconst (v := iI (0 : Int)) hx hb dX0_readWord_0 rfl ?_
  refine lv_istore_n (lv' := [(1, .int (iI (0 : Int))), (0, .ref ha)]) hx hb dX0_readWord_1 rfl hl (by decide) rfl (fun ls hl => ?_)
  refine lv_iconst (v := iI (0 : Int)) hx hb dX0_readWord_2 rfl ?_
  refine lv_istore_n (lv' := [(2, .int (iI (0 : Int))), (1, .int (iI (0 : Int))), (0, .ref ha)]) hx hb dX0_readWord_3 rfl hl (by decide) rfl (fun ls hl => ?_)
  refine lv_iload_n hx hb dX0_readWord_4 rfl (lv_at hl 0 rfl) ?_
  refine lv_iconst (v := iI (4 : Int)) hx hb dX0_readWord_5 rfl ?_
  refine lv_icmp_ge (tgt := 46) hx hb dX0_readWord_6 (by decide) (fun c6 => ?_) (fun c6 => ?_)
  · skip
    have c6 := iI_leT (a := (4 : Int)) (b := (0 : Int)) c6 (by omega)
    omega
  · skip
    have c6 := iI_leF (a := (4 : Int)) (b := (0 : Int)) c6 (by omega)
    refine lv_iload_n hx hb dX0_readWord_9 rfl (lv_at hl 1 rfl) ?_
    refine lv_bipush (v := iI (8 : Int)) hx hb dX0_readWord_10 (by decide) ?_
    refine lv_ishl hx hb dX0_readWord_12 ?_
    refine lv_aload_n hx hb dX0_readWord_13 rfl (lv_at hl 2 rfl) ?_
    refine va_get (D := D) (ci := 0) (v := .ref h3) (C := RX0) (T := TX0) (N := 7) hx hb hts hi_X0 hown hK hP 0 rfl rfl 0 (by decide) fl9 (fun _ h9 => h9) rfl dX0_readWord_14 ?_
    refine lv_aload_n hx hb dX0_readWord_17 rfl (lv_at hl 2 rfl) ?_
    refine va_get (D := D) (ci := 0) (v := .int (iI ((a0 : Nat) : Int))) (C := RX0) (T := TX0) (N := 7) hx hb hts hi_X0 hown hK hP 0 rfl rfl 3 (by decide) fl21 (fun _ h9 => h9) rfl dX0_readWord_18 ?_
    refine k_calli (wc := [(h3, .inr (3, [.ref a3, .int (iI ((n3 : Nat) : Int))])), (a3, .inl (cI, 900, .inl (kN F)))]) (wr := [(ha, .inr (0, [.ref h3, .ref h1, .ref h4, .int (iI ((a0 : Nat) : Int)), .int (iI ((b0 : Nat) : Int)), .int (iI (ds : Int)), .int dc]))]) (wf := fun _ => [(ha, .inr (0, [.ref h3, .ref h1, .ref h4, .int (iI ((a0 : Nat) : Int)), .int (iI ((b0 : Nat) : Int)), .int (iI (ds : Int)), .int dc])), (h3, .inr (3, [.ref a3, .int (iI ((n3 : Nat) : Int))])), (a3, .inl (cI, 900, .inl (kN F)))]) hK hP hD hS hA [1, 2] [0] [0, 1, 2] ⟨⟨rfl, rfl, by decide⟩, rfl, by decide, by decide⟩ (fun _ => ⟨rfl, rfl⟩) (by decide) (fun hPc hDc => va_runV (As := [.int (iI ((a0 : Nat) : Int))]) (rest := [.int ((iI (0 : Int)) <<< ((iI (8 : Int)) &&& 31))]) ⟨hx, hb, hml, hown, hts⟩ (c_Row_atNk l D cI cZ (h := h3) (a := a3) (M := 900) (n := n3) (F := F) (k := a0) (hM := by omega) (hn := by omega) (hk := by omega) _) (cwV 1 hts (kgV wm353 wm225 wm226 wm39 wmcX3_at) rfl rfl rfl (by decide +kernel) ⟨Nat.le_of_ble_eq_true rfl, Nat.le_of_ble_eq_true rfl⟩) (k_preV hK hPc hDc (ci := 3) (q0 := 0) rfl rfl) rfl rfl hl.1 rfl (lv_room (Nat.le_of_ble_eq_true rfl)) dX0_readWord_21 ⟨Nat.le_of_ble_eq_true rfl, Nat.le_of_ble_eq_true rfl⟩) (fun r21 u H locs hw hP hD hS => ?_)
    have hP : va_P D vwCl [(ha, .inr (0, [.ref h3, .ref h1, .ref h4, .int (iI ((a0 : Nat) : Int)), .int (iI ((b0 : Nat) : Int)), .int (iI (ds : Int)), .int dc])), (h3, .inr (3, [.ref a3, .int (iI ((n3 : Nat) : Int))])), (a3, .inl (cI, 900, .inl (kN F)))] H := hP
    have hD : va_D A [(ha, .inr (0, [.ref h3, .ref h1, .ref h4, .int (iI ((a0 : Nat) : Int)), .int (iI ((b0 : Nat) : Int)), .int (iI (ds : Int)), .int dc])), (h3, .inr (3, [.ref a3, .int (iI ((n3 : Nat) : Int))])), (a3, .inl (cI, 900, .inl (kN F)))] := hD
    refine W.widen (k := 0) (n := 0) (Nat.le_of_ble_eq_true rfl) (Nat.le_of_ble_eq_true rfl) ?_
    have hw : r21 = iI ((F a0 : Nat) : Int) := hw
    subst hw
    refine lv_sipush (v := iI (255 : Int)) hx hb dX0_readWord_24 (by decide) ?_
    refine lv_iand hx hb dX0_readWord_27 ?_
    refine lv_ior hx hb dX0_readWord_28 ?_
    refine kn_i (y := (rdW F a0 1)) (rfl) ?_
    refine lv_istore_n (lv' := [(1, .int (rdW F a0 1)), (2, .int (iI (0 : Int))), (0, .ref ha)]) hx hb dX0_readWord_29 rfl hl (by decide) rfl (fun ls hl => ?_)
    refine lv_aload_n hx hb dX0_readWord_30 rfl (lv_at hl 2 rfl) ?_
    refine lv_dup hx hb dX0_readWord_31 rfl ?_
    refine va_get (D := D) (ci := 0) (v := .int (iI ((a0 : Nat) : Int))) (C := RX0) (T := TX0) (N := 7) hx hb hts hi_X0 hown hK hP 0 rfl rfl 3 (by decide) fl21 (fun _ h9 => h9) rfl dX0_readWord_32 ?_
    refine lv_iconst (v := iI (1 : Int)) hx hb dX0_readWord_35 rfl ?_
    refine lv_iadd hx hb dX0_readWord_36 ?_
    refine kn_i (iA (c := ((a0 + 1 : Nat) : Int)) (by omega)) ?_
    refine va_put (D := D) (ci := 0) (v := .int (iI ((a0 + 1 : Nat) : Int))) (ty := .int) (C := RX0) (T := TX0) (N := 7) hx hb hts hi_X0 tyX0 tyX0_ok nmX0 hown hK hP hD hS 0 rfl rfl 3 (by decide) fl21 (fun _ h9 => h9) rfl (by decide +kernel) rfl rfl (Nat.le_of_ble_eq_true rfl) dX0_readWord_37 (fun H locs hP hD hS => ?_)
    have hP : va_P D vwCl [(ha, .inr (0, [.ref h3, .ref h1, .ref h4, .int (iI ((a0 + 1 : Nat) : Int)), .int (iI ((b0 : Nat) : Int)), .int (iI (ds : Int)), .int dc])), (h3, .inr (3, [.ref a3, .int (iI ((n3 : Nat) : Int))])), (a3, .inl (cI, 900, .inl (kN F)))] H := hP
    have hD : va_D A [(ha, .inr (0, [.ref h3, .ref h1, .ref h4, .int (iI ((a0 + 1 : Nat) : Int)), .int (iI ((b0 : Nat) : Int)), .int (iI (ds : Int)), .int dc])), (h3, .inr (3, [.ref a3, .int (iI ((n3 : Nat) : Int))])), (a3, .inl (cI, 900, .inl (kN F)))] := hD
    refine lv_iinc (v := iI (1 : Int)) (lv' := [(2, .int (iI (1 : Int))), (1, .int (rdW F a0 1)), (0, .ref ha)]) hx hb dX0_readWord_40 hl (k := 1) rfl (iA (by omega)) (by decide) rfl (fun ls hl => ?_)
    refine lv_goto (tgt := 4) hx hb dX0_readWord_43 (by decide) ?_
    refine lv_iload_n hx hb dX0_readWord_4 rfl (lv_at hl 0 rfl) ?_
    refine lv_iconst (v := iI (4 : Int)) hx hb dX0_readWord_5 rfl ?_
    refine lv_icmp_ge (tgt := 46) hx hb dX0_readWord_6 (by decide) (fun c6 => ?_) (fun c6 => ?_)
    · skip
      have c6 := iI_leT (a := (4 : Int)) (b := (1 : Int)) c6 (by omega)
      omega
    · skip
      have c6 := iI_leF (a := (4 : Int)) (b := (1 : Int)) c6 (by omega)
      refine lv_iload_n hx hb dX0_readWord_9 rfl (lv_at hl 1 rfl) ?_
      refine lv_bipush (v := iI (8 : Int)) hx hb dX0_readWord_10 (by decide) ?_
      refine lv_ishl hx hb dX0_readWord_12 ?_
      refine lv_aload_n hx hb dX0_readWord_13 rfl (lv_at hl 2 rfl) ?_
      refine va_get (D := D) (ci := 0) (v := .ref h3) (C := RX0) (T := TX0) (N := 7) hx hb hts hi_X0 hown hK hP 0 rfl rfl 0 (by decide) fl9 (fun _ h9 => h9) rfl dX0_readWord_14 ?_
      refine lv_aload_n hx hb dX0_readWord_17 rfl (lv_at hl 2 rfl) ?_
      refine va_get (D := D) (ci := 0) (v := .int (iI ((a0 + 1 : Nat) : Int))) (C := RX0) (T := TX0) (N := 7) hx hb hts hi_X0 hown hK hP 0 rfl rfl 3 (by decide) fl21 (fun _ h9 => h9) rfl dX0_readWord_18 ?_
      refine k_calli (wc := [(h3, .inr (3, [.ref a3, .int (iI ((n3 : Nat) : Int))])), (a3, .inl (cI, 900, .inl (kN F)))]) (wr := [(ha, .inr (0, [.ref h3, .ref h1, .ref h4, .int (iI ((a0 + 1 : Nat) : Int)), .int (iI ((b0 : Nat) : Int)), .int (iI (ds : Int)), .int dc]))]) (wf := fun _ => [(ha, .inr (0, [.ref h3, .ref h1, .ref h4, .int (iI ((a0 + 1 : Nat) : Int)), .int (iI ((b0 : Nat) : Int)), .int (iI (ds : Int)), .int dc])), (h3, .inr (3, [.ref a3, .int (iI ((n3 : Nat) : Int))])), (a3, .inl (cI, 900, .inl (kN F)))]) hK hP hD hS hA [1, 2] [0] [0, 1, 2] ⟨⟨rfl, rfl, by decide⟩, rfl, by decide, by decide⟩ (fun _ => ⟨rfl, rfl⟩) (by decide) (fun hPc hDc => va_runV (As := [.int (iI ((a0 + 1 : Nat) : Int))]) (rest := [.int (((rdW F a0 1)) <<< ((iI (8 : Int)) &&& 31))]) ⟨hx, hb, hml, hown, hts⟩ (c_Row_atNk l D cI cZ (h := h3) (a := a3) (M := 900) (n := n3) (F := F) (k := a0 + 1) (hM := by omega) (hn := by omega) (hk := by omega) _) (cwV 1 hts (kgV wm353 wm225 wm226 wm39 wmcX3_at) rfl rfl rfl (by decide +kernel) ⟨Nat.le_of_ble_eq_true rfl, Nat.le_of_ble_eq_true rfl⟩) (k_preV hK hPc hDc (ci := 3) (q0 := 0) rfl rfl) rfl rfl hl.1 rfl (lv_room (Nat.le_of_ble_eq_true rfl)) dX0_readWord_21 ⟨Nat.le_of_ble_eq_true rfl, Nat.le_of_ble_eq_true rfl⟩) (fun r21 u H locs hw hP hD hS => ?_)
      have hP : va_P D vwCl [(ha, .inr (0, [.ref h3, .ref h1, .ref h4, .int (iI ((a0 + 1 : Nat) : Int)), .int (iI ((b0 : Nat) : Int)), .int (iI (ds : Int)), .int dc])), (h3, .inr (3, [.ref a3, .int (iI ((n3 : Nat) : Int))])), (a3, .inl (cI, 900, .inl (kN F)))] H := hP
      have hD : va_D A [(ha, .inr (0, [.ref h3, .ref h1, .ref h4, .int (iI ((a0 + 1 : Nat) : Int)), .int (iI ((b0 : Nat) : Int)), .int (iI (ds : Int)), .int dc])), (h3, .inr (3, [.ref a3, .int (iI ((n3 : Nat) : Int))])), (a3, .inl (cI, 900, .inl (kN F)))] := hD
      refine W.widen (k := 0) (n := 0) (Nat.le_of_ble_eq_true rfl) (Nat.le_of_ble_eq_true rfl) ?_
      have hw : r21 = iI ((F (a0 + 1) : Nat) : Int) := hw
      subst hw
      refine lv_sipush (v := iI (255 : Int)) hx hb dX0_readWord_24 (by decide) ?_
      refine lv_iand hx hb dX0_readWord_27 ?_
      refine lv_ior hx hb dX0_readWord_28 ?_
      refine kn_i (y := (rdW F a0 2)) (rfl) ?_
      refine lv_istore_n (lv' := [(1, .int (rdW F a0 2)), (2, .int (iI (1 : Int))), (0, .ref ha)]) hx hb dX0_readWord_29 rfl hl (by decide) rfl (fun ls hl => ?_)
      refine lv_aload_n hx hb dX0_readWord_30 rfl (lv_at hl 2 rfl) ?_
      refine lv_dup hx hb dX0_readWord_31 rfl ?_
      refine va_get (D := D) (ci := 0) (v := .int (iI ((a0 + 1 : Nat) : Int))) (C := RX0) (T := TX0) (N := 7) hx hb hts hi_X0 hown hK hP 0 rfl rfl 3 (by decide) fl21 (fun _ h9 => h9) rfl dX0_readWord_32 ?_
      refine lv_iconst (v := iI (1 : Int)) hx hb dX0_readWord_35 rfl ?_
      refine lv_iadd hx hb dX0_readWord_36 ?_
      refine kn_i (iA (c := ((a0 + 2 : Nat) : Int)) (by omega)) ?_
      refine va_put (D := D) (ci := 0) (v := .int (iI ((a0 + 2 : Nat) : Int))) (ty := .int) (C := RX0) (T := TX0) (N := 7) hx hb hts hi_X0 tyX0 tyX0_ok nmX0 hown hK hP hD hS 0 rfl rfl 3 (by decide) fl21 (fun _ h9 => h9) rfl (by decide +kernel) rfl rfl (Nat.le_of_ble_eq_true rfl) dX0_readWord_37 (fun H locs hP hD hS => ?_)
      have hP : va_P D vwCl [(ha, .inr (0, [.ref h3, .ref h1, .ref h4, .int (iI ((a0 + 2 : Nat) : Int)), .int (iI ((b0 : Nat) : Int)), .int (iI (ds : Int)), .int dc])), (h3, .inr (3, [.ref a3, .int (iI ((n3 : Nat) : Int))])), (a3, .inl (cI, 900, .inl (kN F)))] H := hP
      have hD : va_D A [(ha, .inr (0, [.ref h3, .ref h1, .ref h4, .int (iI ((a0 + 2 : Nat) : Int)), .int (iI ((b0 : Nat) : Int)), .int (iI (ds : Int)), .int dc])), (h3, .inr (3, [.ref a3, .int (iI ((n3 : Nat) : Int))])), (a3, .inl (cI, 900, .inl (kN F)))] := hD
      refine lv_iinc (v := iI (2 : Int)) (lv' := [(2, .int (iI (2 : Int))), (1, .int (rdW F a0 2)), (0, .ref ha)]) hx hb dX0_readWord_40 hl (k := 1) rfl (iA (by omega)) (by decide) rfl (fun ls hl => ?_)
      refine lv_goto (tgt := 4) hx hb dX0_readWord_43 (by decide) ?_
      refine lv_iload_n hx hb dX0_readWord_4 rfl (lv_at hl 0 rfl) ?_
      refine lv_iconst (v := iI (4 : Int)) hx hb dX0_readWord_5 rfl ?_
      refine lv_icmp_ge (tgt := 46) hx hb dX0_readWord_6 (by decide) (fun c6 => ?_) (fun c6 => ?_)
      · skip
        have c6 := iI_leT (a := (4 : Int)) (b := (2 : Int)) c6 (by omega)
        omega
      · skip
        have c6 := iI_leF (a := (4 : Int)) (b := (2 : Int)) c6 (by omega)
        refine lv_iload_n hx hb dX0_readWord_9 rfl (lv_at hl 1 rfl) ?_
        refine lv_bipush (v := iI (8 : Int)) hx hb dX0_readWord_10 (by decide) ?_
        refine lv_ishl hx hb dX0_readWord_12 ?_
        refine lv_aload_n hx hb dX0_readWord_13 rfl (lv_at hl 2 rfl) ?_
        refine va_get (D := D) (ci := 0) (v := .ref h3) (C := RX0) (T := TX0) (N := 7) hx hb hts hi_X0 hown hK hP 0 rfl rfl 0 (by decide) fl9 (fun _ h9 => h9) rfl dX0_readWord_14 ?_
        refine lv_aload_n hx hb dX0_readWord_17 rfl (lv_at hl 2 rfl) ?_
        refine va_get (D := D) (ci := 0) (v := .int (iI ((a0 + 2 : Nat) : Int))) (C := RX0) (T := TX0) (N := 7) hx hb hts hi_X0 hown hK hP 0 rfl rfl 3 (by decide) fl21 (fun _ h9 => h9) rfl dX0_readWord_18 ?_
        refine k_calli (wc := [(h3, .inr (3, [.ref a3, .int (iI ((n3 : Nat) : Int))])), (a3, .inl (cI, 900, .inl (kN F)))]) (wr := [(ha, .inr (0, [.ref h3, .ref h1, .ref h4, .int (iI ((a0 + 2 : Nat) : Int)), .int (iI ((b0 : Nat) : Int)), .int (iI (ds : Int)), .int dc]))]) (wf := fun _ => [(ha, .inr (0, [.ref h3, .ref h1, .ref h4, .int (iI ((a0 + 2 : Nat) : Int)), .int (iI ((b0 : Nat) : Int)), .int (iI (ds : Int)), .int dc])), (h3, .inr (3, [.ref a3, .int (iI ((n3 : Nat) : Int))])), (a3, .inl (cI, 900, .inl (kN F)))]) hK hP hD hS hA [1, 2] [0] [0, 1, 2] ⟨⟨rfl, rfl, by decide⟩, rfl, by decide, by decide⟩ (fun _ => ⟨rfl, rfl⟩) (by decide) (fun hPc hDc => va_runV (As := [.int (iI ((a0 + 2 : Nat) : Int))]) (rest := [.int (((rdW F a0 2)) <<< ((iI (8 : Int)) &&& 31))]) ⟨hx, hb, hml, hown, hts⟩ (c_Row_atNk l D cI cZ (h := h3) (a := a3) (M := 900) (n := n3) (F := F) (k := a0 + 2) (hM := by omega) (hn := by omega) (hk := by omega) _) (cwV 1 hts (kgV wm353 wm225 wm226 wm39 wmcX3_at) rfl rfl rfl (by decide +kernel) ⟨Nat.le_of_ble_eq_true rfl, Nat.le_of_ble_eq_true rfl⟩) (k_preV hK hPc hDc (ci := 3) (q0 := 0) rfl rfl) rfl rfl hl.1 rfl (lv_room (Nat.le_of_ble_eq_true rfl)) dX0_readWord_21 ⟨Nat.le_of_ble_eq_true rfl, Nat.le_of_ble_eq_true rfl⟩) (fun r21 u H locs hw hP hD hS => ?_)
        have hP : va_P D vwCl [(ha, .inr (0, [.ref h3, .ref h1, .ref h4, .int (iI ((a0 + 2 : Nat) : Int)), .int (iI ((b0 : Nat) : Int)), .int (iI (ds : Int)), .int dc])), (h3, .inr (3, [.ref a3, .int (iI ((n3 : Nat) : Int))])), (a3, .inl (cI, 900, .inl (kN F)))] H := hP
        have hD : va_D A [(ha, .inr (0, [.ref h3, .ref h1, .ref h4, .int (iI ((a0 + 2 : Nat) : Int)), .int (iI ((b0 : Nat) : Int)), .int (iI (ds : Int)), .int dc])), (h3, .inr (3, [.ref a3, .int (iI ((n3 : Nat) : Int))])), (a3, .inl (cI, 900, .inl (kN F)))] := hD
        refine W.widen (k := 0) (n := 0) (Nat.le_of_ble_eq_true rfl) (Nat.le_of_ble_eq_true rfl) ?_
        have hw : r21 = iI ((F (a0 + 2) : Nat) : Int) := hw
        subst hw
        refine lv_sipush (v := iI (255 : Int)) hx hb dX0_readWord_24 (by decide) ?_
        refine lv_iand hx hb dX0_readWord_27 ?_
        refine lv_ior hx hb dX0_readWord_28 ?_
        refine kn_i (y := (rdW F a0 3)) (rfl) ?_
        refine lv_istore_n (lv' := [(1, .int (rdW F a0 3)), (2, .int (iI (2 : Int))), (0, .ref ha)]) hx hb dX0_readWord_29 rfl hl (by decide) rfl (fun ls hl => ?_)
        refine lv_aload_n hx hb dX0_readWord_30 rfl (lv_at hl 2 rfl) ?_
        refine lv_dup hx hb dX0_readWord_31 rfl ?_
        refine va_get (D := D) (ci := 0) (v := .int (iI ((a0 + 2 : Nat) : Int))) (C := RX0) (T := TX0) (N := 7) hx hb hts hi_X0 hown hK hP 0 rfl rfl 3 (by decide) fl21 (fun _ h9 => h9) rfl dX0_readWord_32 ?_
        refine lv_iconst (v := iI (1 : Int)) hx hb dX0_readWord_35 rfl ?_
        refine lv_iadd hx hb dX0_readWord_36 ?_
        refine kn_i (iA (c := ((a0 + 3 : Nat) : Int)) (by omega)) ?_
        refine va_put (D := D) (ci := 0) (v := .int (iI ((a0 + 3 : Nat) : Int))) (ty := .int) (C := RX0) (T := TX0) (N := 7) hx hb hts hi_X0 tyX0 tyX0_ok nmX0 hown hK hP hD hS 0 rfl rfl 3 (by decide) fl21 (fun _ h9 => h9) rfl (by decide +kernel) rfl rfl (Nat.le_of_ble_eq_true rfl) dX0_readWord_37 (fun H locs hP hD hS => ?_)
        have hP : va_P D vwCl [(ha, .inr (0, [.ref h3, .ref h1, .ref h4, .int (iI ((a0 + 3 : Nat) : Int)), .int (iI ((b0 : Nat) : Int)), .int (iI (ds : Int)), .int dc])), (h3, .inr (3, [.ref a3, .int (iI ((n3 : Nat) : Int))])), (a3, .inl (cI, 900, .inl (kN F)))] H := hP
        have hD : va_D A [(ha, .inr (0, [.ref h3, .ref h1, .ref h4, .int (iI ((a0 + 3 : Nat) : Int)), .int (iI ((b0 : Nat) : Int)), .int (iI (ds : Int)), .int dc])), (h3, .inr (3, [.ref a3, .int (iI ((n3 : Nat) : Int))])), (a3, .inl (cI, 900, .inl (kN F)))] := hD
        refine lv_iinc (v := iI (3 : Int)) (lv' := [(2, .int (iI (3 : Int))), (1, .int (rdW F a0 3)), (0, .ref ha)]) hx hb dX0_readWord_40 hl (k := 1) rfl (iA (by omega)) (by decide) rfl (fun ls hl => ?_)
        refine lv_goto (tgt := 4) hx hb dX0_readWord_43 (by decide) ?_
        refine lv_iload_n hx hb dX0_readWord_4 rfl (lv_at hl 0 rfl) ?_
        refine lv_iconst (v := iI (4 : Int)) hx hb dX0_readWord_5 rfl ?_
        refine lv_icmp_ge (tgt := 46) hx hb dX0_readWord_6 (by decide) (fun c6 => ?_) (fun c6 => ?_)
        · skip
          have c6 := iI_leT (a := (4 : Int)) (b := (3 : Int)) c6 (by omega)
          omega
        · skip
          have c6 := iI_leF (a := (4 : Int)) (b := (3 : Int)) c6 (by omega)
          refine lv_iload_n hx hb dX0_readWord_9 rfl (lv_at hl 1 rfl) ?_
          refine lv_bipush (v := iI (8 : Int)) hx hb dX0_readWord_10 (by decide) ?_
          refine lv_ishl hx hb dX0_readWord_12 ?_
          refine lv_aload_n hx hb dX0_readWord_13 rfl (lv_at hl 2 rfl) ?_
          refine va_get (D := D) (ci := 0) (v := .ref h3) (C := RX0) (T := TX0) (N := 7) hx hb hts hi_X0 hown hK hP 0 rfl rfl 0 (by decide) fl9 (fun _ h9 => h9) rfl dX0_readWord_14 ?_
          refine lv_aload_n hx hb dX0_readWord_17 rfl (lv_at hl 2 rfl) ?_
          refine va_get (D := D) (ci := 0) (v := .int (iI ((a0 + 3 : Nat) : Int))) (C := RX0) (T := TX0) (N := 7) hx hb hts hi_X0 hown hK hP 0 rfl rfl 3 (by decide) fl21 (fun _ h9 => h9) rfl dX0_readWord_18 ?_
          refine k_calli (wc := [(h3, .inr (3, [.ref a3, .int (iI ((n3 : Nat) : Int))])), (a3, .inl (cI, 900, .inl (kN F)))]) (wr := [(ha, .inr (0, [.ref h3, .ref h1, .ref h4, .int (iI ((a0 + 3 : Nat) : Int)), .int (iI ((b0 : Nat) : Int)), .int (iI (ds : Int)), .int dc]))]) (wf := fun _ => [(ha, .inr (0, [.ref h3, .ref h1, .ref h4, .int (iI ((a0 + 3 : Nat) : Int)), .int (iI ((b0 : Nat) : Int)), .int (iI (ds : Int)), .int dc])), (h3, .inr (3, [.ref a3, .int (iI ((n3 : Nat) : Int))])), (a3, .inl (cI, 900, .inl (kN F)))]) hK hP hD hS hA [1, 2] [0] [0, 1, 2] ⟨⟨rfl, rfl, by decide⟩, rfl, by decide, by decide⟩ (fun _ => ⟨rfl, rfl⟩) (by decide) (fun hPc hDc => va_runV (As := [.int (iI ((a0 + 3 : Nat) : Int))]) (rest := [.int (((rdW F a0 3)) <<< ((iI (8 : Int)) &&& 31))]) ⟨hx, hb, hml, hown, hts⟩ (c_Row_atNk l D cI cZ (h := h3) (a := a3) (M := 900) (n := n3) (F := F) (k := a0 + 3) (hM := by omega) (hn := by omega) (hk := by omega) _) (cwV 1 hts (kgV wm353 wm225 wm226 wm39 wmcX3_at) rfl rfl rfl (by decide +kernel) ⟨Nat.le_of_ble_eq_true rfl, Nat.le_of_ble_eq_true rfl⟩) (k_preV hK hPc hDc (ci := 3) (q0 := 0) rfl rfl) rfl rfl hl.1 rfl (lv_room (Nat.le_of_ble_eq_true rfl)) dX0_readWord_21 ⟨Nat.le_of_ble_eq_true rfl, Nat.le_of_ble_eq_true rfl⟩) (fun r21 u H locs hw hP hD hS => ?_)
          have hP : va_P D vwCl [(ha, .inr (0, [.ref h3, .ref h1, .ref h4, .int (iI ((a0 + 3 : Nat) : Int)), .int (iI ((b0 : Nat) : Int)), .int (iI (ds : Int)), .int dc])), (h3, .inr (3, [.ref a3, .int (iI ((n3 : Nat) : Int))])), (a3, .inl (cI, 900, .inl (kN F)))] H := hP
          have hD : va_D A [(ha, .inr (0, [.ref h3, .ref h1, .ref h4, .int (iI ((a0 + 3 : Nat) : Int)), .int (iI ((b0 : Nat) : Int)), .int (iI (ds : Int)), .int dc])), (h3, .inr (3, [.ref a3, .int (iI ((n3 : Nat) : Int))])), (a3, .inl (cI, 900, .inl (kN F)))] := hD
          refine W.widen (k := 0) (n := 0) (Nat.le_of_ble_eq_true rfl) (Nat.le_of_ble_eq_true rfl) ?_
          have hw : r21 = iI ((F (a0 + 3) : Nat) : Int) := hw
          subst hw
          refine lv_sipush (v := iI (255 : Int)) hx hb dX0_readWord_24 (by decide) ?_
          refine lv_iand hx hb dX0_readWord_27 ?_
          refine lv_ior hx hb dX0_readWord_28 ?_
          refine kn_i (y := (rdW F a0 4)) (rfl) ?_
          refine lv_istore_n (lv' := [(1, .int (rdW F a0 4)), (2, .int (iI (3 : Int))), (0, .ref ha)]) hx hb dX0_readWord_29 rfl hl (by decide) rfl (fun ls hl => ?_)
          refine lv_aload_n hx hb dX0_readWord_30 rfl (lv_at hl 2 rfl) ?_
          refine lv_dup hx hb dX0_readWord_31 rfl ?_
          refine va_get (D := D) (ci := 0) (v := .int (iI ((a0 + 3 : Nat) : Int))) (C := RX0) (T := TX0) (N := 7) hx hb hts hi_X0 hown hK hP 0 rfl rfl 3 (by decide) fl21 (fun _ h9 => h9) rfl dX0_readWord_32 ?_
          refine lv_iconst (v := iI (1 : Int)) hx hb dX0_readWord_35 rfl ?_
          refine lv_iadd hx hb dX0_readWord_36 ?_
          refine kn_i (iA (c := ((a0 + 4 : Nat) : Int)) (by omega)) ?_
          refine va_put (D := D) (ci := 0) (v := .int (iI ((a0 + 4 : Nat) : Int))) (ty := .int) (C := RX0) (T := TX0) (N := 7) hx hb hts hi_X0 tyX0 tyX0_ok nmX0 hown hK hP hD hS 0 rfl rfl 3 (by decide) fl21 (fun _ h9 => h9) rfl (by decide +kernel) rfl rfl (Nat.le_of_ble_eq_true rfl) dX0_readWord_37 (fun H locs hP hD hS => ?_)
          have hP : va_P D vwCl [(ha, .inr (0, [.ref h3, .ref h1, .ref h4, .int (iI ((a0 + 4 : Nat) : Int)), .int (iI ((b0 : Nat) : Int)), .int (iI (ds : Int)), .int dc])), (h3, .inr (3, [.ref a3, .int (iI ((n3 : Nat) : Int))])), (a3, .inl (cI, 900, .inl (kN F)))] H := hP
          have hD : va_D A [(ha, .inr (0, [.ref h3, .ref h1, .ref h4, .int (iI ((a0 + 4 : Nat) : Int)), .int (iI ((b0 : Nat) : Int)), .int (iI (ds : Int)), .int dc])), (h3, .inr (3, [.ref a3, .int (iI ((n3 : Nat) : Int))])), (a3, .inl (cI, 900, .inl (kN F)))] := hD
          refine lv_iinc (v := iI (4 : Int)) (lv' := [(2, .int (iI (4 : Int))), (1, .int (rdW F a0 4)), (0, .ref ha)]) hx hb dX0_readWord_40 hl (k := 1) rfl (iA (by omega)) (by decide) rfl (fun ls hl => ?_)
          refine lv_goto (tgt := 4) hx hb dX0_readWord_43 (by decide) ?_
          refine lv_iload_n hx hb dX0_readWord_4 rfl (lv_at hl 0 rfl) ?_
          refine lv_iconst (v := iI (4 : Int)) hx hb dX0_readWord_5 rfl ?_
          refine lv_icmp_ge (tgt := 46) hx hb dX0_readWord_6 (by decide) (fun c6 => ?_) (fun c6 => ?_)
          · skip
            have c6 := iI_leT (a := (4 : Int)) (b := (4 : Int)) c6 (by omega)
            refine lv_iload_n hx hb dX0_readWord_46 rfl (lv_at hl 1 rfl) ?_
            exact k_iret () hx hb hr hlocks hK hP hD hS [0, 1, 2] (by decide) rfl rfl (rfl) hAe hQ dX0_readWord_47
          · skip
            have c6 := iI_leF (a := (4 : Int)) (b := (4 : Int)) c6 (by omega)
            omega

abbrev rm_c_Applier_withSign : Room := { frames := 0, cells := 0, slots := 0, locals := 0 }
set_option maxHeartbeats 4000000 in
set_option maxRecDepth 100000 in
theorem c_Applier_withSign (l : Launch) (D : va_G) (cI cZ : ClassId) (z : Int) (hz : 0 ≤ z ∧ z < 268435456) : MI l yX0_withSign wsX0_withSign rm_c_Applier_withSign D (kT cI cZ) [.int (iI (z : Int))] [] (fun (r : Int32) (_ : Unit) => r = iI (uz z.toNat : Int)) (fun (u : Unit) => match u with | _ => []) 0 0 := by
  intro sz
  refine k_of (cc := cX0_withSign) (maxL := 1) (ret := (some .int)) (by decide) rfl (Nat.le_of_ble_eq_true rfl) ?_
  intro p e s m args below meth c A Q hAe hQ hx hb hr hml hts hown hlocks hnm hP hK hD hS hA ls hl
  have hl : lv_has ls 1 [(0, .int (iI (z : Int)))] := hl
  refine lv_iload_n hx hb dX0_withSign_0 rfl (lv_at hl 0 rfl) ?_
  refine lv_iconst (v := iI (1 : Int)) hx hb dX0_withSign_1 rfl ?_
  refine lv_iand hx hb dX0_withSign_2 ?_
  refine kn_i (y := iI ((z.toNat % 2 : Nat) : Int)) (b_and1' (by omega)) ?_
  refine lv_if_ne (tgt := 12) hx hb dX0_withSign_3 (by decide) (fun c3 => ?_) (fun c3 => ?_)
  · skip
    have c3 := iI_eqF (a := ((z.toNat % 2 : Nat) : Int)) (b := (0 : Int)) c3 (by omega)
    refine lv_iload_n hx hb dX0_withSign_12 rfl (lv_at hl 0 rfl) ?_
    refine lv_iconst (v := iI (1 : Int)) hx hb dX0_withSign_13 rfl ?_
    refine lv_iushr hx hb dX0_withSign_14 rfl ?_
    refine kn_i (y := iI ((z.toNat / 2 : Nat) : Int)) (b_ushr1' (by omega)) ?_
    refine lv_ineg hx hb dX0_withSign_15 ?_
    refine kn_i (iNeg (c := (-((z.toNat / 2 : Nat) : Int) : Int)) (by omega)) ?_
    refine lv_iconst (v := iI (1 : Int)) hx hb dX0_withSign_16 rfl ?_
    refine lv_isub hx hb dX0_withSign_17 ?_
    refine kn_i (iB (c := (-((z.toNat / 2 : Nat) : Int) - 1 : Int)) (by omega)) ?_
    exact k_iret () hx hb hr hlocks hK hP hD hS [] (by decide) rfl rfl (by unfold uz; first | rw [if_pos (by omega)] | rw [if_neg (by omega)]) hAe hQ dX0_withSign_18
  · skip
    have c3 := iI_eqT (a := ((z.toNat % 2 : Nat) : Int)) (b := (0 : Int)) c3 (by omega)
    refine lv_iload_n hx hb dX0_withSign_6 rfl (lv_at hl 0 rfl) ?_
    refine lv_iconst (v := iI (1 : Int)) hx hb dX0_withSign_7 rfl ?_
    refine lv_iushr hx hb dX0_withSign_8 rfl ?_
    refine kn_i (y := iI ((z.toNat / 2 : Nat) : Int)) (b_ushr1' (by omega)) ?_
    refine lv_goto (tgt := 18) hx hb dX0_withSign_9 (by decide) ?_
    exact k_iret () hx hb hr hlocks hK hP hD hS [] (by decide) rfl rfl (by unfold uz; first | rw [if_pos (by omega)] | rw [if_neg (by omega)]) hAe hQ dX0_withSign_18
