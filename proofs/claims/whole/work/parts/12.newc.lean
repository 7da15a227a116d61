set_option maxHeartbeats 4000000 in
set_option maxRecDepth 100000 in
theorem k_X0_usedSlotsWithout (l : Launch) (dC : Nat → ClassId) (dI : Nat → Nat → Nat) (h0 hs hd hc : Nat) (a1 a2 : ClassId) (gW gC gV gB gM gI : Nat) (hg : geo gW gC gV gB gM gI) (sz : Nat) (st : Nat → Int32) (d : DS) (v b : Nat) (hv : v < gV) (hb9 : b < gB) : ctI nwL l yX0_usedSlotsWithout wsX0_usedSlotsWithout ({ frames := 4, cells := 0, slots := 0, locals := 87 } : Room) (dC, dI) [(a1, .int), (a2, .int)] (xo_w h0 hs hd hc a1 a2 gW gC gV gB gM gI) (st, d) sz [.ref h0, .int (nI v), .int (nI b)] (fun (r : Int32) (u : XS) => r = x_uwo d.1 gM (gV * gB) gC (d.1 (gM + v * gB + b)) ∧ u = (st, d)) := by
  refine Met.ofW (cc := cX0_usedSlotsWithout) (maxL := 5) (ret := (some .int)) (by decide) rfl ?_
  intro p e s m args below meth c s₁ B hml hv
  obtain ⟨rfl, hsz, hP, hK, hD0, hN⟩ := hv
  have hx := B.exec
  have hb := B.bytes
  have hr := B.returns
  have hts := fun w h => atoms_spec (ws := wsX0_usedSlotsWithout) B.pre w (List.mem_cons_of_mem _ h)
  have hown : s.vm.findClass RX0 = some m.cls := findClass_of_methodNamed B.named
  have hlocks := B.notSynchronized
  subst hsz
  have hD := hD0.self (sz := s.heap.size)
  generalize hAe : va_A ((xo_w h0 hs hd hc a1 a2 gW gC gV gB gM gI) (st, d)) s.heap.size = A at hD ⊢
  have hA : ∀ q : Nat, s.heap.size ≤ q → A q := fun q h => by rw [← hAe]; exact Or.inr h
  have hS : va_S A s.heap s.heap [] := va_S.rf
  have hl := lv_entry ([.ref h0, .int (nI v), .int (nI b)]) (n := 5) (Nat.le_of_ble_eq_true rfl)
  rw [lg_entry_eq]
  generalize (lg_sl ([.ref h0, .int (nI v), .int (nI b)]) ++ List.replicate (5 - (lg_sl ([.ref h0, .int (nI v), .int (nI b)])).length) Slot.unset).toArray = ls at hl ⊢
  have hP : va_P (dC, dI) vwCl [(h0, .inr (0, [.int (nI gW), .int (nI gC), .int (nI gV), .int (nI gB), .ref hs, .int (nI gM), .int (nI gI), .ref hd])), (hs, .inl (a1, gW, .inl st)), (hd, .inr (1, [.ref hc, .int d.2.1, .int d.2.2.1, .int d.2.2.2.1, .int d.2.2.2.2])), (hc, .inl (a2, (gI + 4), .inl d.1))] s.heap := hP
  have hD : va_D A [(h0, .inr (0, [.int (nI gW), .int (nI gC), .int (nI gV), .int (nI gB), .ref hs, .int (nI gM), .int (nI gI), .ref hd])), (hs, .inl (a1, gW, .inl st)), (hd, .inr (1, [.ref hc, .int d.2.1, .int d.2.2.1, .int d.2.2.2.1, .int d.2.2.2.2])), (hc, .inl (a2, (gI + 4), .inl d.1))] := hD
  have hl : lv_has ls 5 [(0, .ref h0), (1, .int (nI v)), (2, .int (nI b))] := hl
  obtain ⟨⟨hW1, hW2⟩, ⟨hC1, hC2⟩, ⟨hV1, hV2⟩, ⟨hB1, hB2⟩, eM, eI⟩ := id hg
  obtain ⟨hM2, hq2⟩ := geo_b hg
  have hcl := cntC_le d.1 gM (d.1 (gM + v * gB + b) - 1 + 1) (gV * gB)
  refine lv_aload_n hx hb dX0_usedSlotsWithout_0 rfl (lv_at hl 0 rfl) ?_
  refine lv_iload_n hx hb dX0_usedSlotsWithout_1 rfl (lv_at hl 1 rfl) ?_
  refine lv_iload_n hx hb dX0_usedSlotsWithout_2 rfl (lv_at hl 2 rfl) ?_
  refine xr_i (D := (dC, dI)) (wf := (xo_w h0 hs hd hc a1 a2 gW gC gV gB gM gI)) (u0 := (st, d)) (wr := []) (va_runV (As := [.int (nI v), .int (nI b)]) (rest := []) ⟨hx, hb, hml, hown, hts⟩ (k_X0_mappedSlot l dC dI h0 hs hd hc a1 a2 gW gC gV gB gM gI hg s.heap.size st d v b (by omega) (by omega)) (cwV 2 hts gX0_70 rfl rfl rfl (by decide +kernel) ⟨Nat.le_of_ble_eq_true rfl, Nat.le_of_ble_eq_true rfl⟩) (xp_v nwL_ok hK hN hP hD [0, 1, 2, 3] rfl rfl (va_recv hK hP (ci := 0) (q0 := 0) rfl rfl)) rfl rfl hl.1 rfl (lv_room (Nat.le_of_ble_eq_true rfl)) dX0_usedSlotsWithout_3 ⟨Nat.zero_le _, Nat.zero_le _⟩) hP hD hS hA [0, 1, 2, 3] [] rfl rfl (by decide) (by decide) (fun r_1 u_2 H locs hw hP hD hS => ?_)
  obtain ⟨er_1, eu_2⟩ := hw
  rw [eu_2] at hP hD
  rw [er_1]
  have hP : va_P (dC, dI) vwCl [(h0, .inr (0, [.int (nI gW), .int (nI gC), .int (nI gV), .int (nI gB), .ref hs, .int (nI gM), .int (nI gI), .ref hd])), (hs, .inl (a1, gW, .inl st)), (hd, .inr (1, [.ref hc, .int d.2.1, .int d.2.2.1, .int d.2.2.2.1, .int d.2.2.2.2])), (hc, .inl (a2, (gI + 4), .inl d.1))] H := hP
  have hD : va_D A [(h0, .inr (0, [.int (nI gW), .int (nI gC), .int (nI gV), .int (nI gB), .ref hs, .int (nI gM), .int (nI gI), .ref hd])), (hs, .inl (a1, gW, .inl st)), (hd, .inr (1, [.ref hc, .int d.2.1, .int d.2.2.1, .int d.2.2.2.1, .int d.2.2.2.2])), (hc, .inl (a2, (gI + 4), .inl d.1))] := hD
  refine lv_istore_n (lv' := [(3, .int (d.1 (gM + v * gB + b) - 1)), (0, .ref h0), (1, .int (nI v)), (2, .int (nI b))]) hx hb dX0_usedSlotsWithout_6 rfl hl (by decide) rfl (fun ls hl => ?_)
  refine lv_iload_n hx hb dX0_usedSlotsWithout_7 rfl (lv_at hl 0 rfl) ?_
  refine lv_iconst (v := (-1)) hx hb dX0_usedSlotsWithout_8 (by decide) ?_
  refine lv_icmp_eq (tgt := 25) hx hb dX0_usedSlotsWithout_9 (by decide) (fun c_3 => ?_) (fun c_3 => ?_)
  · refine lv_iconst (v := 0) hx hb dX0_usedSlotsWithout_25 (by decide) ?_
    refine lv_istore (lv' := [(4, .int 0), (3, .int (d.1 (gM + v * gB + b) - 1)), (0, .ref h0), (1, .int (nI v)), (2, .int (nI b))]) hx hb dX0_usedSlotsWithout_26 hl (by decide) rfl (fun ls hl => ?_)
    refine lv_iload hx hb dX0_usedSlotsWithout_28 (lv_at hl 0 rfl) ?_
    refine lv_if_eq (tgt := 42) hx hb dX0_usedSlotsWithout_30 (by decide) (fun c_4 => ?_) (fun c_4 => ?_)
    · refine lv_aload_n hx hb dX0_usedSlotsWithout_42 rfl (lv_at hl 2 rfl) ?_
      refine xr_i (D := (dC, dI)) (wf := (xo_w h0 hs hd hc a1 a2 gW gC gV gB gM gI)) (u0 := (st, d)) (wr := []) (va_runV (As := []) (rest := []) ⟨hx, hb, hml, hown, hts⟩ (k_X0_usedSlots l dC dI h0 hs hd hc a1 a2 gW gC gV gB gM gI hg H.size st d ) (cwV 0 hts gX0_87 rfl rfl rfl (by decide +kernel) ⟨Nat.le_of_ble_eq_true rfl, Nat.le_of_ble_eq_true rfl⟩) (xp_v nwL_ok hK hN hP hD [0, 1, 2, 3] rfl rfl (va_recv hK hP (ci := 0) (q0 := 0) rfl rfl)) rfl rfl hl.1 rfl (lv_room (Nat.le_of_ble_eq_true rfl)) dX0_usedSlotsWithout_43 ⟨Nat.zero_le _, Nat.zero_le _⟩) hP hD hS hA [0, 1, 2, 3] [] rfl rfl (by decide) (by decide) (fun r_5 u_6 H locs hw hP hD hS => ?_)
      obtain ⟨er_5, eu_6⟩ := hw
      rw [eu_6] at hP hD
      rw [er_5]
      have hP : va_P (dC, dI) vwCl [(h0, .inr (0, [.int (nI gW), .int (nI gC), .int (nI gV), .int (nI gB), .ref hs, .int (nI gM), .int (nI gI), .ref hd])), (hs, .inl (a1, gW, .inl st)), (hd, .inr (1, [.ref hc, .int d.2.1, .int d.2.2.1, .int d.2.2.2.1, .int d.2.2.2.2])), (hc, .inl (a2, (gI + 4), .inl d.1))] H := hP
      have hD : va_D A [(h0, .inr (0, [.int (nI gW), .int (nI gC), .int (nI gV), .int (nI gB), .ref hs, .int (nI gM), .int (nI gI), .ref hd])), (hs, .inl (a1, gW, .inl st)), (hd, .inr (1, [.ref hc, .int d.2.1, .int d.2.2.1, .int d.2.2.2.1, .int d.2.2.2.2])), (hc, .inl (a2, (gI + 4), .inl d.1))] := hD
      exact W.iret (v := nI (usN d.1 gM (gV * gB) (gC + 1))) hx hb hr (fun t ht hW => ⟨⟨nI (usN d.1 gM (gV * gB) (gC + 1)), (st, d), rfl, ⟨by unfold x_uwo; rw [if_pos c_3], rfl⟩, by rw [ht]; exact hP, hD⟩, hS.F ht⟩) hS.2.2 dX0_usedSlotsWithout_46
    · exact absurd c_4 (by decide)
  · refine lv_aload_n hx hb dX0_usedSlotsWithout_12 rfl (lv_at hl 1 rfl) ?_
    refine lv_iload_n hx hb dX0_usedSlotsWithout_13 rfl (lv_at hl 0 rfl) ?_
    refine xr_i (D := (dC, dI)) (wf := (xo_w h0 hs hd hc a1 a2 gW gC gV gB gM gI)) (u0 := (st, d)) (wr := []) (va_runV (As := [.int (d.1 (gM + v * gB + b) - 1)]) (rest := []) ⟨hx, hb, hml, hown, hts⟩ (k_X0_blocksMappedTo l dC dI h0 hs hd hc a1 a2 gW gC gV gB gM gI hg H.size st d (d.1 (gM + v * gB + b) - 1)) (cwV 1 hts gX0_90 rfl rfl rfl (by decide +kernel) ⟨Nat.le_of_ble_eq_true rfl, Nat.le_of_ble_eq_true rfl⟩) (xp_v nwL_ok hK hN hP hD [0, 1, 2, 3] rfl rfl (va_recv hK hP (ci := 0) (q0 := 0) rfl rfl)) rfl rfl hl.1 rfl (lv_room (Nat.le_of_ble_eq_true rfl)) dX0_usedSlotsWithout_14 ⟨Nat.zero_le _, Nat.zero_le _⟩) hP hD hS hA [0, 1, 2, 3] [] rfl rfl (by decide) (by decide) (fun r_7 u_8 H locs hw hP hD hS => ?_)
    obtain ⟨er_7, eu_8⟩ := hw
    rw [eu_8] at hP hD
    rw [er_7]
    have hP : va_P (dC, dI) vwCl [(h0, .inr (0, [.int (nI gW), .int (nI gC), .int (nI gV), .int (nI gB), .ref hs, .int (nI gM), .int (nI gI), .ref hd])), (hs, .inl (a1, gW, .inl st)), (hd, .inr (1, [.ref hc, .int d.2.1, .int d.2.2.1, .int d.2.2.2.1, .int d.2.2.2.2])), (hc, .inl (a2, (gI + 4), .inl d.1))] H := hP
    have hD : va_D A [(h0, .inr (0, [.int (nI gW), .int (nI gC), .int (nI gV), .int (nI gB), .ref hs, .int (nI gM), .int (nI gI), .ref hd])), (hs, .inl (a1, gW, .inl st)), (hd, .inr (1, [.ref hc, .int d.2.1, .int d.2.2.1, .int d.2.2.2.1, .int d.2.2.2.2])), (hc, .inl (a2, (gI + 4), .inl d.1))] := hD
    refine lv_iconst (v := 1) hx hb dX0_usedSlotsWithout_17 (by decide) ?_
    refine lv_icmp_ne (tgt := 25) hx hb dX0_usedSlotsWithout_18 (by decide) (fun c_9 => ?_) (fun c_9 => ?_)
    · have c_9 : ¬ (cntC d.1 gM (d.1 (gM + v * gB + b) - 1 + 1) (gV * gB) = 1) := fun q9 => c_9 ((nI_eq (a := cntC d.1 gM (d.1 (gM + v * gB + b) - 1 + 1) (gV * gB)) (b := 1) (by omega) (by omega)).mpr q9)
      refine lv_iconst (v := 0) hx hb dX0_usedSlotsWithout_25 (by decide) ?_
      refine lv_istore (lv' := [(4, .int 0), (3, .int (d.1 (gM + v * gB + b) - 1)), (0, .ref h0), (1, .int (nI v)), (2, .int (nI b))]) hx hb dX0_usedSlotsWithout_26 hl (by decide) rfl (fun ls hl => ?_)
      refine lv_iload hx hb dX0_usedSlotsWithout_28 (lv_at hl 0 rfl) ?_
      refine lv_if_eq (tgt := 42) hx hb dX0_usedSlotsWithout_30 (by decide) (fun c_10 => ?_) (fun c_10 => ?_)
      · refine lv_aload_n hx hb dX0_usedSlotsWithout_42 rfl (lv_at hl 2 rfl) ?_
        refine xr_i (D := (dC, dI)) (wf := (xo_w h0 hs hd hc a1 a2 gW gC gV gB gM gI)) (u0 := (st, d)) (wr := []) (va_runV (As := []) (rest := []) ⟨hx, hb, hml, hown, hts⟩ (k_X0_usedSlots l dC dI h0 hs hd hc a1 a2 gW gC gV gB gM gI hg H.size st d ) (cwV 0 hts gX0_87 rfl rfl rfl (by decide +kernel) ⟨Nat.le_of_ble_eq_true rfl, Nat.le_of_ble_eq_true rfl⟩) (xp_v nwL_ok hK hN hP hD [0, 1, 2, 3] rfl rfl (va_recv hK hP (ci := 0) (q0 := 0) rfl rfl)) rfl rfl hl.1 rfl (lv_room (Nat.le_of_ble_eq_true rfl)) dX0_usedSlotsWithout_43 ⟨Nat.zero_le _, Nat.zero_le _⟩) hP hD hS hA [0, 1, 2, 3] [] rfl rfl (by decide) (by decide) (fun r_11 u_12 H locs hw hP hD hS => ?_)
        obtain ⟨er_11, eu_12⟩ := hw
        rw [eu_12] at hP hD
        rw [er_11]
        have hP : va_P (dC, dI) vwCl [(h0, .inr (0, [.int (nI gW), .int (nI gC), .int (nI gV), .int (nI gB), .ref hs, .int (nI gM), .int (nI gI), .ref hd])), (hs, .inl (a1, gW, .inl st)), (hd, .inr (1, [.ref hc, .int d.2.1, .int d.2.2.1, .int d.2.2.2.1, .int d.2.2.2.2])), (hc, .inl (a2, (gI + 4), .inl d.1))] H := hP
        have hD : va_D A [(h0, .inr (0, [.int (nI gW), .int (nI gC), .int (nI gV), .int (nI gB), .ref hs, .int (nI gM), .int (nI gI), .ref hd])), (hs, .inl (a1, gW, .inl st)), (hd, .inr (1, [.ref hc, .int d.2.1, .int d.2.2.1, .int d.2.2.2.1, .int d.2.2.2.2])), (hc, .inl (a2, (gI + 4), .inl d.1))] := hD
        exact W.iret (v := nI (usN d.1 gM (gV * gB) (gC + 1))) hx hb hr (fun t ht hW => ⟨⟨nI (usN d.1 gM (gV * gB) (gC + 1)), (st, d), rfl, ⟨by unfold x_uwo; rw [if_neg c_3, if_neg c_9], rfl⟩, by rw [ht]; exact hP, hD⟩, hS.F ht⟩) hS.2.2 dX0_usedSlotsWithout_46
      · exact absurd c_10 (by decide)
    · have c_9 : cntC d.1 gM (d.1 (gM + v * gB + b) - 1 + 1) (gV * gB) = 1 := (nI_eq (a := cntC d.1 gM (d.1 (gM + v * gB + b) - 1 + 1) (gV * gB)) (b := 1) (by omega) (by omega)).mp c_9
      refine lv_iconst (v := 1) hx hb dX0_usedSlotsWithout_21 (by decide) ?_
      refine lv_goto (tgt := 26) hx hb dX0_usedSlotsWithout_22 (by decide) ?_
      refine lv_istore (lv' := [(4, .int 1), (3, .int (d.1 (gM + v * gB + b) - 1)), (0, .ref h0), (1, .int (nI v)), (2, .int (nI b))]) hx hb dX0_usedSlotsWithout_26 hl (by decide) rfl (fun ls hl => ?_)
      refine lv_iload hx hb dX0_usedSlotsWithout_28 (lv_at hl 0 rfl) ?_
      refine lv_if_eq (tgt := 42) hx hb dX0_usedSlotsWithout_30 (by decide) (fun c_13 => ?_) (fun c_13 => ?_)
      · exact absurd c_13 (by decide)
      · refine lv_aload_n hx hb dX0_usedSlotsWithout_33 rfl (lv_at hl 2 rfl) ?_
        refine xr_i (D := (dC, dI)) (wf := (xo_w h0 hs hd hc a1 a2 gW gC gV gB gM gI)) (u0 := (st, d)) (wr := []) (va_runV (As := []) (rest := []) ⟨hx, hb, hml, hown, hts⟩ (k_X0_usedSlots l dC dI h0 hs hd hc a1 a2 gW gC gV gB gM gI hg H.size st d ) (cwV 0 hts gX0_87 rfl rfl rfl (by decide +kernel) ⟨Nat.le_of_ble_eq_true rfl, Nat.le_of_ble_eq_true rfl⟩) (xp_v nwL_ok hK hN hP hD [0, 1, 2, 3] rfl rfl (va_recv hK hP (ci := 0) (q0 := 0) rfl rfl)) rfl rfl hl.1 rfl (lv_room (Nat.le_of_ble_eq_true rfl)) dX0_usedSlotsWithout_34 ⟨Nat.zero_le _, Nat.zero_le _⟩) hP hD hS hA [0, 1, 2, 3] [] rfl rfl (by decide) (by decide) (fun r_14 u_15 H locs hw hP hD hS => ?_)
        obtain ⟨er_14, eu_15⟩ := hw
        rw [eu_15] at hP hD
        rw [er_14]
        have hP : va_P (dC, dI) vwCl [(h0, .inr (0, [.int (nI gW), .int (nI gC), .int (nI gV), .int (nI gB), .ref hs, .int (nI gM), .int (nI gI), .ref hd])), (hs, .inl (a1, gW, .inl st)), (hd, .inr (1, [.ref hc, .int d.2.1, .int d.2.2.1, .int d.2.2.2.1, .int d.2.2.2.2])), (hc, .inl (a2, (gI + 4), .inl d.1))] H := hP
        have hD : va_D A [(h0, .inr (0, [.int (nI gW), .int (nI gC), .int (nI gV), .int (nI gB), .ref hs, .int (nI gM), .int (nI gI), .ref hd])), (hs, .inl (a1, gW, .inl st)), (hd, .inr (1, [.ref hc, .int d.2.1, .int d.2.2.1, .int d.2.2.2.1, .int d.2.2.2.2])), (hc, .inl (a2, (gI + 4), .inl d.1))] := hD
        refine lv_iconst (v := 1) hx hb dX0_usedSlotsWithout_37 (by decide) ?_
        refine lv_isub hx hb dX0_usedSlotsWithout_38 ?_
        refine lv_goto (tgt := 46) hx hb dX0_usedSlotsWithout_39 (by decide) ?_
        exact W.iret (v := nI (usN d.1 gM (gV * gB) (gC + 1)) - 1) hx hb hr (fun t ht hW => ⟨⟨nI (usN d.1 gM (gV * gB) (gC + 1)) - 1, (st, d), rfl, ⟨by unfold x_uwo; rw [if_neg c_3, if_pos c_9], rfl⟩, by rw [ht]; exact hP, hD⟩, hS.F ht⟩) hS.2.2 dX0_usedSlotsWithout_46
set_option maxHeartbeats 4000000 in
set_option maxRecDepth 100000 in
theorem lp_X0_writeNewContents_24 {p : Program} {l : Launch} {e : Env} {s : State} {m : MethodId} {args : Array Value} {below : List Frame} {meth : Method} {c : Code} {Q : State → Prop} {A : Nat → Prop} {dC : Nat → ClassId} {dI : Nat → Nat → Nat} (h0 hs hd hc : Nat) (a1 a2 : ClassId) (gW gC gV gB gM gI : Nat) (hg : geo gW gC gV gB gM gI) (st : Nat → Int32) (d : DS) (v b k : Nat) (hk : k ≤ gC) (hx : p.tables.exec = Jvm.exec) (hb : c.code = cX0_writeNewContents) (hml : c.maxLocals = 5) (hown : s.vm.findClass RX0 = some m.cls) (hts : ∀ w ∈ TBG, w.before args s = true) (hK : va_K (dC, dI) vwCl [(a1, .int), (a2, .int)] s) (hN : nwOk nwL s) (hA : ∀ q : Nat, s.heap.size ≤ q → A q)  (K : ∀  (H : Heap) (locs : List Loc) (ls : Array Slot), va_P (dC, dI) vwCl (xo_w h0 hs hd hc a1 a2 gW gC gV gB gM gI (st, (dk_ws d (k * gW) st gW))) H → va_D A (xo_w h0 hs hd hc a1 a2 gW gC gV gB gM gI (st, (dk_ws d (k * gW) st gW))) → va_S A s.heap H locs → lv_has ls 5 [(0, .ref h0), (1, .int (nI v)), (2, .int (nI b)), (3, .int (nI k))] → W p l e ({ frames := 5, cells := 0, slots := 0, locals := 115 } : Room) s m args below meth c H locs 0 0 Q (F0 m 60 ls [])) : ∀ (n : Nat) (i : Nat) (H : Heap) (locs : List Loc) (ls : Array Slot), gW - i < n → (i ≤ gW) → va_P (dC, dI) vwCl (xo_w h0 hs hd hc a1 a2 gW gC gV gB gM gI (st, (dk_ws d (k * gW) st i))) H → va_D A (xo_w h0 hs hd hc a1 a2 gW gC gV gB gM gI (st, (dk_ws d (k * gW) st i))) → va_S A s.heap H locs → lv_has ls 5 [(0, .ref h0), (1, .int (nI v)), (2, .int (nI b)), (3, .int (nI k)), (4, .int (nI i))] → W p l e ({ frames := 5, cells := 0, slots := 0, locals := 115 } : Room) s m args below meth c H locs 0 0 Q (F0 m 24 ls []) := by
  obtain ⟨⟨hW1, hW2⟩, ⟨hC1, hC2⟩, ⟨hV1, hV2⟩, ⟨hB1, hB2⟩, eM, eI⟩ := id hg
  obtain ⟨hM2, hq2⟩ := geo_b hg
  intro n
  induction n with
  | zero => intro i H locs ls hfu; exact absurd hfu (by omega)
  | succ n ih =>
    intro i H locs ls hfu hi hP hD hS hl
    have hP : va_P (dC, dI) vwCl [(h0, .inr (0, [.int (nI gW), .int (nI gC), .int (nI gV), .int (nI gB), .ref hs, .int (nI gM), .int (nI gI), .ref hd])), (hs, .inl (a1, gW, .inl st)), (hd, .inr (1, [.ref hc, .int ((dk_ws d (k * gW) st i).2.1), .int ((dk_ws d (k * gW) st i).2.2.1), .int ((dk_ws d (k * gW) st i).2.2.2.1), .int ((dk_ws d (k * gW) st i).2.2.2.2)])), (hc, .inl (a2, (gI + 4), .inl ((dk_ws d (k * gW) st i).1)))] H := hP
    have hD : va_D A [(h0, .inr (0, [.int (nI gW), .int (nI gC), .int (nI gV), .int (nI gB), .ref hs, .int (nI gM), .int (nI gI), .ref hd])), (hs, .inl (a1, gW, .inl st)), (hd, .inr (1, [.ref hc, .int ((dk_ws d (k * gW) st i).2.1), .int ((dk_ws d (k * gW) st i).2.2.1), .int ((dk_ws d (k * gW) st i).2.2.2.1), .int ((dk_ws d (k * gW) st i).2.2.2.2)])), (hc, .inl (a2, (gI + 4), .inl ((dk_ws d (k * gW) st i).1)))] := hD
    refine lv_iload hx hb dX0_writeNewContents_24 (lv_at hl 4 rfl) ?_
    refine lv_aload_n hx hb dX0_writeNewContents_26 rfl (lv_at hl 0 rfl) ?_
    refine va_get (D := (dC, dI)) (ci := 0) (v := .int (nI gW)) (C := RX0) (T := TX0) (N := 8) hx hb hts inX0 hown hK hP 0 rfl rfl 0 (by decide) (hts _ tb_46) (fun _ h9 => h9) rfl dX0_writeNewContents_27 ?_
    refine lv_icmp_ge (tgt := 60) hx hb dX0_writeNewContents_30 (by decide) (fun c_1 => ?_) (fun c_1 => ?_)
    · have c_1 : gW ≤ i := (nI_leI (a := gW) (b := i) (by omega) (by omega)).mp c_1
      have hie : i = gW := by omega
      rw [hie] at hP hD
      exact K  _ _ _  hP hD hS (lv_sub hl [0, 1, 2, 3] rfl)
    · have c_1 : ¬ (gW ≤ i) := fun q9 => c_1 ((nI_leI (a := gW) (b := i) (by omega) (by omega)).mpr q9)
      refine lv_aload_n hx hb dX0_writeNewContents_33 rfl (lv_at hl 0 rfl) ?_
      refine va_get (D := (dC, dI)) (ci := 0) (v := .ref hd) (C := RX0) (T := TX0) (N := 8) hx hb hts inX0 hown hK hP 0 rfl rfl 7 (by decide) (hts _ tb_53) (fun _ h9 => h9) rfl dX0_writeNewContents_34 ?_
      refine lv_aload_n hx hb dX0_writeNewContents_37 rfl (lv_at hl 0 rfl) ?_
      refine lv_iload_n hx hb dX0_writeNewContents_38 rfl (lv_at hl 3 rfl) ?_
      refine lv_iload hx hb dX0_writeNewContents_39 (lv_at hl 4 rfl) ?_
      have hki := geo_slot hg hk (show i < gW by omega)
      refine xr_i (D := (dC, dI)) (wf := (xo_w h0 hs hd hc a1 a2 gW gC gV gB gM gI)) (u0 := (st, (dk_ws d (k * gW) st i))) (wr := []) (va_runV (As := [.int (nI k), .int (nI i)]) (rest := [.ref hd]) ⟨hx, hb, hml, hown, hts⟩ (k_X0_slotCell l dC dI h0 hs hd hc a1 a2 gW gC gV gB gM gI hg H.size st (dk_ws d (k * gW) st i) k i) (cwV 2 hts gX0_77 rfl rfl rfl (by decide +kernel) ⟨Nat.le_of_ble_eq_true rfl, Nat.le_of_ble_eq_true rfl⟩) (xp_v nwL_ok hK hN hP hD [0, 1, 2, 3] rfl rfl (va_recv hK hP (ci := 0) (q0 := 0) rfl rfl)) rfl rfl hl.1 rfl (lv_room (Nat.le_of_ble_eq_true rfl)) dX0_writeNewContents_41 ⟨Nat.zero_le _, Nat.zero_le _⟩) hP hD hS hA [0, 1, 2, 3] [] rfl rfl (by decide) (by decide) (fun r_2 u_3 H locs hw hP hD hS => ?_)
      obtain ⟨er_2, eu_3⟩ := hw
      rw [eu_3] at hP hD
      rw [er_2]
      have hP : va_P (dC, dI) vwCl [(h0, .inr (0, [.int (nI gW), .int (nI gC), .int (nI gV), .int (nI gB), .ref hs, .int (nI gM), .int (nI gI), .ref hd])), (hs, .inl (a1, gW, .inl st)), (hd, .inr (1, [.ref hc, .int ((dk_ws d (k * gW) st i).2.1), .int ((dk_ws d (k * gW) st i).2.2.1), .int ((dk_ws d (k * gW) st i).2.2.2.1), .int ((dk_ws d (k * gW) st i).2.2.2.2)])), (hc, .inl (a2, (gI + 4), .inl ((dk_ws d (k * gW) st i).1)))] H := hP
      have hD : va_D A [(h0, .inr (0, [.int (nI gW), .int (nI gC), .int (nI gV), .int (nI gB), .ref hs, .int (nI gM), .int (nI gI), .ref hd])), (hs, .inl (a1, gW, .inl st)), (hd, .inr (1, [.ref hc, .int ((dk_ws d (k * gW) st i).2.1), .int ((dk_ws d (k * gW) st i).2.2.1), .int ((dk_ws d (k * gW) st i).2.2.2.1), .int ((dk_ws d (k * gW) st i).2.2.2.2)])), (hc, .inl (a2, (gI + 4), .inl ((dk_ws d (k * gW) st i).1)))] := hD
      refine lv_aload_n hx hb dX0_writeNewContents_44 rfl (lv_at hl 0 rfl) ?_
      refine va_get (D := (dC, dI)) (ci := 0) (v := .ref hs) (C := RX0) (T := TX0) (N := 8) hx hb hts inX0 hown hK hP 0 rfl rfl 4 (by decide) (hts _ tb_50) (fun _ h9 => h9) rfl dX0_writeNewContents_45 ?_
      refine lv_iload hx hb dX0_writeNewContents_48 (lv_at hl 4 rfl) ?_
      refine va_iald hx hb hK hP 1 0 rfl rfl (vp_in_nI (n := i) (by omega) (by omega)) dX0_writeNewContents_50 ?_
      refine lv_topi (fun z_4 ez_4 => ?_)
      obtain rfl : z_4 = st i := ez_4.trans (by rw [nI_clamp (n := i) (by omega)])
      refine xr_v (D := (dC, dI)) (wf := (dk_w hd hc a2 (gI + 4))) (u0 := (dk_ws d (k * gW) st i)) (wr := [(h0, .inr (0, [.int (nI gW), .int (nI gC), .int (nI gV), .int (nI gB), .ref hs, .int (nI gM), .int (nI gI), .ref hd])), (hs, .inl (a1, gW, .inl st))]) (va_runVN (As := [.int (nI (k * gW + i)), .int (st i)]) (rest := []) ⟨hx, hb, hml, hown, hts⟩ (k_X1_write l dC dI hd hc a2 (gI + 4) (by omega) H.size (dk_ws d (k * gW) st i) (k * gW + i) (by omega) (st i)) ⟨va_cnB 2 hts gX0_116 rfl rfl rfl (hN _ nn_116) (hts _ tb_3) (by decide +kernel) ⟨Nat.le_of_ble_eq_true rfl, Nat.le_of_ble_eq_true rfl⟩, hts _ tb_161, hts _ ts_18⟩ (xp_v nwL_ok (hK.sub (tys' := [(a2, .int)]) [1] rfl) hN hP hD [2, 3] rfl rfl (va_recv hK hP (ci := 1) (q0 := 2) rfl rfl)) rfl rfl hl.1 rfl (lv_room (Nat.le_of_ble_eq_true rfl)) dX0_writeNewContents_51 ⟨Nat.zero_le _, Nat.zero_le _⟩) hP hD hS hA [2, 3] [0, 1] rfl rfl (by decide) (by decide) (fun u_6 H locs hw hP hD hS => ?_)
      obtain ⟨d_7, ed_7⟩ : ∃ z, z = dk_write (dk_ws d (k * gW) st i) (k * gW + i) (st i) := ⟨_, rfl⟩
      rw [hw, ← ed_7] at hP hD
      have hP : va_P (dC, dI) vwCl [(h0, .inr (0, [.int (nI gW), .int (nI gC), .int (nI gV), .int (nI gB), .ref hs, .int (nI gM), .int (nI gI), .ref hd])), (hs, .inl (a1, gW, .inl st)), (hd, .inr (1, [.ref hc, .int d_7.2.1, .int d_7.2.2.1, .int d_7.2.2.2.1, .int d_7.2.2.2.2])), (hc, .inl (a2, (gI + 4), .inl d_7.1))] H := hP
      have hD : va_D A [(h0, .inr (0, [.int (nI gW), .int (nI gC), .int (nI gV), .int (nI gB), .ref hs, .int (nI gM), .int (nI gI), .ref hd])), (hs, .inl (a1, gW, .inl st)), (hd, .inr (1, [.ref hc, .int d_7.2.1, .int d_7.2.2.1, .int d_7.2.2.2.1, .int d_7.2.2.2.2])), (hc, .inl (a2, (gI + 4), .inl d_7.1))] := hD
      refine lv_iinc (v := nI (i + 1)) (lv' := [(4, .int (nI (i + 1))), (0, .ref h0), (1, .int (nI v)), (2, .int (nI b)), (3, .int (nI k))]) hx hb dX0_writeNewContents_54 hl (k := 4) rfl (nI_1 i) (by decide) rfl (fun ls hl => ?_)
      have e9 : d_7 = dk_ws d (k * gW) st (i + 1) := ed_7
      rw [e9] at hP hD
      refine lv_goto (tgt := 24) hx hb dX0_writeNewContents_57 (by decide) ?_
      exact ih (i + 1) _ _ _ (by omega) (by omega) hP hD hS (lv_sub hl [1, 2, 3, 4, 0] rfl)
set_option maxHeartbeats 4000000 in
set_option maxRecDepth 100000 in
theorem k_X0_writeNewContents (l : Launch) (dC : Nat → ClassId) (dI : Nat → Nat → Nat) (h0 hs hd hc : Nat) (a1 a2 : ClassId) (gW gC gV gB gM gI : Nat) (hg : geo gW gC gV gB gM gI) (sz : Nat) (st : Nat → Int32) (d : DS) (hz : d.2.2.2.2 = 0 ∨ d.2.2.2.2 = 1) (hk0 : d.1 (gI + 3) = 0) (v b : Nat) (hv : v < gV) (hb9 : b < gB) : ctI nwL l yX0_writeNewContents wsX0_writeNewContents ({ frames := 5, cells := 0, slots := 0, locals := 115 } : Room) (dC, dI) [(a1, .int), (a2, .int)] (xo_w h0 hs hd hc a1 a2 gW gC gV gB gM gI) (st, d) sz [.ref h0, .int (nI v), .int (nI b)] (fun (r : Int32) (u : XS) => x_wn st d gW gC gV gB gM gI v b r u) := by
  refine Met.ofW (cc := cX0_writeNewContents) (maxL := 5) (ret := (some .int)) (by decide) rfl ?_
  intro p e s m args below meth c s₁ B hml hv
  obtain ⟨rfl, hsz, hP, hK, hD0, hN⟩ := hv
  have hx := B.exec
  have hb := B.bytes
  have hr := B.returns
  have hts := fun w h => atoms_spec (ws := wsX0_writeNewContents) B.pre w (List.mem_cons_of_mem _ h)
  have hown : s.vm.findClass RX0 = some m.cls := findClass_of_methodNamed B.named
  have hlocks := B.notSynchronized
  subst hsz
  have hD := hD0.self (sz := s.heap.size)
  generalize hAe : va_A ((xo_w h0 hs hd hc a1 a2 gW gC gV gB gM gI) (st, d)) s.heap.size = A at hD ⊢
  have hA : ∀ q : Nat, s.heap.size ≤ q → A q := fun q h => by rw [← hAe]; exact Or.inr h
  have hS : va_S A s.heap s.heap [] := va_S.rf
  have hl := lv_entry ([.ref h0, .int (nI v), .int (nI b)]) (n := 5) (Nat.le_of_ble_eq_true rfl)
  rw [lg_entry_eq]
  generalize (lg_sl ([.ref h0, .int (nI v), .int (nI b)]) ++ List.replicate (5 - (lg_sl ([.ref h0, .int (nI v), .int (nI b)])).length) Slot.unset).toArray = ls at hl ⊢
  have hP : va_P (dC, dI) vwCl [(h0, .inr (0, [.int (nI gW), .int (nI gC), .int (nI gV), .int (nI gB), .ref hs, .int (nI gM), .int (nI gI), .ref hd])), (hs, .inl (a1, gW, .inl st)), (hd, .inr (1, [.ref hc, .int d.2.1, .int d.2.2.1, .int d.2.2.2.1, .int d.2.2.2.2])), (hc, .inl (a2, (gI + 4), .inl d.1))] s.heap := hP
  have hD : va_D A [(h0, .inr (0, [.int (nI gW), .int (nI gC), .int (nI gV), .int (nI gB), .ref hs, .int (nI gM), .int (nI gI), .ref hd])), (hs, .inl (a1, gW, .inl st)), (hd, .inr (1, [.ref hc, .int d.2.1, .int d.2.2.1, .int d.2.2.2.1, .int d.2.2.2.2])), (hc, .inl (a2, (gI + 4), .inl d.1))] := hD
  have hl : lv_has ls 5 [(0, .ref h0), (1, .int (nI v)), (2, .int (nI b))] := hl
  obtain ⟨⟨hW1, hW2⟩, ⟨hC1, hC2⟩, ⟨hV1, hV2⟩, ⟨hB1, hB2⟩, eM, eI⟩ := id hg
  obtain ⟨hM2, hq2⟩ := geo_b hg
  refine lv_aload_n hx hb dX0_writeNewContents_0 rfl (lv_at hl 0 rfl) ?_
  refine lv_iload_n hx hb dX0_writeNewContents_1 rfl (lv_at hl 1 rfl) ?_
  refine lv_iload_n hx hb dX0_writeNewContents_2 rfl (lv_at hl 2 rfl) ?_
  refine xr_i (D := (dC, dI)) (wf := (xo_w h0 hs hd hc a1 a2 gW gC gV gB gM gI)) (u0 := (st, d)) (wr := []) (va_runV (As := [.int (nI v), .int (nI b)]) (rest := []) ⟨hx, hb, hml, hown, hts⟩ (k_X0_usedSlotsWithout l dC dI h0 hs hd hc a1 a2 gW gC gV gB gM gI hg s.heap.size st d v b hv hb9) (cwV 2 hts gX0_132 rfl rfl rfl (by decide +kernel) ⟨Nat.le_of_ble_eq_true rfl, Nat.le_of_ble_eq_true rfl⟩) (xp_v nwL_ok hK hN hP hD [0, 1, 2, 3] rfl rfl (va_recv hK hP (ci := 0) (q0 := 0) rfl rfl)) rfl rfl hl.1 rfl (lv_room (Nat.le_of_ble_eq_true rfl)) dX0_writeNewContents_3 ⟨Nat.zero_le _, Nat.zero_le _⟩) hP hD hS hA [0, 1, 2, 3] [] rfl rfl (by decide) (by decide) (fun r_1 u_2 H locs hw hP hD hS => ?_)
  obtain ⟨er_1, eu_2⟩ := hw
  rw [eu_2] at hP hD
  rw [er_1]
  have hP : va_P (dC, dI) vwCl [(h0, .inr (0, [.int (nI gW), .int (nI gC), .int (nI gV), .int (nI gB), .ref hs, .int (nI gM), .int (nI gI), .ref hd])), (hs, .inl (a1, gW, .inl st)), (hd, .inr (1, [.ref hc, .int d.2.1, .int d.2.2.1, .int d.2.2.2.1, .int d.2.2.2.2])), (hc, .inl (a2, (gI + 4), .inl d.1))] H := hP
  have hD : va_D A [(h0, .inr (0, [.int (nI gW), .int (nI gC), .int (nI gV), .int (nI gB), .ref hs, .int (nI gM), .int (nI gI), .ref hd])), (hs, .inl (a1, gW, .inl st)), (hd, .inr (1, [.ref hc, .int d.2.1, .int d.2.2.1, .int d.2.2.2.1, .int d.2.2.2.2])), (hc, .inl (a2, (gI + 4), .inl d.1))] := hD
  refine lv_aload_n hx hb dX0_writeNewContents_6 rfl (lv_at hl 0 rfl) ?_
  refine va_get (D := (dC, dI)) (ci := 0) (v := .int (nI gC)) (C := RX0) (T := TX0) (N := 8) hx hb hts inX0 hown hK hP 0 rfl rfl 1 (by decide) (hts _ tb_47) (fun _ h9 => h9) rfl dX0_writeNewContents_7 ?_
  refine lv_icmp_lt (tgt := 16) hx hb dX0_writeNewContents_10 (by decide) (fun c_3 => ?_) (fun c_3 => ?_)
  · refine lv_aload_n hx hb dX0_writeNewContents_16 rfl (lv_at hl 0 rfl) ?_
    refine xr_i (D := (dC, dI)) (wf := (xo_w h0 hs hd hc a1 a2 gW gC gV gB gM gI)) (u0 := (st, d)) (wr := []) (va_runV (As := []) (rest := []) ⟨hx, hb, hml, hown, hts⟩ (k_X0_lowestUnusedSlot l dC dI h0 hs hd hc a1 a2 gW gC gV gB gM gI hg H.size st d ) (cwV 0 hts gX0_135 rfl rfl rfl (by decide +kernel) ⟨Nat.le_of_ble_eq_true rfl, Nat.le_of_ble_eq_true rfl⟩) (xp_v nwL_ok hK hN hP hD [0, 1, 2, 3] rfl rfl (va_recv hK hP (ci := 0) (q0 := 0) rfl rfl)) rfl rfl hl.1 rfl (lv_room (Nat.le_of_ble_eq_true rfl)) dX0_writeNewContents_17 ⟨Nat.zero_le _, Nat.zero_le _⟩) hP hD hS hA [0, 1, 2, 3] [] rfl rfl (by decide) (by decide) (fun r_4 u_5 H locs hw hP hD hS => ?_)
    obtain ⟨⟨k, er_4, hk, hlo, hlk⟩, eu_5⟩ := hw
    rw [eu_5] at hP hD
    rw [er_4]
    have hP : va_P (dC, dI) vwCl [(h0, .inr (0, [.int (nI gW), .int (nI gC), .int (nI gV), .int (nI gB), .ref hs, .int (nI gM), .int (nI gI), .ref hd])), (hs, .inl (a1, gW, .inl st)), (hd, .inr (1, [.ref hc, .int d.2.1, .int d.2.2.1, .int d.2.2.2.1, .int d.2.2.2.2])), (hc, .inl (a2, (gI + 4), .inl d.1))] H := hP
    have hD : va_D A [(h0, .inr (0, [.int (nI gW), .int (nI gC), .int (nI gV), .int (nI gB), .ref hs, .int (nI gM), .int (nI gI), .ref hd])), (hs, .inl (a1, gW, .inl st)), (hd, .inr (1, [.ref hc, .int d.2.1, .int d.2.2.1, .int d.2.2.2.1, .int d.2.2.2.2])), (hc, .inl (a2, (gI + 4), .inl d.1))] := hD
    refine lv_istore_n (lv' := [(3, .int (nI k)), (0, .ref h0), (1, .int (nI v)), (2, .int (nI b))]) hx hb dX0_writeNewContents_20 rfl hl (by decide) rfl (fun ls hl => ?_)
    refine lv_iconst (v := 0) hx hb dX0_writeNewContents_21 (by decide) ?_
    refine lv_istore (lv' := [(4, .int 0), (3, .int (nI k)), (0, .ref h0), (1, .int (nI v)), (2, .int (nI b))]) hx hb dX0_writeNewContents_22 hl (by decide) rfl (fun ls hl => ?_)
    have hl : lv_has ls 5 [(4, .int (nI 0)), (3, .int (nI k)), (0, .ref h0), (1, .int (nI v)), (2, .int (nI b))] := hl
    refine lp_X0_writeNewContents_24 h0 hs hd hc a1 a2 gW gC gV gB gM gI hg st d v b k hk hx hb hml hown hts hK hN hA  (fun  H locs ls  hP hD hS hl => ?_) (gW + 1) 0 _ _ _ (by omega) (by omega) hP hD hS (lv_sub hl [2, 3, 4, 1, 0] rfl)
    · obtain ⟨d9, ed9⟩ : ∃ z, z = dk_ws d (k * gW) st gW := ⟨_, rfl⟩
      rw [← ed9] at hP hD
      have hP : va_P (dC, dI) vwCl [(h0, .inr (0, [.int (nI gW), .int (nI gC), .int (nI gV), .int (nI gB), .ref hs, .int (nI gM), .int (nI gI), .ref hd])), (hs, .inl (a1, gW, .inl st)), (hd, .inr (1, [.ref hc, .int d9.2.1, .int d9.2.2.1, .int d9.2.2.2.1, .int d9.2.2.2.2])), (hc, .inl (a2, (gI + 4), .inl d9.1))] H := hP
      have hD : va_D A [(h0, .inr (0, [.int (nI gW), .int (nI gC), .int (nI gV), .int (nI gB), .ref hs, .int (nI gM), .int (nI gI), .ref hd])), (hs, .inl (a1, gW, .inl st)), (hd, .inr (1, [.ref hc, .int d9.2.1, .int d9.2.2.1, .int d9.2.2.2.1, .int d9.2.2.2.2])), (hc, .inl (a2, (gI + 4), .inl d9.1))] := hD
      have hgs : k * gW + gW ≤ gM := by have q9 := geo_slot hg hk (show gW - 1 < gW by omega); omega
      have hz9 : d9.2.2.2.2 = 0 ∨ d9.2.2.2.2 = 1 := by rw [ed9]; exact dk_ws_z hz _
      have hk9 : d9.1 (gI + 3) = 0 := by rw [ed9]; exact (dk_ws_out (Or.inr (by omega))).trans hk0
      refine lv_aload_n hx hb dX0_writeNewContents_60 rfl (lv_at hl 0 rfl) ?_
      refine lv_iconst (v := 1) hx hb dX0_writeNewContents_61 (by decide) ?_
      refine lv_iload_n hx hb dX0_writeNewContents_62 rfl (lv_at hl 1 rfl) ?_
      refine lv_iload_n hx hb dX0_writeNewContents_63 rfl (lv_at hl 2 rfl) ?_
      refine lv_iload_n hx hb dX0_writeNewContents_64 rfl (lv_at hl 3 rfl) ?_
      refine xr_i (D := (dC, dI)) (wf := (xo_w h0 hs hd hc a1 a2 gW gC gV gB gM gI)) (u0 := (st, d9)) (wr := []) (va_runV (As := [.int 1, .int (nI v), .int (nI b), .int (nI k)]) (rest := []) ⟨hx, hb, hml, hown, hts⟩ (k_X0_change l dC dI h0 hs hd hc a1 a2 gW gC gV gB gM gI hg H.size st d9 hz9 hk9 1 v b hv ⟨fun _ => hb9, fun q9 => absurd q9 (by decide)⟩ (nI k)) (cwV 4 hts gX0_73 rfl rfl rfl (by decide +kernel) ⟨Nat.le_of_ble_eq_true rfl, Nat.le_of_ble_eq_true rfl⟩) (xp_v nwL_ok hK hN hP hD [0, 1, 2, 3] rfl rfl (va_recv hK hP (ci := 0) (q0 := 0) rfl rfl)) rfl rfl hl.1 rfl (lv_room (Nat.le_of_ble_eq_true rfl)) dX0_writeNewContents_65 ⟨Nat.zero_le _, Nat.zero_le _⟩) hP hD hS hA [0, 1, 2, 3] [] rfl rfl (by decide) (by decide) (fun r_6 u_7 H locs hw hP hD hS => ?_)
      obtain ⟨er_6, hw⟩ := hw
      rw [er_6]
      obtain ⟨d_8, ed_8⟩ : ∃ z, z = chg d9 gM gB gI 1 v b (nI k) := ⟨_, rfl⟩
      rw [hw, ← ed_8] at hP hD
      have hP : va_P (dC, dI) vwCl [(h0, .inr (0, [.int (nI gW), .int (nI gC), .int (nI gV), .int (nI gB), .ref hs, .int (nI gM), .int (nI gI), .ref hd])), (hs, .inl (a1, gW, .inl st)), (hd, .inr (1, [.ref hc, .int d_8.2.1, .int d_8.2.2.1, .int d_8.2.2.2.1, .int d_8.2.2.2.2])), (hc, .inl (a2, (gI + 4), .inl d_8.1))] H := hP
      have hD : va_D A [(h0, .inr (0, [.int (nI gW), .int (nI gC), .int (nI gV), .int (nI gB), .ref hs, .int (nI gM), .int (nI gI), .ref hd])), (hs, .inl (a1, gW, .inl st)), (hd, .inr (1, [.ref hc, .int d_8.2.1, .int d_8.2.2.1, .int d_8.2.2.2.1, .int d_8.2.2.2.2])), (hc, .inl (a2, (gI + 4), .inl d_8.1))] := hD
      exact W.iret (v := ans (chg d9 gM gB gI 1 v b (nI k))) hx hb hr (fun t ht hW => ⟨⟨ans (chg d9 gM gB gI 1 v b (nI k)), (st, d_8), rfl, Or.inr ⟨c_3, k, hk, hlo, hlk, by rw [ed9], by rw [ed_8, ed9]⟩, by rw [ht]; exact hP, hD⟩, hS.F ht⟩) hS.2.2 dX0_writeNewContents_68
  · refine lv_bipush (v := (-2)) hx hb dX0_writeNewContents_13 (by decide) ?_
    exact W.iret (v := (-2)) hx hb hr (fun t ht hW => ⟨⟨(-2), (st, d), rfl, Or.inl ⟨c_3, rfl, rfl⟩, by rw [ht]; exact hP, hD⟩, hS.F ht⟩) hS.2.2 dX0_writeNewContents_15
