set_option maxHeartbeats 4000000 in
set_option maxRecDepth 100000 in
theorem k_X1_wipe (l : Launch) (dC : Nat → ClassId) (dI : Nat → Nat → Nat) (hd hc : Nat) (a2 : ClassId) (n : Nat) (hn : n < 2 ^ 31) (sz : Nat) (d : DS)  : ctV nwL l yX1_wipe wsX1_wipe ({ frames := 1, cells := 0, slots := 0, locals := 23 } : Room) (dC, dI) [(a2, .int)] (dk_w hd hc a2 n) d sz [.ref hd] (fun (u : DS) => u = (fillN d.1 n 0, d.2.1, 0, d.2.2.2.1, 0)) := by
  refine Met.ofW (cc := cX1_wipe) (maxL := 1) (ret := none) (by decide) rfl ?_
  intro p e s m args below meth c s₁ B hml hv
  obtain ⟨rfl, hsz, hP, hK, hD0, hN⟩ := hv
  have hx := B.exec
  have hb := B.bytes
  have hr := B.returns
  have hts := fun w h => atoms_spec (ws := wsX1_wipe) B.pre w (List.mem_cons_of_mem _ h)
  have hown : s.vm.findClass RX1 = some m.cls := findClass_of_methodNamed B.named
  have hlocks := B.notSynchronized
  subst hsz
  have hD := hD0.self (sz := s.heap.size)
  generalize hAe : va_A ((dk_w hd hc a2 n) d) s.heap.size = A at hD ⊢
  have hA : ∀ q : Nat, s.heap.size ≤ q → A q := fun q h => by rw [← hAe]; exact Or.inr h
  have hS : va_S A s.heap s.heap [] := va_S.rf
  have hl := lv_entry ([.ref hd]) (n := 1) (Nat.le_of_ble_eq_true rfl)
  rw [lg_entry_eq]
  generalize (lg_sl ([.ref hd]) ++ List.replicate (1 - (lg_sl ([.ref hd])).length) Slot.unset).toArray = ls at hl ⊢
  have hP : va_P (dC, dI) vwCl [(hd, .inr (1, [.ref hc, .int d.2.1, .int d.2.2.1, .int d.2.2.2.1, .int d.2.2.2.2])), (hc, .inl (a2, n, .inl d.1))] s.heap := hP
  have hD : va_D A [(hd, .inr (1, [.ref hc, .int d.2.1, .int d.2.2.1, .int d.2.2.2.1, .int d.2.2.2.2])), (hc, .inl (a2, n, .inl d.1))] := hD
  have hl : lv_has ls 1 [(0, .ref hd)] := hl
  refine lv_aload_n hx hb dX1_wipe_0 rfl (lv_at hl 0 rfl) ?_
  refine va_get (D := (dC, dI)) (ci := 1) (v := .ref hc) (C := RX1) (T := TX1) (N := 5) hx hb hts inX1 hown hK hP 0 rfl rfl 0 (by decide) (hts _ tb_29) (fun _ h9 => h9) rfl dX1_wipe_1 ?_
  refine lv_iconst (v := 0) hx hb dX1_wipe_4 (by decide) ?_
  refine xr_v (D := (dC, dI)) (wf := (ar_w hc a2 (n))) (u0 := d.1) (wr := [(hd, .inr (1, [.ref hc, .int d.2.1, .int d.2.2.1, .int d.2.2.2.1, .int d.2.2.2.2]))]) (va_runS (As := [.ref hc, .int 0]) (rest := []) ⟨hx, hb, hml, hown, hts⟩ (k_J0_fill l dC dI hc a2 (n) (by omega) s.heap.size d.1 0) (va_cwS 2 hts gX1_13 rfl rfl rfl (by decide +kernel) ⟨Nat.le_of_ble_eq_true rfl, Nat.le_of_ble_eq_true rfl⟩) (xp_s nwL_ok hK hN hP hD [1] rfl rfl) rfl rfl hl.1 rfl (lv_room (Nat.le_of_ble_eq_true rfl)) dX1_wipe_5 ⟨Nat.zero_le _, Nat.zero_le _⟩) hP hD hS hA [1] [0] rfl rfl (by decide) (by decide) (fun u_2 H locs hw hP hD hS => ?_)
  rw [hw] at hP hD
  have hP : va_P (dC, dI) vwCl [(hd, .inr (1, [.ref hc, .int d.2.1, .int d.2.2.1, .int d.2.2.2.1, .int d.2.2.2.2])), (hc, .inl (a2, n, .inl (fillN d.1 n 0)))] H := hP
  have hD : va_D A [(hd, .inr (1, [.ref hc, .int d.2.1, .int d.2.2.1, .int d.2.2.2.1, .int d.2.2.2.2])), (hc, .inl (a2, n, .inl (fillN d.1 n 0)))] := hD
  refine lv_aload_n hx hb dX1_wipe_8 rfl (lv_at hl 0 rfl) ?_
  refine lv_iconst (v := 0) hx hb dX1_wipe_9 (by decide) ?_
  refine va_put (D := (dC, dI)) (ci := 1) (v := .int 0) (ty := .int) (C := RX1) (T := TX1) (N := 5) hx hb hts inX1 tyX1 okX1 nmX1 hown hK hP hD hS 0 rfl rfl 2 (by decide) (hts _ tb_31) (fun _ h9 => h9) rfl (by decide +kernel) rfl rfl (Nat.le_of_ble_eq_true rfl) dX1_wipe_10 (fun H locs hP hD hS => ?_)
  have hP : va_P (dC, dI) vwCl [(hd, .inr (1, [.ref hc, .int d.2.1, .int 0, .int d.2.2.2.1, .int d.2.2.2.2])), (hc, .inl (a2, n, .inl (fillN d.1 n 0)))] H := hP
  have hD : va_D A [(hd, .inr (1, [.ref hc, .int d.2.1, .int 0, .int d.2.2.2.1, .int d.2.2.2.2])), (hc, .inl (a2, n, .inl (fillN d.1 n 0)))] := hD
  refine lv_aload_n hx hb dX1_wipe_13 rfl (lv_at hl 0 rfl) ?_
  refine lv_iconst (v := 0) hx hb dX1_wipe_14 (by decide) ?_
  refine va_put (D := (dC, dI)) (ci := 1) (v := .int 0) (ty := .boolean) (C := RX1) (T := TX1) (N := 5) hx hb hts inX1 tyX1 okX1 nmX1 hown hK hP hD hS 0 rfl rfl 4 (by decide) (hts _ tb_33) (fun _ h9 => h9) rfl (by decide +kernel) rfl rfl (Nat.le_of_ble_eq_true rfl) dX1_wipe_15 (fun H locs hP hD hS => ?_)
  have hP : va_P (dC, dI) vwCl [(hd, .inr (1, [.ref hc, .int d.2.1, .int 0, .int d.2.2.2.1, .int 0])), (hc, .inl (a2, n, .inl (fillN d.1 n 0)))] H := hP
  have hD : va_D A [(hd, .inr (1, [.ref hc, .int d.2.1, .int 0, .int d.2.2.2.1, .int 0])), (hc, .inl (a2, n, .inl (fillN d.1 n 0)))] := hD
  exact W.vret hx hb hr (fun t ht hW => ⟨⟨(fillN d.1 n 0, d.2.1, 0, d.2.2.2.1, 0), rfl, rfl, by rw [ht]; exact hP, hD⟩, hS.F ht⟩) hS.2.2 dX1_wipe_18
set_option maxHeartbeats 4000000 in
set_option maxRecDepth 100000 in
theorem k_X0_clearStaged (l : Launch) (dC : Nat → ClassId) (dI : Nat → Nat → Nat) (h0 hs hd hc : Nat) (a1 a2 : ClassId) (gW gC gV gB gM gI : Nat) (hg : geo gW gC gV gB gM gI) (sz : Nat) (st : Nat → Int32) (d : DS)  : ctV nwL l yX0_clearStaged wsX0_clearStaged ({ frames := 1, cells := 0, slots := 0, locals := 23 } : Room) (dC, dI) [(a1, .int), (a2, .int)] (xo_w h0 hs hd hc a1 a2 gW gC gV gB gM gI) (st, d) sz [.ref h0] (fun (u : XS) => u = (fillN st gW 0, d)) := by
  refine Met.ofW (cc := cX0_clearStaged) (maxL := 1) (ret := none) (by decide) rfl ?_
  intro p e s m args below meth c s₁ B hml hv
  obtain ⟨rfl, hsz, hP, hK, hD0, hN⟩ := hv
  have hx := B.exec
  have hb := B.bytes
  have hr := B.returns
  have hts := fun w h => atoms_spec (ws := wsX0_clearStaged) B.pre w (List.mem_cons_of_mem _ h)
  have hown : s.vm.findClass RX0 = some m.cls := findClass_of_methodNamed B.named
  have hlocks := B.notSynchronized
  subst hsz
  have hD := hD0.self (sz := s.heap.size)
  generalize hAe : va_A ((xo_w h0 hs hd hc a1 a2 gW gC gV gB gM gI) (st, d)) s.heap.size = A at hD ⊢
  have hA : ∀ q : Nat, s.heap.size ≤ q → A q := fun q h => by rw [← hAe]; exact Or.inr h
  have hS : va_S A s.heap s.heap [] := va_S.rf
  have hl := lv_entry ([.ref h0]) (n := 1) (Nat.le_of_ble_eq_true rfl)
  rw [lg_entry_eq]
  generalize (lg_sl ([.ref h0]) ++ List.replicate (1 - (lg_sl ([.ref h0])).length) Slot.unset).toArray = ls at hl ⊢
  have hP : va_P (dC, dI) vwCl [(h0, .inr (0, [.int (nI gW), .int (nI gC), .int (nI gV), .int (nI gB), .ref hs, .int (nI gM), .int (nI gI), .ref hd])), (hs, .inl (a1, gW, .inl st)), (hd, .inr (1, [.ref hc, .int d.2.1, .int d.2.2.1, .int d.2.2.2.1, .int d.2.2.2.2])), (hc, .inl (a2, (gI + 4), .inl d.1))] s.heap := hP
  have hD : va_D A [(h0, .inr (0, [.int (nI gW), .int (nI gC), .int (nI gV), .int (nI gB), .ref hs, .int (nI gM), .int (nI gI), .ref hd])), (hs, .inl (a1, gW, .inl st)), (hd, .inr (1, [.ref hc, .int d.2.1, .int d.2.2.1, .int d.2.2.2.1, .int d.2.2.2.2])), (hc, .inl (a2, (gI + 4), .inl d.1))] := hD
  have hl : lv_has ls 1 [(0, .ref h0)] := hl
  obtain ⟨⟨hW1, hW2⟩, ⟨hC1, hC2⟩, ⟨hV1, hV2⟩, ⟨hB1, hB2⟩, eM, eI⟩ := id hg
  obtain ⟨hM2, hq2⟩ := geo_b hg
  refine lv_aload_n hx hb dX0_clearStaged_0 rfl (lv_at hl 0 rfl) ?_
  refine va_get (D := (dC, dI)) (ci := 0) (v := .ref hs) (C := RX0) (T := TX0) (N := 8) hx hb hts inX0 hown hK hP 0 rfl rfl 4 (by decide) (hts _ tb_50) (fun _ h9 => h9) rfl dX0_clearStaged_1 ?_
  refine lv_iconst (v := 0) hx hb dX0_clearStaged_4 (by decide) ?_
  refine xr_v (D := (dC, dI)) (wf := (ar_w hs a1 (gW))) (u0 := st) (wr := [(h0, .inr (0, [.int (nI gW), .int (nI gC), .int (nI gV), .int (nI gB), .ref hs, .int (nI gM), .int (nI gI), .ref hd])), (hd, .inr (1, [.ref hc, .int d.2.1, .int d.2.2.1, .int d.2.2.2.1, .int d.2.2.2.2])), (hc, .inl (a2, (gI + 4), .inl d.1))]) (va_runS (As := [.ref hs, .int 0]) (rest := []) ⟨hx, hb, hml, hown, hts⟩ (k_J0_fill l dC dI hs a1 (gW) (by omega) s.heap.size st 0) (va_cwS 2 hts gX0_126 rfl rfl rfl (by decide +kernel) ⟨Nat.le_of_ble_eq_true rfl, Nat.le_of_ble_eq_true rfl⟩) (xp_s nwL_ok (hK.sub (tys' := [(a1, .int)]) [0] rfl) hN hP hD [1] rfl rfl) rfl rfl hl.1 rfl (lv_room (Nat.le_of_ble_eq_true rfl)) dX0_clearStaged_5 ⟨Nat.zero_le _, Nat.zero_le _⟩) hP hD hS hA [1] [0, 2, 3] rfl rfl (by decide) (by decide) (fun u_2 H locs hw hP hD hS => ?_)
  rw [hw] at hP hD
  have hP := hP.sub (ws' := [(h0, .inr (0, [.int (nI gW), .int (nI gC), .int (nI gV), .int (nI gB), .ref hs, .int (nI gM), .int (nI gI), .ref hd])), (hs, .inl (a1, gW, .inl ((fillN st gW 0)))), (hd, .inr (1, [.ref hc, .int d.2.1, .int d.2.2.1, .int d.2.2.2.1, .int d.2.2.2.2])), (hc, .inl (a2, (gI + 4), .inl d.1))]) [0, 3, 1, 2] rfl
  have hD := hD.sub (ws' := [(h0, .inr (0, [.int (nI gW), .int (nI gC), .int (nI gV), .int (nI gB), .ref hs, .int (nI gM), .int (nI gI), .ref hd])), (hs, .inl (a1, gW, .inl ((fillN st gW 0)))), (hd, .inr (1, [.ref hc, .int d.2.1, .int d.2.2.1, .int d.2.2.2.1, .int d.2.2.2.2])), (hc, .inl (a2, (gI + 4), .inl d.1))]) [0, 3, 1, 2] (by decide) rfl
  have hP : va_P (dC, dI) vwCl [(h0, .inr (0, [.int (nI gW), .int (nI gC), .int (nI gV), .int (nI gB), .ref hs, .int (nI gM), .int (nI gI), .ref hd])), (hs, .inl (a1, gW, .inl ((fillN st gW 0)))), (hd, .inr (1, [.ref hc, .int d.2.1, .int d.2.2.1, .int d.2.2.2.1, .int d.2.2.2.2])), (hc, .inl (a2, (gI + 4), .inl d.1))] H := hP
  have hD : va_D A [(h0, .inr (0, [.int (nI gW), .int (nI gC), .int (nI gV), .int (nI gB), .ref hs, .int (nI gM), .int (nI gI), .ref hd])), (hs, .inl (a1, gW, .inl ((fillN st gW 0)))), (hd, .inr (1, [.ref hc, .int d.2.1, .int d.2.2.1, .int d.2.2.2.1, .int d.2.2.2.2])), (hc, .inl (a2, (gI + 4), .inl d.1))] := hD
  exact W.vret hx hb hr (fun t ht hW => ⟨⟨((fillN st gW 0), d), rfl, rfl, by rw [ht]; exact hP, hD⟩, hS.F ht⟩) hS.2.2 dX0_clearStaged_8
