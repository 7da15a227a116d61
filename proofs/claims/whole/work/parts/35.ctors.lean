def d0S : DS := (fun _ => 0, 0, 0, 0, 0)
def dw0 (hd : Nat) : va_W := [(hd, .inr (1, [.null, .int 0, .int 0, .int 0, .int 0]))]
def xw0 (h0 : Nat) : va_W := [(h0, .inr (0, [.int 0, .int 0, .int 0, .int 0, .null, .int 0, .int 0, .null]))]
def mw0 (o0 : Nat) : va_W := [(o0, .inr (2, [.int 0, .int 0, .int 0, .int 0, .null, .null, .null, .null, .int 0, .int 0, .int 0, .int 0, .int 0]))]
set_option maxHeartbeats 4000000 in
set_option maxRecDepth 100000 in
theorem k_X1_init (l : Launch) (dC : Nat → ClassId) (dI : Nat → Nat → Nat) (hd n : Nat) (hn : n ≤ 80) (sz : Nat) : ctN (S := Nat × ClassId) nwL l yX1_init wsX1_init ({ frames := 1, cells := 1, slots := 80, locals := 16 } : Room) (dC, dI) (dw0 hd) sz [.ref hd, .int (nI n)] (fun u => [(u.2, .int)]) (fun u => dk_w hd u.1 u.2 n d0S) 1 80 := by
  refine Met.ofW (cc := cX1_init) (maxL := 2) (ret := none) (by decide) rfl ?_
  intro p e s m args below meth c s₁ B hml hv
  obtain ⟨rfl, hsz, hP, hK, hD0, hN⟩ := hv
  have hx := B.exec
  have hb := B.bytes
  have hr := B.returns
  have hts := fun w h => atoms_spec (ws := wsX1_init) B.pre w (List.mem_cons_of_mem _ h)
  have hown : s.vm.findClass RX1 = some m.cls := findClass_of_methodNamed B.named
  have hlocks := B.notSynchronized
  have hin : meth.name = "<init>" := (name_of_methodNamed B.named B.method).1
  subst hsz
  have hD := hD0.self (sz := s.heap.size)
  generalize hAe : va_A (dw0 hd) s.heap.size = A at hD ⊢
  have hA : ∀ q : Nat, s.heap.size ≤ q → A q := fun q h => by rw [← hAe]; exact Or.inr h
  have hS : va_S A s.heap s.heap [] := va_S.rf
  have hl := lv_entry ([.ref hd, .int (nI n)]) (n := 2) (Nat.le_of_ble_eq_true rfl)
  rw [lg_entry_eq]
  generalize (lg_sl ([.ref hd, .int (nI n)]) ++ List.replicate (2 - (lg_sl ([.ref hd, .int (nI n)])).length) Slot.unset).toArray = ls at hl ⊢
  have hP : va_P (dC, dI) vwCl [(hd, .inr (1, [.null, .int 0, .int 0, .int 0, .int 0]))] s.heap := hP
  have hD : va_D A [(hd, .inr (1, [.null, .int 0, .int 0, .int 0, .int 0]))] := hD
  have hl : lv_has ls 2 [(0, .ref hd), (1, .int (nI n))] := hl
  refine lv_aload_n hx hb dX1_init_0 rfl (lv_at hl 0 rfl) ?_
  refine W.objInit hx hb hown (hts _ tb_28) (hts _ tb_12) (hts _ tb_13) rfl (by rw [hml]; exact hl.1) rfl dX1_init_1 (Nat.le_of_ble_eq_true rfl) (Nat.le_of_ble_eq_true rfl) ?_
  refine W.eq (g2 := F0 m 4 ls []) rfl ?_
  refine lv_aload_n hx hb dX1_init_4 rfl (lv_at hl 0 rfl) ?_
  refine lv_iload_n hx hb dX1_init_5 rfl (lv_at hl 1 rfl) ?_
  refine va_newa (atype := .int) (a0 := (n, .inl (fun _ => 0))) (N' := n) (ty := .int) hx hb (hts _ tb_45) rfl hK hP hD hS hA (fun cA => rfl) (nI_pos (by omega)) (nI_clamp (by omega)) (Nat.le_trans (Nat.mul_le_mul_right _ (show n ≤ 80 by omega)) (by decide)) (Nat.le_of_ble_eq_true rfl) (by show 0 + n ≤ 80; omega) dX1_init_6 (fun hc a2 H hK hP hD hS => ?_)
  have hP : va_P (dC, dI) vwCl [(hd, .inr (1, [.null, .int 0, .int 0, .int 0, .int 0])), (hc, .inl (a2, n, .inl ((fun _ => 0))))] H := hP
  have hD : va_D A [(hd, .inr (1, [.null, .int 0, .int 0, .int 0, .int 0])), (hc, .inl (a2, n, .inl ((fun _ => 0))))] := hD
  have hK : va_K (dC, dI) vwCl [(a2, .int)] s := hK
  refine W.widen (k := 1) (n := 80) (by omega) (by omega) ?_
  refine va_putF (D := (dC, dI)) (ci := 1) (v := .ref hc) (ty := (.array .int)) (C := RX1) (T := TX1) (N := 5) hx hb hts inX1 tyX1 okX1 nmX1 hown hK hP hD hS 0 rfl rfl 0 (by decide) (hts _ tb_29) (fun _ h9 => h9) rfl hin rfl (by decide +kernel) rfl rfl (Nat.le_of_ble_eq_true rfl) dX1_init_8 (fun H locs hP hD hS => ?_)
  have hP : va_P (dC, dI) vwCl [(hd, .inr (1, [.ref hc, .int 0, .int 0, .int 0, .int 0])), (hc, .inl (a2, n, .inl ((fun _ => 0))))] H := hP
  have hD : va_D A [(hd, .inr (1, [.ref hc, .int 0, .int 0, .int 0, .int 0])), (hc, .inl (a2, n, .inl ((fun _ => 0))))] := hD
  exact W.vret hx hb hr (fun t ht hW => ⟨⟨(hc, a2), rfl, trivial, by rw [ht]; exact hP, va_K.moved hW.alike hK, hD⟩, hS.F ht⟩) hS.2.2 dX1_init_11
set_option maxHeartbeats 4000000 in
set_option maxRecDepth 100000 in
theorem k_X0_init (l : Launch) (dC : Nat → ClassId) (dI : Nat → Nat → Nat) (h0 gW gC gV gB gM gI : Nat) (hg : geo gW gC gV gB gM gI) (sz : Nat) (p1 p2 p3 p4 : Int32) (eW : winF p1 4 = nI gW) (eC : winF p2 12 = nI gC) (eV : winF p3 4 = nI gV) (eB : winF p4 6 = nI gB) : ctN (S := Nat × Nat × Nat × ClassId × ClassId) nwL l yX0_init wsX0_init ({ frames := 2, cells := 3, slots := 89, locals := 40 } : Room) (dC, dI) (xw0 h0) sz [.ref h0, .int p1, .int p2, .int p3, .int p4] (fun u => [(u.2.2.2.1, .int), (u.2.2.2.2, .int)]) (fun u => xo_w h0 u.1 u.2.1 u.2.2.1 u.2.2.2.1 u.2.2.2.2 gW gC gV gB gM gI (fun _ => 0, d0S)) 3 89 := by
  refine Met.ofW (cc := cX0_init) (maxL := 5) (ret := none) (by decide) rfl ?_
  intro p e s m args below meth c s₁ B hml hv
  obtain ⟨rfl, hsz, hP, hK, hD0, hN⟩ := hv
  have hx := B.exec
  have hb := B.bytes
  have hr := B.returns
  have hts := fun w h => atoms_spec (ws := wsX0_init) B.pre w (List.mem_cons_of_mem _ h)
  have hown : s.vm.findClass RX0 = some m.cls := findClass_of_methodNamed B.named
  have hlocks := B.notSynchronized
  have hin : meth.name = "<init>" := (name_of_methodNamed B.named B.method).1
  subst hsz
  have hD := hD0.self (sz := s.heap.size)
  generalize hAe : va_A (xw0 h0) s.heap.size = A at hD ⊢
  have hA : ∀ q : Nat, s.heap.size ≤ q → A q := fun q h => by rw [← hAe]; exact Or.inr h
  have hS : va_S A s.heap s.heap [] := va_S.rf
  have hl := lv_entry ([.ref h0, .int p1, .int p2, .int p3, .int p4]) (n := 5) (Nat.le_of_ble_eq_true rfl)
  rw [lg_entry_eq]
  generalize (lg_sl ([.ref h0, .int p1, .int p2, .int p3, .int p4]) ++ List.replicate (5 - (lg_sl ([.ref h0, .int p1, .int p2, .int p3, .int p4])).length) Slot.unset).toArray = ls at hl ⊢
  have hP : va_P (dC, dI) vwCl [(h0, .inr (0, [.int 0, .int 0, .int 0, .int 0, .null, .int 0, .int 0, .null]))] s.heap := hP
  have hD : va_D A [(h0, .inr (0, [.int 0, .int 0, .int 0, .int 0, .null, .int 0, .int 0, .null]))] := hD
  have hl : lv_has ls 5 [(0, .ref h0), (1, .int p1), (2, .int p2), (3, .int p3), (4, .int p4)] := hl
  obtain ⟨⟨hW1, hW2⟩, ⟨hC1, hC2⟩, ⟨hV1, hV2⟩, ⟨hB1, hB2⟩, eM, eI⟩ := id hg
  obtain ⟨hM2, hq2⟩ := geo_b hg
  refine lv_aload_n hx hb dX0_init_0 rfl (lv_at hl 0 rfl) ?_
  refine W.objInit hx hb hown (hts _ tb_11) (hts _ tb_12) (hts _ tb_13) rfl (by rw [hml]; exact hl.1) rfl dX0_init_1 (Nat.le_of_ble_eq_true rfl) (Nat.le_of_ble_eq_true rfl) ?_
  refine W.eq (g2 := F0 m 4 ls []) rfl ?_
  refine lv_aload_n hx hb dX0_init_4 rfl (lv_at hl 0 rfl) ?_
  refine lv_iload_n hx hb dX0_init_5 rfl (lv_at hl 1 rfl) ?_
  refine lv_iconst (v := 4) hx hb dX0_init_6 (by decide) ?_
  refine xr_c (va_runS (As := [.int p1, .int 4]) (rest := [.ref h0]) ⟨hx, hb, hml, hown, hts⟩ (k_X0_within l s.heap.size p1 4) (cwS 2 hts gX0_9 rfl rfl rfl (by decide +kernel) ⟨Nat.le_of_ble_eq_true rfl, Nat.le_of_ble_eq_true rfl⟩) ⟨fun a U g mk q => q, fun U hU hW => ⟨rfl, by show U.heap.size = _; rw [hU]⟩⟩ rfl rfl hl.1 rfl (lv_room (Nat.le_of_ble_eq_true rfl)) dX0_init_7 ⟨Nat.le_of_ble_eq_true rfl, Nat.le_of_ble_eq_true rfl⟩) hP hS hA (fun r9 u9 H locs hw hP hS => ?_)
  rw [hw, eW]
  have hP : va_P (dC, dI) vwCl [(h0, .inr (0, [.int 0, .int 0, .int 0, .int 0, .null, .int 0, .int 0, .null]))] H := hP
  refine va_putF (D := (dC, dI)) (ci := 0) (v := .int (nI gW)) (ty := .int) (C := RX0) (T := TX0) (N := 8) hx hb hts inX0 tyX0 okX0 nmX0 hown hK hP hD hS 0 rfl rfl 0 (by decide) (hts _ tb_46) (fun _ h9 => h9) rfl hin rfl (by decide +kernel) rfl rfl (Nat.le_of_ble_eq_true rfl) dX0_init_10 (fun H locs hP hD hS => ?_)
  have hP : va_P (dC, dI) vwCl [(h0, .inr (0, [.int (nI gW), .int 0, .int 0, .int 0, .null, .int 0, .int 0, .null]))] H := hP
  have hD : va_D A [(h0, .inr (0, [.int (nI gW), .int 0, .int 0, .int 0, .null, .int 0, .int 0, .null]))] := hD
  refine lv_aload_n hx hb dX0_init_13 rfl (lv_at hl 0 rfl) ?_
  refine lv_iload_n hx hb dX0_init_14 rfl (lv_at hl 2 rfl) ?_
  refine lv_bipush (v := 12) hx hb dX0_init_15 (by decide) ?_
  refine xr_c (va_runS (As := [.int p2, .int 12]) (rest := [.ref h0]) ⟨hx, hb, hml, hown, hts⟩ (k_X0_within l H.size p2 12) (cwS 2 hts gX0_9 rfl rfl rfl (by decide +kernel) ⟨Nat.le_of_ble_eq_true rfl, Nat.le_of_ble_eq_true rfl⟩) ⟨fun a U g mk q => q, fun U hU hW => ⟨rfl, by show U.heap.size = _; rw [hU]⟩⟩ rfl rfl hl.1 rfl (lv_room (Nat.le_of_ble_eq_true rfl)) dX0_init_17 ⟨Nat.le_of_ble_eq_true rfl, Nat.le_of_ble_eq_true rfl⟩) hP hS hA (fun r9 u9 H locs hw hP hS => ?_)
  rw [hw, eC]
  have hP : va_P (dC, dI) vwCl [(h0, .inr (0, [.int (nI gW), .int 0, .int 0, .int 0, .null, .int 0, .int 0, .null]))] H := hP
  refine va_putF (D := (dC, dI)) (ci := 0) (v := .int (nI gC)) (ty := .int) (C := RX0) (T := TX0) (N := 8) hx hb hts inX0 tyX0 okX0 nmX0 hown hK hP hD hS 0 rfl rfl 1 (by decide) (hts _ tb_47) (fun _ h9 => h9) rfl hin rfl (by decide +kernel) rfl rfl (Nat.le_of_ble_eq_true rfl) dX0_init_20 (fun H locs hP hD hS => ?_)
  have hP : va_P (dC, dI) vwCl [(h0, .inr (0, [.int (nI gW), .int (nI gC), .int 0, .int 0, .null, .int 0, .int 0, .null]))] H := hP
  have hD : va_D A [(h0, .inr (0, [.int (nI gW), .int (nI gC), .int 0, .int 0, .null, .int 0, .int 0, .null]))] := hD
  refine lv_aload_n hx hb dX0_init_23 rfl (lv_at hl 0 rfl) ?_
  refine lv_iload_n hx hb dX0_init_24 rfl (lv_at hl 3 rfl) ?_
  refine lv_iconst (v := 4) hx hb dX0_init_25 (by decide) ?_
  refine xr_c (va_runS (As := [.int p3, .int 4]) (rest := [.ref h0]) ⟨hx, hb, hml, hown, hts⟩ (k_X0_within l H.size p3 4) (cwS 2 hts gX0_9 rfl rfl rfl (by decide +kernel) ⟨Nat.le_of_ble_eq_true rfl, Nat.le_of_ble_eq_true rfl⟩) ⟨fun a U g mk q => q, fun U hU hW => ⟨rfl, by show U.heap.size = _; rw [hU]⟩⟩ rfl rfl hl.1 rfl (lv_room (Nat.le_of_ble_eq_true rfl)) dX0_init_26 ⟨Nat.le_of_ble_eq_true rfl, Nat.le_of_ble_eq_true rfl⟩) hP hS hA (fun r9 u9 H locs hw hP hS => ?_)
  rw [hw, eV]
  have hP : va_P (dC, dI) vwCl [(h0, .inr (0, [.int (nI gW), .int (nI gC), .int 0, .int 0, .null, .int 0, .int 0, .null]))] H := hP
  refine va_putF (D := (dC, dI)) (ci := 0) (v := .int (nI gV)) (ty := .int) (C := RX0) (T := TX0) (N := 8) hx hb hts inX0 tyX0 okX0 nmX0 hown hK hP hD hS 0 rfl rfl 2 (by decide) (hts _ tb_48) (fun _ h9 => h9) rfl hin rfl (by decide +kernel) rfl rfl (Nat.le_of_ble_eq_true rfl) dX0_init_29 (fun H locs hP hD hS => ?_)
  have hP : va_P (dC, dI) vwCl [(h0, .inr (0, [.int (nI gW), .int (nI gC), .int (nI gV), .int 0, .null, .int 0, .int 0, .null]))] H := hP
  have hD : va_D A [(h0, .inr (0, [.int (nI gW), .int (nI gC), .int (nI gV), .int 0, .null, .int 0, .int 0, .null]))] := hD
  refine lv_aload_n hx hb dX0_init_32 rfl (lv_at hl 0 rfl) ?_
  refine lv_iload hx hb dX0_init_33 (lv_at hl 4 rfl) ?_
  refine lv_bipush (v := 6) hx hb dX0_init_35 (by decide) ?_
  refine xr_c (va_runS (As := [.int p4, .int 6]) (rest := [.ref h0]) ⟨hx, hb, hml, hown, hts⟩ (k_X0_within l H.size p4 6) (cwS 2 hts gX0_9 rfl rfl rfl (by decide +kernel) ⟨Nat.le_of_ble_eq_true rfl, Nat.le_of_ble_eq_true rfl⟩) ⟨fun a U g mk q => q, fun U hU hW => ⟨rfl, by show U.heap.size = _; rw [hU]⟩⟩ rfl rfl hl.1 rfl (lv_room (Nat.le_of_ble_eq_true rfl)) dX0_init_37 ⟨Nat.le_of_ble_eq_true rfl, Nat.le_of_ble_eq_true rfl⟩) hP hS hA (fun r9 u9 H locs hw hP hS => ?_)
  rw [hw, eB]
  have hP : va_P (dC, dI) vwCl [(h0, .inr (0, [.int (nI gW), .int (nI gC), .int (nI gV), .int 0, .null, .int 0, .int 0, .null]))] H := hP
  refine va_putF (D := (dC, dI)) (ci := 0) (v := .int (nI gB)) (ty := .int) (C := RX0) (T := TX0) (N := 8) hx hb hts inX0 tyX0 okX0 nmX0 hown hK hP hD hS 0 rfl rfl 3 (by decide) (hts _ tb_49) (fun _ h9 => h9) rfl hin rfl (by decide +kernel) rfl rfl (Nat.le_of_ble_eq_true rfl) dX0_init_40 (fun H locs hP hD hS => ?_)
  have hP : va_P (dC, dI) vwCl [(h0, .inr (0, [.int (nI gW), .int (nI gC), .int (nI gV), .int (nI gB), .null, .int 0, .int 0, .null]))] H := hP
  have hD : va_D A [(h0, .inr (0, [.int (nI gW), .int (nI gC), .int (nI gV), .int (nI gB), .null, .int 0, .int 0, .null]))] := hD
  refine lv_aload_n hx hb dX0_init_43 rfl (lv_at hl 0 rfl) ?_
  refine lv_aload_n hx hb dX0_init_44 rfl (lv_at hl 0 rfl) ?_
  refine va_get (D := (dC, dI)) (ci := 0) (v := .int (nI gW)) (C := RX0) (T := TX0) (N := 8) hx hb hts inX0 hown hK hP 0 rfl rfl 0 (by decide) (hts _ tb_46) (fun _ h9 => h9) rfl dX0_init_45 ?_
  refine va_newa (atype := .int) (a0 := (gW, .inl (fun _ => 0))) (N' := gW) (ty := .int) hx hb (hts _ tb_45) rfl hK hP hD hS hA (fun cA => rfl) (nI_pos (by omega)) (nI_clamp (by omega)) (Nat.le_trans (Nat.mul_le_mul_right _ (show gW ≤ 4 by omega)) (by decide)) (Nat.le_of_ble_eq_true rfl) (by show 0 + gW ≤ 89; omega) dX0_init_48 (fun hs a1 H hK hP hD hS => ?_)
  have hP : va_P (dC, dI) vwCl [(h0, .inr (0, [.int (nI gW), .int (nI gC), .int (nI gV), .int (nI gB), .null, .int 0, .int 0, .null])), (hs, .inl (a1, gW, .inl ((fun _ => 0))))] H := hP
  have hD : va_D A [(h0, .inr (0, [.int (nI gW), .int (nI gC), .int (nI gV), .int (nI gB), .null, .int 0, .int 0, .null])), (hs, .inl (a1, gW, .inl ((fun _ => 0))))] := hD
  have hK : va_K (dC, dI) vwCl [(a1, .int)] s := hK
  refine W.widen (k := 1) (n := 4) (by omega) (by omega) ?_
  refine va_putF (D := (dC, dI)) (ci := 0) (v := .ref hs) (ty := (.array .int)) (C := RX0) (T := TX0) (N := 8) hx hb hts inX0 tyX0 okX0 nmX0 hown hK hP hD hS 0 rfl rfl 4 (by decide) (hts _ tb_50) (fun _ h9 => h9) rfl hin rfl (by decide +kernel) rfl rfl (Nat.le_of_ble_eq_true rfl) dX0_init_50 (fun H locs hP hD hS => ?_)
  have hP : va_P (dC, dI) vwCl [(h0, .inr (0, [.int (nI gW), .int (nI gC), .int (nI gV), .int (nI gB), .ref hs, .int 0, .int 0, .null])), (hs, .inl (a1, gW, .inl ((fun _ => 0))))] H := hP
  have hD : va_D A [(h0, .inr (0, [.int (nI gW), .int (nI gC), .int (nI gV), .int (nI gB), .ref hs, .int 0, .int 0, .null])), (hs, .inl (a1, gW, .inl ((fun _ => 0))))] := hD
  refine lv_aload_n hx hb dX0_init_53 rfl (lv_at hl 0 rfl) ?_
  refine lv_aload_n hx hb dX0_init_54 rfl (lv_at hl 0 rfl) ?_
  refine va_get (D := (dC, dI)) (ci := 0) (v := .int (nI gC)) (C := RX0) (T := TX0) (N := 8) hx hb hts inX0 hown hK hP 0 rfl rfl 1 (by decide) (hts _ tb_47) (fun _ h9 => h9) rfl dX0_init_55 ?_
  refine lv_iconst (v := 1) hx hb dX0_init_58 (by decide) ?_
  refine lv_iadd hx hb dX0_init_59 ?_
  refine lv_topi (fun z_1 ez_1 => ?_)
  obtain rfl : z_1 = nI (gC + 1) := ez_1.trans (nI_1 gC)
  refine lv_aload_n hx hb dX0_init_60 rfl (lv_at hl 0 rfl) ?_
  refine va_get (D := (dC, dI)) (ci := 0) (v := .int (nI gW)) (C := RX0) (T := TX0) (N := 8) hx hb hts inX0 hown hK hP 0 rfl rfl 0 (by decide) (hts _ tb_46) (fun _ h9 => h9) rfl dX0_init_61 ?_
  refine lv_imul hx hb dX0_init_64 ?_
  refine lv_topi (fun z_2 ez_2 => ?_)
  obtain rfl : z_2 = nI ((gC + 1) * gW) := ez_2.trans (pk_mul (gC + 1) gW)
  refine lv_topi (fun z_3 ez_3 => ?_)
  obtain rfl : z_3 = nI gM := ez_3.trans (by rw [eM])
  refine va_putF (D := (dC, dI)) (ci := 0) (v := .int (nI gM)) (ty := .int) (C := RX0) (T := TX0) (N := 8) hx hb hts inX0 tyX0 okX0 nmX0 hown hK hP hD hS 0 rfl rfl 5 (by decide) (hts _ tb_51) (fun _ h9 => h9) rfl hin rfl (by decide +kernel) rfl rfl (Nat.le_of_ble_eq_true rfl) dX0_init_65 (fun H locs hP hD hS => ?_)
  have hP : va_P (dC, dI) vwCl [(h0, .inr (0, [.int (nI gW), .int (nI gC), .int (nI gV), .int (nI gB), .ref hs, .int (nI gM), .int 0, .null])), (hs, .inl (a1, gW, .inl ((fun _ => 0))))] H := hP
  have hD : va_D A [(h0, .inr (0, [.int (nI gW), .int (nI gC), .int (nI gV), .int (nI gB), .ref hs, .int (nI gM), .int 0, .null])), (hs, .inl (a1, gW, .inl ((fun _ => 0))))] := hD
  refine lv_aload_n hx hb dX0_init_68 rfl (lv_at hl 0 rfl) ?_
  refine lv_aload_n hx hb dX0_init_69 rfl (lv_at hl 0 rfl) ?_
  refine va_get (D := (dC, dI)) (ci := 0) (v := .int (nI gM)) (C := RX0) (T := TX0) (N := 8) hx hb hts inX0 hown hK hP 0 rfl rfl 5 (by decide) (hts _ tb_51) (fun _ h9 => h9) rfl dX0_init_70 ?_
  refine lv_aload_n hx hb dX0_init_73 rfl (lv_at hl 0 rfl) ?_
  refine va_get (D := (dC, dI)) (ci := 0) (v := .int (nI gV)) (C := RX0) (T := TX0) (N := 8) hx hb hts inX0 hown hK hP 0 rfl rfl 2 (by decide) (hts _ tb_48) (fun _ h9 => h9) rfl dX0_init_74 ?_
  refine lv_aload_n hx hb dX0_init_77 rfl (lv_at hl 0 rfl) ?_
  refine va_get (D := (dC, dI)) (ci := 0) (v := .int (nI gB)) (C := RX0) (T := TX0) (N := 8) hx hb hts inX0 hown hK hP 0 rfl rfl 3 (by decide) (hts _ tb_49) (fun _ h9 => h9) rfl dX0_init_78 ?_
  refine lv_imul hx hb dX0_init_81 ?_
  refine lv_topi (fun z_4 ez_4 => ?_)
  obtain rfl : z_4 = nI (gV * gB) := ez_4.trans (pk_mul gV gB)
  refine lv_iadd hx hb dX0_init_82 ?_
  refine lv_topi (fun z_5 ez_5 => ?_)
  obtain rfl : z_5 = nI (gM + gV * gB) := ez_5.trans (nI_add gM (gV * gB))
  refine lv_topi (fun z_6 ez_6 => ?_)
  obtain rfl : z_6 = nI gI := ez_6.trans (by rw [eI])
  refine va_putF (D := (dC, dI)) (ci := 0) (v := .int (nI gI)) (ty := .int) (C := RX0) (T := TX0) (N := 8) hx hb hts inX0 tyX0 okX0 nmX0 hown hK hP hD hS 0 rfl rfl 6 (by decide) (hts _ tb_52) (fun _ h9 => h9) rfl hin rfl (by decide +kernel) rfl rfl (Nat.le_of_ble_eq_true rfl) dX0_init_83 (fun H locs hP hD hS => ?_)
  have hP : va_P (dC, dI) vwCl [(h0, .inr (0, [.int (nI gW), .int (nI gC), .int (nI gV), .int (nI gB), .ref hs, .int (nI gM), .int (nI gI), .null])), (hs, .inl (a1, gW, .inl ((fun _ => 0))))] H := hP
  have hD : va_D A [(h0, .inr (0, [.int (nI gW), .int (nI gC), .int (nI gV), .int (nI gB), .ref hs, .int (nI gM), .int (nI gI), .null])), (hs, .inl (a1, gW, .inl ((fun _ => 0))))] := hD
  refine lv_aload_n hx hb dX0_init_86 rfl (lv_at hl 0 rfl) ?_
  refine va_new (ci := 1) (fs := [.null, .int 0, .int 0, .int 0, .int 0]) (C := RX1) (T := TX1) (N := 5) hx hb hts inX1 tyX1 okX1 hown (hts _ tb_23) (hts _ tb_24) (hts _ tb_3) hK hP hD hS hA rfl (fun j hj => by rcases (show j = 0 ∨ j = 1 ∨ j = 2 ∨ j = 3 ∨ j = 4 by omega) with rfl | rfl | rfl | rfl | rfl <;> rfl) (Nat.le_of_ble_eq_true rfl) (Nat.le_of_ble_eq_true rfl) dX0_init_87 (fun hd H hP hD hS => ?_)
  have hP : va_P (dC, dI) vwCl [(h0, .inr (0, [.int (nI gW), .int (nI gC), .int (nI gV), .int (nI gB), .ref hs, .int (nI gM), .int (nI gI), .null])), (hs, .inl (a1, gW, .inl ((fun _ => 0)))), (hd, .inr (1, [.null, .int 0, .int 0, .int 0, .int 0]))] H := hP
  have hD : va_D A [(h0, .inr (0, [.int (nI gW), .int (nI gC), .int (nI gV), .int (nI gB), .ref hs, .int (nI gM), .int (nI gI), .null])), (hs, .inl (a1, gW, .inl ((fun _ => 0)))), (hd, .inr (1, [.null, .int 0, .int 0, .int 0, .int 0]))] := hD
  refine W.widen (k := 2) (n := 9) (by omega) (by omega) ?_
  refine lv_dup hx hb dX0_init_90 rfl ?_
  refine lv_aload_n hx hb dX0_init_91 rfl (lv_at hl 0 rfl) ?_
  refine va_get (D := (dC, dI)) (ci := 0) (v := .int (nI gI)) (C := RX0) (T := TX0) (N := 8) hx hb hts inX0 hown hK hP 0 rfl rfl 6 (by decide) (hts _ tb_52) (fun _ h9 => h9) rfl dX0_init_92 ?_
  refine lv_iconst (v := 4) hx hb dX0_init_95 (by decide) ?_
  refine lv_iadd hx hb dX0_init_96 ?_
  refine lv_topi (fun z_7 ez_7 => ?_)
  obtain rfl : z_7 = nI (gI + 4) := ez_7.trans (nI_add gI 4)
  refine xr_n (D := (dC, dI)) (tyf := fun u : Nat × ClassId => [(u.2, .int)]) (wf := fun u : Nat × ClassId => dk_w hd u.1 u.2 (gI + 4) d0S) (wr := [(h0, .inr (0, [.int (nI gW), .int (nI gC), .int (nI gV), .int (nI gB), .ref hs, .int (nI gM), .int (nI gI), .null])), (hs, .inl (a1, gW, .inl ((fun _ => 0))))]) (va_runIN (As := [.int (nI (gI + 4))]) (rest := [.ref hd, .ref h0]) ⟨hx, hb, hml, hown, hts⟩ (k_X1_init l dC dI hd (gI + 4) (by omega) H.size) ⟨va_cnB 1 hts gX0_38 rfl rfl rfl (hN _ nn_38) (hts _ tb_3) (by decide +kernel) ⟨Nat.le_of_ble_eq_true rfl, Nat.le_of_ble_eq_true rfl⟩, rfl, hts _ tb_26⟩ (xp_n nwL_ok hK hN hP hD [2] rfl rfl) rfl rfl hl.1 rfl (lv_room (Nat.le_of_ble_eq_true rfl)) dX0_init_97 ⟨Nat.le_of_ble_eq_true rfl, Nat.le_of_ble_eq_true rfl⟩) hK hP hD hS hA [2] [0, 1] rfl rfl (by decide) (by decide) (fun u H locs hK hP hD hS => ?_)
  obtain ⟨hc, a2⟩ := u
  have hP : va_P (dC, dI) vwCl [(h0, .inr (0, [.int (nI gW), .int (nI gC), .int (nI gV), .int (nI gB), .ref hs, .int (nI gM), .int (nI gI), .null])), (hs, .inl (a1, gW, .inl ((fun _ => 0)))), (hd, .inr (1, [.ref hc, .int 0, .int 0, .int 0, .int 0])), (hc, .inl (a2, (gI + 4), .inl ((fun _ => 0))))] H := hP
  have hD : va_D A [(h0, .inr (0, [.int (nI gW), .int (nI gC), .int (nI gV), .int (nI gB), .ref hs, .int (nI gM), .int (nI gI), .null])), (hs, .inl (a1, gW, .inl ((fun _ => 0)))), (hd, .inr (1, [.ref hc, .int 0, .int 0, .int 0, .int 0])), (hc, .inl (a2, (gI + 4), .inl ((fun _ => 0))))] := hD
  have hK : va_K (dC, dI) vwCl [(a1, .int), (a2, .int)] s := hK
  refine W.widen (k := 3) (n := 89) (by omega) (by omega) ?_
  refine va_putF (D := (dC, dI)) (ci := 0) (v := .ref hd) (ty := (.object "SharedVolumes$Disk")) (C := RX0) (T := TX0) (N := 8) hx hb hts inX0 tyX0 okX0 nmX0 hown hK hP hD hS 0 rfl rfl 7 (by decide) (hts _ tb_53) (fun _ h9 => h9) rfl hin rfl (by decide +kernel) rfl rfl (Nat.le_of_ble_eq_true rfl) dX0_init_100 (fun H locs hP hD hS => ?_)
  have hP : va_P (dC, dI) vwCl [(h0, .inr (0, [.int (nI gW), .int (nI gC), .int (nI gV), .int (nI gB), .ref hs, .int (nI gM), .int (nI gI), .ref hd])), (hs, .inl (a1, gW, .inl ((fun _ => 0)))), (hd, .inr (1, [.ref hc, .int 0, .int 0, .int 0, .int 0])), (hc, .inl (a2, (gI + 4), .inl ((fun _ => 0))))] H := hP
  have hD : va_D A [(h0, .inr (0, [.int (nI gW), .int (nI gC), .int (nI gV), .int (nI gB), .ref hs, .int (nI gM), .int (nI gI), .ref hd])), (hs, .inl (a1, gW, .inl ((fun _ => 0)))), (hd, .inr (1, [.ref hc, .int 0, .int 0, .int 0, .int 0])), (hc, .inl (a2, (gI + 4), .inl ((fun _ => 0))))] := hD
  exact W.vret hx hb hr (fun t ht hW => ⟨⟨(hs, hd, hc, a1, a2), rfl, trivial, by rw [ht]; exact hP, va_K.moved hW.alike hK, hD⟩, hS.F ht⟩) hS.2.2 dX0_init_103
def m0S : MS := (fun _ => 0, fun _ => 0, fun _ => 0, fun _ => 0, 0, 0, 0, 0, 0)
set_option maxHeartbeats 4000000 in
set_option maxRecDepth 100000 in
theorem k_X2_init (l : Launch) (dC : Nat → ClassId) (dI : Nat → Nat → Nat) (o0 gW gC gV gB : Nat) (sz : Nat) (p1 p2 p3 p4 : Int32) (eW : cutF p1 4 = nI gW) (eC : cutF p2 12 = nI gC) (eV : cutF p3 4 = nI gV) (eB : cutF p4 6 = nI gB) : ctN (S := Nat × Nat × Nat × Nat × ClassId × ClassId × ClassId × ClassId) nwL l yX2_init wsX2_init ({ frames := 2, cells := 4, slots := 104, locals := 40 } : Room) (dC, dI) (mw0 o0) sz [.ref o0, .int p1, .int p2, .int p3, .int p4] (fun u => [(u.2.2.2.2.1, .int), (u.2.2.2.2.2.1, .int), (u.2.2.2.2.2.2.1, .int), (u.2.2.2.2.2.2.2, .int)]) (fun u => mo_w o0 u.1 u.2.1 u.2.2.1 u.2.2.2.1 u.2.2.2.2.1 u.2.2.2.2.2.1 u.2.2.2.2.2.2.1 u.2.2.2.2.2.2.2 gW gC gV gB m0S) 4 104 := by
  refine Met.ofW (cc := cX2_init) (maxL := 5) (ret := none) (by decide) rfl ?_
  intro p e s m args below meth c s₁ B hml hv
  obtain ⟨rfl, hsz, hP, hK, hD0, hN⟩ := hv
  have hx := B.exec
  have hb := B.bytes
  have hr := B.returns
  have hts := fun w h => atoms_spec (ws := wsX2_init) B.pre w (List.mem_cons_of_mem _ h)
  have hown : s.vm.findClass RX2 = some m.cls := findClass_of_methodNamed B.named
  have hlocks := B.notSynchronized
  have hin : meth.name = "<init>" := (name_of_methodNamed B.named B.method).1
  subst hsz
  have hD := hD0.self (sz := s.heap.size)
  generalize hAe : va_A (mw0 o0) s.heap.size = A at hD ⊢
  have hA : ∀ q : Nat, s.heap.size ≤ q → A q := fun q h => by rw [← hAe]; exact Or.inr h
  have hS : va_S A s.heap s.heap [] := va_S.rf
  have hl := lv_entry ([.ref o0, .int p1, .int p2, .int p3, .int p4]) (n := 5) (Nat.le_of_ble_eq_true rfl)
  rw [lg_entry_eq]
  generalize (lg_sl ([.ref o0, .int p1, .int p2, .int p3, .int p4]) ++ List.replicate (5 - (lg_sl ([.ref o0, .int p1, .int p2, .int p3, .int p4])).length) Slot.unset).toArray = ls at hl ⊢
  have hP : va_P (dC, dI) vwCl [(o0, .inr (2, [.int 0, .int 0, .int 0, .int 0, .null, .null, .null, .null, .int 0, .int 0, .int 0, .int 0, .int 0]))] s.heap := hP
  have hD : va_D A [(o0, .inr (2, [.int 0, .int 0, .int 0, .int 0, .null, .null, .null, .null, .int 0, .int 0, .int 0, .int 0, .int 0]))] := hD
  have hl : lv_has ls 5 [(0, .ref o0), (1, .int p1), (2, .int p2), (3, .int p3), (4, .int p4)] := hl
  refine lv_aload_n hx hb dX2_init_0 rfl (lv_at hl 0 rfl) ?_
  refine W.objInit hx hb hown (hts _ tb_251) (hts _ tb_12) (hts _ tb_13) rfl (by rw [hml]; exact hl.1) rfl dX2_init_1 (Nat.le_of_ble_eq_true rfl) (Nat.le_of_ble_eq_true rfl) ?_
  refine W.eq (g2 := F0 m 4 ls []) rfl ?_
  refine lv_aload_n hx hb dX2_init_4 rfl (lv_at hl 0 rfl) ?_
  refine lv_bipush (v := 24) hx hb dX2_init_5 (by decide) ?_
  refine va_newa (atype := .int) (a0 := (24, .inl (fun _ => 0))) (N' := 24) (ty := .int) hx hb (hts _ tb_45) rfl hK hP hD hS hA (fun cA => rfl) (by decide) (by decide) (Nat.le_trans (Nat.mul_le_mul_right _ (show 24 ≤ 24 by omega)) (by decide)) (Nat.le_of_ble_eq_true rfl) (Nat.le_of_ble_eq_true rfl) dX2_init_7 (fun om z1 H hK hP hD hS => ?_)
  have hP : va_P (dC, dI) vwCl [(o0, .inr (2, [.int 0, .int 0, .int 0, .int 0, .null, .null, .null, .null, .int 0, .int 0, .int 0, .int 0, .int 0])), (om, .inl (z1, 24, .inl ((fun _ => 0))))] H := hP
  have hD : va_D A [(o0, .inr (2, [.int 0, .int 0, .int 0, .int 0, .null, .null, .null, .null, .int 0, .int 0, .int 0, .int 0, .int 0])), (om, .inl (z1, 24, .inl ((fun _ => 0))))] := hD
  have hK : va_K (dC, dI) vwCl [(z1, .int)] s := hK
  refine W.widen (k := 1) (n := 24) (by omega) (by omega) ?_
  refine va_putF (D := (dC, dI)) (ci := 2) (v := .ref om) (ty := (.array .int)) (C := RX2) (T := TX2) (N := 13) hx hb hts inX2 tyX2 okX2 nmX2 hown hK hP hD hS 0 rfl rfl 4 (by decide) (hts _ tb_259) (fun _ h9 => h9) rfl hin rfl (by decide +kernel) rfl rfl (Nat.le_of_ble_eq_true rfl) dX2_init_9 (fun H locs hP hD hS => ?_)
  have hP : va_P (dC, dI) vwCl [(o0, .inr (2, [.int 0, .int 0, .int 0, .int 0, .ref om, .null, .null, .null, .int 0, .int 0, .int 0, .int 0, .int 0])), (om, .inl (z1, 24, .inl ((fun _ => 0))))] H := hP
  have hD : va_D A [(o0, .inr (2, [.int 0, .int 0, .int 0, .int 0, .ref om, .null, .null, .null, .int 0, .int 0, .int 0, .int 0, .int 0])), (om, .inl (z1, 24, .inl ((fun _ => 0))))] := hD
  refine lv_aload_n hx hb dX2_init_12 rfl (lv_at hl 0 rfl) ?_
  refine lv_bipush (v := 24) hx hb dX2_init_13 (by decide) ?_
  refine va_newa (atype := .int) (a0 := (24, .inl (fun _ => 0))) (N' := 24) (ty := .int) hx hb (hts _ tb_45) rfl hK hP hD hS hA (fun cA => rfl) (by decide) (by decide) (Nat.le_trans (Nat.mul_le_mul_right _ (show 24 ≤ 24 by omega)) (by decide)) (Nat.le_of_ble_eq_true rfl) (Nat.le_of_ble_eq_true rfl) dX2_init_15 (fun ow z2 H hK hP hD hS => ?_)
  have hP : va_P (dC, dI) vwCl [(o0, .inr (2, [.int 0, .int 0, .int 0, .int 0, .ref om, .null, .null, .null, .int 0, .int 0, .int 0, .int 0, .int 0])), (om, .inl (z1, 24, .inl ((fun _ => 0)))), (ow, .inl (z2, 24, .inl ((fun _ => 0))))] H := hP
  have hD : va_D A [(o0, .inr (2, [.int 0, .int 0, .int 0, .int 0, .ref om, .null, .null, .null, .int 0, .int 0, .int 0, .int 0, .int 0])), (om, .inl (z1, 24, .inl ((fun _ => 0)))), (ow, .inl (z2, 24, .inl ((fun _ => 0))))] := hD
  have hK : va_K (dC, dI) vwCl [(z1, .int), (z2, .int)] s := hK
  refine W.widen (k := 2) (n := 48) (by omega) (by omega) ?_
  refine va_putF (D := (dC, dI)) (ci := 2) (v := .ref ow) (ty := (.array .int)) (C := RX2) (T := TX2) (N := 13) hx hb hts inX2 tyX2 okX2 nmX2 hown hK hP hD hS 0 rfl rfl 5 (by decide) (hts _ tb_260) (fun _ h9 => h9) rfl hin rfl (by decide +kernel) rfl rfl (Nat.le_of_ble_eq_true rfl) dX2_init_17 (fun H locs hP hD hS => ?_)
  have hP : va_P (dC, dI) vwCl [(o0, .inr (2, [.int 0, .int 0, .int 0, .int 0, .ref om, .ref ow, .null, .null, .int 0, .int 0, .int 0, .int 0, .int 0])), (om, .inl (z1, 24, .inl ((fun _ => 0)))), (ow, .inl (z2, 24, .inl ((fun _ => 0))))] H := hP
  have hD : va_D A [(o0, .inr (2, [.int 0, .int 0, .int 0, .int 0, .ref om, .ref ow, .null, .null, .int 0, .int 0, .int 0, .int 0, .int 0])), (om, .inl (z1, 24, .inl ((fun _ => 0)))), (ow, .inl (z2, 24, .inl ((fun _ => 0))))] := hD
  refine lv_aload_n hx hb dX2_init_20 rfl (lv_at hl 0 rfl) ?_
  refine lv_bipush (v := 52) hx hb dX2_init_21 (by decide) ?_
  refine va_newa (atype := .int) (a0 := (52, .inl (fun _ => 0))) (N' := 52) (ty := .int) hx hb (hts _ tb_45) rfl hK hP hD hS hA (fun cA => rfl) (by decide) (by decide) (Nat.le_trans (Nat.mul_le_mul_right _ (show 52 ≤ 52 by omega)) (by decide)) (Nat.le_of_ble_eq_true rfl) (Nat.le_of_ble_eq_true rfl) dX2_init_23 (fun os z3 H hK hP hD hS => ?_)
  have hP : va_P (dC, dI) vwCl [(o0, .inr (2, [.int 0, .int 0, .int 0, .int 0, .ref om, .ref ow, .null, .null, .int 0, .int 0, .int 0, .int 0, .int 0])), (om, .inl (z1, 24, .inl ((fun _ => 0)))), (ow, .inl (z2, 24, .inl ((fun _ => 0)))), (os, .inl (z3, 52, .inl ((fun _ => 0))))] H := hP
  have hD : va_D A [(o0, .inr (2, [.int 0, .int 0, .int 0, .int 0, .ref om, .ref ow, .null, .null, .int 0, .int 0, .int 0, .int 0, .int 0])), (om, .inl (z1, 24, .inl ((fun _ => 0)))), (ow, .inl (z2, 24, .inl ((fun _ => 0)))), (os, .inl (z3, 52, .inl ((fun _ => 0))))] := hD
  have hK : va_K (dC, dI) vwCl [(z1, .int), (z2, .int), (z3, .int)] s := hK
  refine W.widen (k := 3) (n := 100) (by omega) (by omega) ?_
  refine va_putF (D := (dC, dI)) (ci := 2) (v := .ref os) (ty := (.array .int)) (C := RX2) (T := TX2) (N := 13) hx hb hts inX2 tyX2 okX2 nmX2 hown hK hP hD hS 0 rfl rfl 6 (by decide) (hts _ tb_261) (fun _ h9 => h9) rfl hin rfl (by decide +kernel) rfl rfl (Nat.le_of_ble_eq_true rfl) dX2_init_25 (fun H locs hP hD hS => ?_)
  have hP : va_P (dC, dI) vwCl [(o0, .inr (2, [.int 0, .int 0, .int 0, .int 0, .ref om, .ref ow, .ref os, .null, .int 0, .int 0, .int 0, .int 0, .int 0])), (om, .inl (z1, 24, .inl ((fun _ => 0)))), (ow, .inl (z2, 24, .inl ((fun _ => 0)))), (os, .inl (z3, 52, .inl ((fun _ => 0))))] H := hP
  have hD : va_D A [(o0, .inr (2, [.int 0, .int 0, .int 0, .int 0, .ref om, .ref ow, .ref os, .null, .int 0, .int 0, .int 0, .int 0, .int 0])), (om, .inl (z1, 24, .inl ((fun _ => 0)))), (ow, .inl (z2, 24, .inl ((fun _ => 0)))), (os, .inl (z3, 52, .inl ((fun _ => 0))))] := hD
  refine lv_aload_n hx hb dX2_init_28 rfl (lv_at hl 0 rfl) ?_
  refine lv_iconst (v := 4) hx hb dX2_init_29 (by decide) ?_
  refine va_newa (atype := .int) (a0 := (4, .inl (fun _ => 0))) (N' := 4) (ty := .int) hx hb (hts _ tb_45) rfl hK hP hD hS hA (fun cA => rfl) (by decide) (by decide) (Nat.le_trans (Nat.mul_le_mul_right _ (show 4 ≤ 4 by omega)) (by decide)) (Nat.le_of_ble_eq_true rfl) (Nat.le_of_ble_eq_true rfl) dX2_init_30 (fun og z4 H hK hP hD hS => ?_)
  have hP : va_P (dC, dI) vwCl [(o0, .inr (2, [.int 0, .int 0, .int 0, .int 0, .ref om, .ref ow, .ref os, .null, .int 0, .int 0, .int 0, .int 0, .int 0])), (om, .inl (z1, 24, .inl ((fun _ => 0)))), (ow, .inl (z2, 24, .inl ((fun _ => 0)))), (os, .inl (z3, 52, .inl ((fun _ => 0)))), (og, .inl (z4, 4, .inl ((fun _ => 0))))] H := hP
  have hD : va_D A [(o0, .inr (2, [.int 0, .int 0, .int 0, .int 0, .ref om, .ref ow, .ref os, .null, .int 0, .int 0, .int 0, .int 0, .int 0])), (om, .inl (z1, 24, .inl ((fun _ => 0)))), (ow, .inl (z2, 24, .inl ((fun _ => 0)))), (os, .inl (z3, 52, .inl ((fun _ => 0)))), (og, .inl (z4, 4, .inl ((fun _ => 0))))] := hD
  have hK : va_K (dC, dI) vwCl [(z1, .int), (z2, .int), (z3, .int), (z4, .int)] s := hK
  refine W.widen (k := 4) (n := 104) (by omega) (by omega) ?_
  refine va_putF (D := (dC, dI)) (ci := 2) (v := .ref og) (ty := (.array .int)) (C := RX2) (T := TX2) (N := 13) hx hb hts inX2 tyX2 okX2 nmX2 hown hK hP hD hS 0 rfl rfl 7 (by decide) (hts _ tb_262) (fun _ h9 => h9) rfl hin rfl (by decide +kernel) rfl rfl (Nat.le_of_ble_eq_true rfl) dX2_init_32 (fun H locs hP hD hS => ?_)
  have hP : va_P (dC, dI) vwCl [(o0, .inr (2, [.int 0, .int 0, .int 0, .int 0, .ref om, .ref ow, .ref os, .ref og, .int 0, .int 0, .int 0, .int 0, .int 0])), (om, .inl (z1, 24, .inl ((fun _ => 0)))), (ow, .inl (z2, 24, .inl ((fun _ => 0)))), (os, .inl (z3, 52, .inl ((fun _ => 0)))), (og, .inl (z4, 4, .inl ((fun _ => 0))))] H := hP
  have hD : va_D A [(o0, .inr (2, [.int 0, .int 0, .int 0, .int 0, .ref om, .ref ow, .ref os, .ref og, .int 0, .int 0, .int 0, .int 0, .int 0])), (om, .inl (z1, 24, .inl ((fun _ => 0)))), (ow, .inl (z2, 24, .inl ((fun _ => 0)))), (os, .inl (z3, 52, .inl ((fun _ => 0)))), (og, .inl (z4, 4, .inl ((fun _ => 0))))] := hD
  refine lv_aload_n hx hb dX2_init_35 rfl (lv_at hl 0 rfl) ?_
  refine lv_iload_n hx hb dX2_init_36 rfl (lv_at hl 1 rfl) ?_
  refine lv_iconst (v := 4) hx hb dX2_init_37 (by decide) ?_
  refine xr_c (va_runS (As := [.int p1, .int 4]) (rest := [.ref o0]) ⟨hx, hb, hml, hown, hts⟩ (k_X2_cut l H.size p1 4) (cwS 2 hts gX2_22 rfl rfl rfl (by decide +kernel) ⟨Nat.le_of_ble_eq_true rfl, Nat.le_of_ble_eq_true rfl⟩) ⟨fun a U g mk q => q, fun U hU hW => ⟨rfl, by show U.heap.size = _; rw [hU]⟩⟩ rfl rfl hl.1 rfl (lv_room (Nat.le_of_ble_eq_true rfl)) dX2_init_38 ⟨Nat.le_of_ble_eq_true rfl, Nat.le_of_ble_eq_true rfl⟩) hP hS hA (fun r9 u9 H locs hw hP hS => ?_)
  rw [hw, eW]
  have hP : va_P (dC, dI) vwCl [(o0, .inr (2, [.int 0, .int 0, .int 0, .int 0, .ref om, .ref ow, .ref os, .ref og, .int 0, .int 0, .int 0, .int 0, .int 0])), (om, .inl (z1, 24, .inl ((fun _ => 0)))), (ow, .inl (z2, 24, .inl ((fun _ => 0)))), (os, .inl (z3, 52, .inl ((fun _ => 0)))), (og, .inl (z4, 4, .inl ((fun _ => 0))))] H := hP
  refine va_putF (D := (dC, dI)) (ci := 2) (v := .int (nI gW)) (ty := .int) (C := RX2) (T := TX2) (N := 13) hx hb hts inX2 tyX2 okX2 nmX2 hown hK hP hD hS 0 rfl rfl 0 (by decide) (hts _ tb_255) (fun _ h9 => h9) rfl hin rfl (by decide +kernel) rfl rfl (Nat.le_of_ble_eq_true rfl) dX2_init_41 (fun H locs hP hD hS => ?_)
  have hP : va_P (dC, dI) vwCl [(o0, .inr (2, [.int (nI gW), .int 0, .int 0, .int 0, .ref om, .ref ow, .ref os, .ref og, .int 0, .int 0, .int 0, .int 0, .int 0])), (om, .inl (z1, 24, .inl ((fun _ => 0)))), (ow, .inl (z2, 24, .inl ((fun _ => 0)))), (os, .inl (z3, 52, .inl ((fun _ => 0)))), (og, .inl (z4, 4, .inl ((fun _ => 0))))] H := hP
  have hD : va_D A [(o0, .inr (2, [.int (nI gW), .int 0, .int 0, .int 0, .ref om, .ref ow, .ref os, .ref og, .int 0, .int 0, .int 0, .int 0, .int 0])), (om, .inl (z1, 24, .inl ((fun _ => 0)))), (ow, .inl (z2, 24, .inl ((fun _ => 0)))), (os, .inl (z3, 52, .inl ((fun _ => 0)))), (og, .inl (z4, 4, .inl ((fun _ => 0))))] := hD
  refine lv_aload_n hx hb dX2_init_44 rfl (lv_at hl 0 rfl) ?_
  refine lv_iload_n hx hb dX2_init_45 rfl (lv_at hl 2 rfl) ?_
  refine lv_bipush (v := 12) hx hb dX2_init_46 (by decide) ?_
  refine xr_c (va_runS (As := [.int p2, .int 12]) (rest := [.ref o0]) ⟨hx, hb, hml, hown, hts⟩ (k_X2_cut l H.size p2 12) (cwS 2 hts gX2_22 rfl rfl rfl (by decide +kernel) ⟨Nat.le_of_ble_eq_true rfl, Nat.le_of_ble_eq_true rfl⟩) ⟨fun a U g mk q => q, fun U hU hW => ⟨rfl, by show U.heap.size = _; rw [hU]⟩⟩ rfl rfl hl.1 rfl (lv_room (Nat.le_of_ble_eq_true rfl)) dX2_init_48 ⟨Nat.le_of_ble_eq_true rfl, Nat.le_of_ble_eq_true rfl⟩) hP hS hA (fun r9 u9 H locs hw hP hS => ?_)
  rw [hw, eC]
  have hP : va_P (dC, dI) vwCl [(o0, .inr (2, [.int (nI gW), .int 0, .int 0, .int 0, .ref om, .ref ow, .ref os, .ref og, .int 0, .int 0, .int 0, .int 0, .int 0])), (om, .inl (z1, 24, .inl ((fun _ => 0)))), (ow, .inl (z2, 24, .inl ((fun _ => 0)))), (os, .inl (z3, 52, .inl ((fun _ => 0)))), (og, .inl (z4, 4, .inl ((fun _ => 0))))] H := hP
  refine va_putF (D := (dC, dI)) (ci := 2) (v := .int (nI gC)) (ty := .int) (C := RX2) (T := TX2) (N := 13) hx hb hts inX2 tyX2 okX2 nmX2 hown hK hP hD hS 0 rfl rfl 1 (by decide) (hts _ tb_256) (fun _ h9 => h9) rfl hin rfl (by decide +kernel) rfl rfl (Nat.le_of_ble_eq_true rfl) dX2_init_51 (fun H locs hP hD hS => ?_)
  have hP : va_P (dC, dI) vwCl [(o0, .inr (2, [.int (nI gW), .int (nI gC), .int 0, .int 0, .ref om, .ref ow, .ref os, .ref og, .int 0, .int 0, .int 0, .int 0, .int 0])), (om, .inl (z1, 24, .inl ((fun _ => 0)))), (ow, .inl (z2, 24, .inl ((fun _ => 0)))), (os, .inl (z3, 52, .inl ((fun _ => 0)))), (og, .inl (z4, 4, .inl ((fun _ => 0))))] H := hP
  have hD : va_D A [(o0, .inr (2, [.int (nI gW), .int (nI gC), .int 0, .int 0, .ref om, .ref ow, .ref os, .ref og, .int 0, .int 0, .int 0, .int 0, .int 0])), (om, .inl (z1, 24, .inl ((fun _ => 0)))), (ow, .inl (z2, 24, .inl ((fun _ => 0)))), (os, .inl (z3, 52, .inl ((fun _ => 0)))), (og, .inl (z4, 4, .inl ((fun _ => 0))))] := hD
  refine lv_aload_n hx hb dX2_init_54 rfl (lv_at hl 0 rfl) ?_
  refine lv_iload_n hx hb dX2_init_55 rfl (lv_at hl 3 rfl) ?_
  refine lv_iconst (v := 4) hx hb dX2_init_56 (by decide) ?_
  refine xr_c (va_runS (As := [.int p3, .int 4]) (rest := [.ref o0]) ⟨hx, hb, hml, hown, hts⟩ (k_X2_cut l H.size p3 4) (cwS 2 hts gX2_22 rfl rfl rfl (by decide +kernel) ⟨Nat.le_of_ble_eq_true rfl, Nat.le_of_ble_eq_true rfl⟩) ⟨fun a U g mk q => q, fun U hU hW => ⟨rfl, by show U.heap.size = _; rw [hU]⟩⟩ rfl rfl hl.1 rfl (lv_room (Nat.le_of_ble_eq_true rfl)) dX2_init_57 ⟨Nat.le_of_ble_eq_true rfl, Nat.le_of_ble_eq_true rfl⟩) hP hS hA (fun r9 u9 H locs hw hP hS => ?_)
  rw [hw, eV]
  have hP : va_P (dC, dI) vwCl [(o0, .inr (2, [.int (nI gW), .int (nI gC), .int 0, .int 0, .ref om, .ref ow, .ref os, .ref og, .int 0, .int 0, .int 0, .int 0, .int 0])), (om, .inl (z1, 24, .inl ((fun _ => 0)))), (ow, .inl (z2, 24, .inl ((fun _ => 0)))), (os, .inl (z3, 52, .inl ((fun _ => 0)))), (og, .inl (z4, 4, .inl ((fun _ => 0))))] H := hP
  refine va_putF (D := (dC, dI)) (ci := 2) (v := .int (nI gV)) (ty := .int) (C := RX2) (T := TX2) (N := 13) hx hb hts inX2 tyX2 okX2 nmX2 hown hK hP hD hS 0 rfl rfl 2 (by decide) (hts _ tb_257) (fun _ h9 => h9) rfl hin rfl (by decide +kernel) rfl rfl (Nat.le_of_ble_eq_true rfl) dX2_init_60 (fun H locs hP hD hS => ?_)
  have hP : va_P (dC, dI) vwCl [(o0, .inr (2, [.int (nI gW), .int (nI gC), .int (nI gV), .int 0, .ref om, .ref ow, .ref os, .ref og, .int 0, .int 0, .int 0, .int 0, .int 0])), (om, .inl (z1, 24, .inl ((fun _ => 0)))), (ow, .inl (z2, 24, .inl ((fun _ => 0)))), (os, .inl (z3, 52, .inl ((fun _ => 0)))), (og, .inl (z4, 4, .inl ((fun _ => 0))))] H := hP
  have hD : va_D A [(o0, .inr (2, [.int (nI gW), .int (nI gC), .int (nI gV), .int 0, .ref om, .ref ow, .ref os, .ref og, .int 0, .int 0, .int 0, .int 0, .int 0])), (om, .inl (z1, 24, .inl ((fun _ => 0)))), (ow, .inl (z2, 24, .inl ((fun _ => 0)))), (os, .inl (z3, 52, .inl ((fun _ => 0)))), (og, .inl (z4, 4, .inl ((fun _ => 0))))] := hD
  refine lv_aload_n hx hb dX2_init_63 rfl (lv_at hl 0 rfl) ?_
  refine lv_iload hx hb dX2_init_64 (lv_at hl 4 rfl) ?_
  refine lv_bipush (v := 6) hx hb dX2_init_66 (by decide) ?_
  refine xr_c (va_runS (As := [.int p4, .int 6]) (rest := [.ref o0]) ⟨hx, hb, hml, hown, hts⟩ (k_X2_cut l H.size p4 6) (cwS 2 hts gX2_22 rfl rfl rfl (by decide +kernel) ⟨Nat.le_of_ble_eq_true rfl, Nat.le_of_ble_eq_true rfl⟩) ⟨fun a U g mk q => q, fun U hU hW => ⟨rfl, by show U.heap.size = _; rw [hU]⟩⟩ rfl rfl hl.1 rfl (lv_room (Nat.le_of_ble_eq_true rfl)) dX2_init_68 ⟨Nat.le_of_ble_eq_true rfl, Nat.le_of_ble_eq_true rfl⟩) hP hS hA (fun r9 u9 H locs hw hP hS => ?_)
  rw [hw, eB]
  have hP : va_P (dC, dI) vwCl [(o0, .inr (2, [.int (nI gW), .int (nI gC), .int (nI gV), .int 0, .ref om, .ref ow, .ref os, .ref og, .int 0, .int 0, .int 0, .int 0, .int 0])), (om, .inl (z1, 24, .inl ((fun _ => 0)))), (ow, .inl (z2, 24, .inl ((fun _ => 0)))), (os, .inl (z3, 52, .inl ((fun _ => 0)))), (og, .inl (z4, 4, .inl ((fun _ => 0))))] H := hP
  refine va_putF (D := (dC, dI)) (ci := 2) (v := .int (nI gB)) (ty := .int) (C := RX2) (T := TX2) (N := 13) hx hb hts inX2 tyX2 okX2 nmX2 hown hK hP hD hS 0 rfl rfl 3 (by decide) (hts _ tb_258) (fun _ h9 => h9) rfl hin rfl (by decide +kernel) rfl rfl (Nat.le_of_ble_eq_true rfl) dX2_init_71 (fun H locs hP hD hS => ?_)
  have hP : va_P (dC, dI) vwCl [(o0, .inr (2, [.int (nI gW), .int (nI gC), .int (nI gV), .int (nI gB), .ref om, .ref ow, .ref os, .ref og, .int 0, .int 0, .int 0, .int 0, .int 0])), (om, .inl (z1, 24, .inl ((fun _ => 0)))), (ow, .inl (z2, 24, .inl ((fun _ => 0)))), (os, .inl (z3, 52, .inl ((fun _ => 0)))), (og, .inl (z4, 4, .inl ((fun _ => 0))))] H := hP
  have hD : va_D A [(o0, .inr (2, [.int (nI gW), .int (nI gC), .int (nI gV), .int (nI gB), .ref om, .ref ow, .ref os, .ref og, .int 0, .int 0, .int 0, .int 0, .int 0])), (om, .inl (z1, 24, .inl ((fun _ => 0)))), (ow, .inl (z2, 24, .inl ((fun _ => 0)))), (os, .inl (z3, 52, .inl ((fun _ => 0)))), (og, .inl (z4, 4, .inl ((fun _ => 0))))] := hD
  exact W.vret hx hb hr (fun t ht hW => ⟨⟨(om, ow, os, og, z1, z2, z3, z4), rfl, trivial, by rw [ht]; exact hP, va_K.moved hW.alike hK, hD⟩, hS.F ht⟩) hS.2.2 dX2_init_74
