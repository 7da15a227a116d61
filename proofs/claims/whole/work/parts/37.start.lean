set_option maxHeartbeats 4000000 in
set_option maxRecDepth 100000 in
theorem whole_start {p : Program} {e : Env} {s : State} {m : MethodId} {below : List Frame} {meth : Method} {c : Code} (l : Launch) {b L : Nat} {xs : Nat → Int32} (hL : L ≤ 2052) (C0 : lw_At p s m meth c b L xs) : W p l e room_1 s m #[Value.ref b] below meth c s.heap [] 0 0 (lw_Z below #[Value.ref b] s) (entryFrame m ([Value.ref b] : List Value).toArray 4) := by
  obtain ⟨hx, hb, hr, hml, hown, hts0, hX, hbl, hlocks, hgv⟩ := id C0
  have hts := fun w h => hts0 w (tb_in w h)
  have hN : nwOk nwL s := fun w h => va_Nw.of (nwL_ok w h).1 (hts0 w (nw_in w h))
  have hA : ∀ q : Nat, s.heap.size ≤ q → (fun q : Nat => s.heap.size ≤ q) q := fun _ h => h
  have hbA : ¬ (fun q : Nat => s.heap.size ≤ q) b := Nat.not_le.mpr hbl
  obtain ⟨c0, iS0, hKn0⟩ := u_known (C := RX0) (T := TX0) (N := 8) (n := 8) hts inX0 (hts _ tb_7)
  obtain ⟨c1, iS1, hKn1⟩ := u_known (C := RX1) (T := TX1) (N := 5) (n := 5) hts inX1 (hts _ tb_24)
  obtain ⟨c2, iS2, hKn2⟩ := u_known (C := RX2) (T := TX2) (N := 13) (n := 13) hts inX2 (hts _ tb_247)
  obtain ⟨dC, dI, hKc⟩ : ∃ (dC : Nat → ClassId) (dI : Nat → Nat → Nat), ∀ (k : Nat) (q : vw_C), vwCl[k]? = some q → u_Kn s q.1 q.2.1 q.2.2 (dC k) (dI k) := by
    refine ⟨fun k => if k = 0 then c0 else if k = 1 then c1 else c2, fun k => if k = 0 then iS0 else if k = 1 then iS1 else iS2, ?_⟩
    intro k q hq
    match k, hq with
    | 0, hq => cases hq; exact hKn0
    | 1, hq => cases hq; exact hKn1
    | 2, hq => cases hq; exact hKn2
    | k + 3, hq => simp [vwCl] at hq
  have hS : va_S (fun q : Nat => s.heap.size ≤ q) s.heap s.heap [] := va_S.rf
  have hK : va_K (dC, dI) vwCl [] s := ⟨hKc, fun k q h => by simp at h⟩
  have hP : va_P (dC, dI) vwCl [] s.heap := fun k q h => by simp at h
  have hD : va_D (fun q : Nat => s.heap.size ≤ q) [] := ⟨fun i j p q h => by simp at h, fun k q h => by simp at h⟩
  have hl := lv_entry ([.ref b]) (n := 4) (Nat.le_of_ble_eq_true rfl)
  rw [lg_entry_eq]
  generalize (lg_sl ([.ref b]) ++ List.replicate (4 - (lg_sl ([.ref b])).length) Slot.unset).toArray = ls at hl ⊢
  have hl : lv_has ls 4 [(0, .ref b)] := hl
  obtain ⟨gW, hgW1, hgW2, xgW, ygW⟩ := win_cut (celF xs L 0) (M := 4) (by omega) (by omega)
  obtain ⟨gC, hgC1, hgC2, xgC, ygC⟩ := win_cut (celF xs L 1) (M := 12) (by omega) (by omega)
  obtain ⟨gV, hgV1, hgV2, xgV, ygV⟩ := win_cut (celF xs L 2) (M := 4) (by omega) (by omega)
  obtain ⟨gB, hgB1, hgB2, xgB, ygB⟩ := win_cut (celF xs L 3) (M := 6) (by omega) (by omega)
  obtain ⟨gM, eM⟩ : ∃ z, z = (gC + 1) * gW := ⟨_, rfl⟩
  obtain ⟨gI, eI⟩ : ∃ z, z = gM + gV * gB := ⟨_, rfl⟩
  have hg : geo gW gC gV gB gM gI := ⟨⟨hgW1, hgW2⟩, ⟨hgC1, hgC2⟩, ⟨hgV1, hgV2⟩, ⟨hgB1, hgB2⟩, eM, eI⟩
  refine va_new (ci := 0) (fs := [.int 0, .int 0, .int 0, .int 0, .null, .int 0, .int 0, .null]) (C := RX0) (T := TX0) (N := 8) hx hb hts inX0 tyX0 okX0 hown (hts _ tb_6) (hts _ tb_7) (hts _ tb_1) hK hP hD hS hA rfl (fun j hj => by rcases (show j = 0 ∨ j = 1 ∨ j = 2 ∨ j = 3 ∨ j = 4 ∨ j = 5 ∨ j = 6 ∨ j = 7 by omega) with rfl | rfl | rfl | rfl | rfl | rfl | rfl | rfl <;> rfl) (Nat.le_of_ble_eq_true rfl) (Nat.le_of_ble_eq_true rfl) dL_law_0 (fun h0 H hP hD hS => ?_)
  have hP : va_P (dC, dI) vwCl [(h0, .inr (0, [.int 0, .int 0, .int 0, .int 0, .null, .int 0, .int 0, .null]))] H := hP
  have hD : va_D (fun q : Nat => s.heap.size ≤ q) [(h0, .inr (0, [.int 0, .int 0, .int 0, .int 0, .null, .int 0, .int 0, .null]))] := hD
  refine W.widen (k := 1) (n := 8) (by omega) (by omega) ?_
  refine lv_dup hx hb dL_law_3 rfl ?_
  refine lv_aload_n hx hb dL_law_4 rfl (lv_at hl 0 rfl) ?_
  refine lv_iconst (v := 0) hx hb dL_law_5 (by decide) ?_
  refine xr_c (va_runS (As := [.ref b, .int 0]) (rest := [.ref h0, .ref h0]) ⟨hx, hb, hml, hown, hts⟩ (k_L_cell l b L xs (by omega) H.size 0 (by omega)) (cwS 2 hts gL_9 rfl rfl rfl (by decide +kernel) ⟨Nat.le_of_ble_eq_true rfl, Nat.le_of_ble_eq_true rfl⟩) ⟨fun a U g mk q => ⟨q.1, q.2.1, va_X.moved (u := U) (U := U.calling g mk a) (Vm.Alike.refl U.vm) q.2.2.1, q.2.2.2⟩, fun U hU hW => ⟨rfl, by show U.heap.size = _; rw [hU], by rw [hU]; exact va_X.moved hW.alike (hX.kept (hS.2.1 b hbl hbA)), Nat.lt_of_lt_of_le hbl hS.1⟩⟩ rfl rfl hl.1 rfl (lv_room (Nat.le_of_ble_eq_true rfl)) dL_law_6 ⟨Nat.le_of_ble_eq_true rfl, Nat.le_of_ble_eq_true rfl⟩) hP hS hA (fun r9 u9 H locs hw hP hS => ?_)
  rw [hw]
  have hP : va_P (dC, dI) vwCl [(h0, .inr (0, [.int 0, .int 0, .int 0, .int 0, .null, .int 0, .int 0, .null]))] H := hP
  refine lv_aload_n hx hb dL_law_9 rfl (lv_at hl 0 rfl) ?_
  refine lv_iconst (v := 1) hx hb dL_law_10 (by decide) ?_
  refine xr_c (va_runS (As := [.ref b, .int 1]) (rest := [.int (celF xs L 0), .ref h0, .ref h0]) ⟨hx, hb, hml, hown, hts⟩ (k_L_cell l b L xs (by omega) H.size 1 (by omega)) (cwS 2 hts gL_9 rfl rfl rfl (by decide +kernel) ⟨Nat.le_of_ble_eq_true rfl, Nat.le_of_ble_eq_true rfl⟩) ⟨fun a U g mk q => ⟨q.1, q.2.1, va_X.moved (u := U) (U := U.calling g mk a) (Vm.Alike.refl U.vm) q.2.2.1, q.2.2.2⟩, fun U hU hW => ⟨rfl, by show U.heap.size = _; rw [hU], by rw [hU]; exact va_X.moved hW.alike (hX.kept (hS.2.1 b hbl hbA)), Nat.lt_of_lt_of_le hbl hS.1⟩⟩ rfl rfl hl.1 rfl (lv_room (Nat.le_of_ble_eq_true rfl)) dL_law_11 ⟨Nat.le_of_ble_eq_true rfl, Nat.le_of_ble_eq_true rfl⟩) hP hS hA (fun r9 u9 H locs hw hP hS => ?_)
  rw [hw]
  have hP : va_P (dC, dI) vwCl [(h0, .inr (0, [.int 0, .int 0, .int 0, .int 0, .null, .int 0, .int 0, .null]))] H := hP
  refine lv_aload_n hx hb dL_law_14 rfl (lv_at hl 0 rfl) ?_
  refine lv_iconst (v := 2) hx hb dL_law_15 (by decide) ?_
  refine xr_c (va_runS (As := [.ref b, .int 2]) (rest := [.int (celF xs L 1), .int (celF xs L 0), .ref h0, .ref h0]) ⟨hx, hb, hml, hown, hts⟩ (k_L_cell l b L xs (by omega) H.size 2 (by omega)) (cwS 2 hts gL_9 rfl rfl rfl (by decide +kernel) ⟨Nat.le_of_ble_eq_true rfl, Nat.le_of_ble_eq_true rfl⟩) ⟨fun a U g mk q => ⟨q.1, q.2.1, va_X.moved (u := U) (U := U.calling g mk a) (Vm.Alike.refl U.vm) q.2.2.1, q.2.2.2⟩, fun U hU hW => ⟨rfl, by show U.heap.size = _; rw [hU], by rw [hU]; exact va_X.moved hW.alike (hX.kept (hS.2.1 b hbl hbA)), Nat.lt_of_lt_of_le hbl hS.1⟩⟩ rfl rfl hl.1 rfl (lv_room (Nat.le_of_ble_eq_true rfl)) dL_law_16 ⟨Nat.le_of_ble_eq_true rfl, Nat.le_of_ble_eq_true rfl⟩) hP hS hA (fun r9 u9 H locs hw hP hS => ?_)
  rw [hw]
  have hP : va_P (dC, dI) vwCl [(h0, .inr (0, [.int 0, .int 0, .int 0, .int 0, .null, .int 0, .int 0, .null]))] H := hP
  refine lv_aload_n hx hb dL_law_19 rfl (lv_at hl 0 rfl) ?_
  refine lv_iconst (v := 3) hx hb dL_law_20 (by decide) ?_
  refine xr_c (va_runS (As := [.ref b, .int 3]) (rest := [.int (celF xs L 2), .int (celF xs L 1), .int (celF xs L 0), .ref h0, .ref h0]) ⟨hx, hb, hml, hown, hts⟩ (k_L_cell l b L xs (by omega) H.size 3 (by omega)) (cwS 2 hts gL_9 rfl rfl rfl (by decide +kernel) ⟨Nat.le_of_ble_eq_true rfl, Nat.le_of_ble_eq_true rfl⟩) ⟨fun a U g mk q => ⟨q.1, q.2.1, va_X.moved (u := U) (U := U.calling g mk a) (Vm.Alike.refl U.vm) q.2.2.1, q.2.2.2⟩, fun U hU hW => ⟨rfl, by show U.heap.size = _; rw [hU], by rw [hU]; exact va_X.moved hW.alike (hX.kept (hS.2.1 b hbl hbA)), Nat.lt_of_lt_of_le hbl hS.1⟩⟩ rfl rfl hl.1 rfl (lv_room (Nat.le_of_ble_eq_true rfl)) dL_law_21 ⟨Nat.le_of_ble_eq_true rfl, Nat.le_of_ble_eq_true rfl⟩) hP hS hA (fun r9 u9 H locs hw hP hS => ?_)
  rw [hw]
  have hP : va_P (dC, dI) vwCl [(h0, .inr (0, [.int 0, .int 0, .int 0, .int 0, .null, .int 0, .int 0, .null]))] H := hP
  refine xr_n (D := (dC, dI)) (tyf := fun u : Nat × Nat × Nat × ClassId × ClassId => [(u.2.2.2.1, .int), (u.2.2.2.2, .int)]) (wf := fun u : Nat × Nat × Nat × ClassId × ClassId => xo_w h0 u.1 u.2.1 u.2.2.1 u.2.2.2.1 u.2.2.2.2 gW gC gV gB gM gI (fun _ => 0, d0S)) (wr := []) (va_runI (As := [.int (celF xs L 0), .int (celF xs L 1), .int (celF xs L 2), .int (celF xs L 3)]) (rest := [.ref h0]) ⟨hx, hb, hml, hown, hts⟩ (k_X0_init l dC dI h0 gW gC gV gB gM gI hg H.size (celF xs L 0) (celF xs L 1) (celF xs L 2) (celF xs L 3) xgW xgC xgV xgB) (cwI 4 hts gL_15 rfl rfl rfl (hts _ tb_1) (hts _ tb_8) (hts _ tb_9) rfl (by decide +kernel) ⟨Nat.le_of_ble_eq_true rfl, Nat.le_of_ble_eq_true rfl⟩) (xp_n nwL_ok hK hN hP hD [0] rfl rfl) rfl rfl hl.1 rfl (lv_room (Nat.le_of_ble_eq_true rfl)) dL_law_24 ⟨Nat.le_of_ble_eq_true rfl, Nat.le_of_ble_eq_true rfl⟩) hK hP hD hS hA [0] [] rfl rfl (by decide) (by decide) (fun u H locs hK hP hD hS => ?_)
  obtain ⟨hs, hd, hc, a1, a2⟩ := u
  have hP : va_P (dC, dI) vwCl [(h0, .inr (0, [.int (nI gW), .int (nI gC), .int (nI gV), .int (nI gB), .ref hs, .int (nI gM), .int (nI gI), .ref hd])), (hs, .inl (a1, gW, .inl ((fun _ => 0)))), (hd, .inr (1, [.ref hc, .int 0, .int 0, .int 0, .int 0])), (hc, .inl (a2, (gI + 4), .inl ((fun _ => 0))))] H := hP
  have hD : va_D (fun q : Nat => s.heap.size ≤ q) [(h0, .inr (0, [.int (nI gW), .int (nI gC), .int (nI gV), .int (nI gB), .ref hs, .int (nI gM), .int (nI gI), .ref hd])), (hs, .inl (a1, gW, .inl ((fun _ => 0)))), (hd, .inr (1, [.ref hc, .int 0, .int 0, .int 0, .int 0])), (hc, .inl (a2, (gI + 4), .inl ((fun _ => 0))))] := hD
  have hK : va_K (dC, dI) vwCl [(a1, .int), (a2, .int)] s := hK
  refine W.widen (k := 4) (n := 97) (by omega) (by omega) ?_
  refine lv_astore_n (lv' := [(1, .ref h0), (0, .ref b)]) hx hb dL_law_27 rfl hl (by decide) rfl (fun ls hl => ?_)
  refine va_new (ci := 2) (fs := [.int 0, .int 0, .int 0, .int 0, .null, .null, .null, .null, .int 0, .int 0, .int 0, .int 0, .int 0]) (C := RX2) (T := TX2) (N := 13) hx hb hts inX2 tyX2 okX2 hown (hts _ tb_246) (hts _ tb_247) (hts _ tb_4) hK hP hD hS hA rfl (fun j hj => by rcases (show j = 0 ∨ j = 1 ∨ j = 2 ∨ j = 3 ∨ j = 4 ∨ j = 5 ∨ j = 6 ∨ j = 7 ∨ j = 8 ∨ j = 9 ∨ j = 10 ∨ j = 11 ∨ j = 12 by omega) with rfl | rfl | rfl | rfl | rfl | rfl | rfl | rfl | rfl | rfl | rfl | rfl | rfl <;> rfl) (Nat.le_of_ble_eq_true rfl) (Nat.le_of_ble_eq_true rfl) dL_law_28 (fun o0 H hP hD hS => ?_)
  have hP : va_P (dC, dI) vwCl [(h0, .inr (0, [.int (nI gW), .int (nI gC), .int (nI gV), .int (nI gB), .ref hs, .int (nI gM), .int (nI gI), .ref hd])), (hs, .inl (a1, gW, .inl ((fun _ => 0)))), (hd, .inr (1, [.ref hc, .int 0, .int 0, .int 0, .int 0])), (hc, .inl (a2, (gI + 4), .inl ((fun _ => 0)))), (o0, .inr (2, [.int 0, .int 0, .int 0, .int 0, .null, .null, .null, .null, .int 0, .int 0, .int 0, .int 0, .int 0]))] H := hP
  have hD : va_D (fun q : Nat => s.heap.size ≤ q) [(h0, .inr (0, [.int (nI gW), .int (nI gC), .int (nI gV), .int (nI gB), .ref hs, .int (nI gM), .int (nI gI), .ref hd])), (hs, .inl (a1, gW, .inl ((fun _ => 0)))), (hd, .inr (1, [.ref hc, .int 0, .int 0, .int 0, .int 0])), (hc, .inl (a2, (gI + 4), .inl ((fun _ => 0)))), (o0, .inr (2, [.int 0, .int 0, .int 0, .int 0, .null, .null, .null, .null, .int 0, .int 0, .int 0, .int 0, .int 0]))] := hD
  refine W.widen (k := 5) (n := 110) (by omega) (by omega) ?_
  refine lv_dup hx hb dL_law_31 rfl ?_
  refine lv_aload_n hx hb dL_law_32 rfl (lv_at hl 1 rfl) ?_
  refine lv_iconst (v := 0) hx hb dL_law_33 (by decide) ?_
  refine xr_c (va_runS (As := [.ref b, .int 0]) (rest := [.ref o0, .ref o0]) ⟨hx, hb, hml, hown, hts⟩ (k_L_cell l b L xs (by omega) H.size 0 (by omega)) (cwS 2 hts gL_9 rfl rfl rfl (by decide +kernel) ⟨Nat.le_of_ble_eq_true rfl, Nat.le_of_ble_eq_true rfl⟩) ⟨fun a U g mk q => ⟨q.1, q.2.1, va_X.moved (u := U) (U := U.calling g mk a) (Vm.Alike.refl U.vm) q.2.2.1, q.2.2.2⟩, fun U hU hW => ⟨rfl, by show U.heap.size = _; rw [hU], by rw [hU]; exact va_X.moved hW.alike (hX.kept (hS.2.1 b hbl hbA)), Nat.lt_of_lt_of_le hbl hS.1⟩⟩ rfl rfl hl.1 rfl (lv_room (Nat.le_of_ble_eq_true rfl)) dL_law_34 ⟨Nat.le_of_ble_eq_true rfl, Nat.le_of_ble_eq_true rfl⟩) hP hS hA (fun r9 u9 H locs hw hP hS => ?_)
  rw [hw]
  have hP : va_P (dC, dI) vwCl [(h0, .inr (0, [.int (nI gW), .int (nI gC), .int (nI gV), .int (nI gB), .ref hs, .int (nI gM), .int (nI gI), .ref hd])), (hs, .inl (a1, gW, .inl ((fun _ => 0)))), (hd, .inr (1, [.ref hc, .int 0, .int 0, .int 0, .int 0])), (hc, .inl (a2, (gI + 4), .inl ((fun _ => 0)))), (o0, .inr (2, [.int 0, .int 0, .int 0, .int 0, .null, .null, .null, .null, .int 0, .int 0, .int 0, .int 0, .int 0]))] H := hP
  refine lv_aload_n hx hb dL_law_37 rfl (lv_at hl 1 rfl) ?_
  refine lv_iconst (v := 1) hx hb dL_law_38 (by decide) ?_
  refine xr_c (va_runS (As := [.ref b, .int 1]) (rest := [.int (celF xs L 0), .ref o0, .ref o0]) ⟨hx, hb, hml, hown, hts⟩ (k_L_cell l b L xs (by omega) H.size 1 (by omega)) (cwS 2 hts gL_9 rfl rfl rfl (by decide +kernel) ⟨Nat.le_of_ble_eq_true rfl, Nat.le_of_ble_eq_true rfl⟩) ⟨fun a U g mk q => ⟨q.1, q.2.1, va_X.moved (u := U) (U := U.calling g mk a) (Vm.Alike.refl U.vm) q.2.2.1, q.2.2.2⟩, fun U hU hW => ⟨rfl, by show U.heap.size = _; rw [hU], by rw [hU]; exact va_X.moved hW.alike (hX.kept (hS.2.1 b hbl hbA)), Nat.lt_of_lt_of_le hbl hS.1⟩⟩ rfl rfl hl.1 rfl (lv_room (Nat.le_of_ble_eq_true rfl)) dL_law_39 ⟨Nat.le_of_ble_eq_true rfl, Nat.le_of_ble_eq_true rfl⟩) hP hS hA (fun r9 u9 H locs hw hP hS => ?_)
  rw [hw]
  have hP : va_P (dC, dI) vwCl [(h0, .inr (0, [.int (nI gW), .int (nI gC), .int (nI gV), .int (nI gB), .ref hs, .int (nI gM), .int (nI gI), .ref hd])), (hs, .inl (a1, gW, .inl ((fun _ => 0)))), (hd, .inr (1, [.ref hc, .int 0, .int 0, .int 0, .int 0])), (hc, .inl (a2, (gI + 4), .inl ((fun _ => 0)))), (o0, .inr (2, [.int 0, .int 0, .int 0, .int 0, .null, .null, .null, .null, .int 0, .int 0, .int 0, .int 0, .int 0]))] H := hP
  refine lv_aload_n hx hb dL_law_42 rfl (lv_at hl 1 rfl) ?_
  refine lv_iconst (v := 2) hx hb dL_law_43 (by decide) ?_
  refine xr_c (va_runS (As := [.ref b, .int 2]) (rest := [.int (celF xs L 1), .int (celF xs L 0), .ref o0, .ref o0]) ⟨hx, hb, hml, hown, hts⟩ (k_L_cell l b L xs (by omega) H.size 2 (by omega)) (cwS 2 hts gL_9 rfl rfl rfl (by decide +kernel) ⟨Nat.le_of_ble_eq_true rfl, Nat.le_of_ble_eq_true rfl⟩) ⟨fun a U g mk q => ⟨q.1, q.2.1, va_X.moved (u := U) (U := U.calling g mk a) (Vm.Alike.refl U.vm) q.2.2.1, q.2.2.2⟩, fun U hU hW => ⟨rfl, by show U.heap.size = _; rw [hU], by rw [hU]; exact va_X.moved hW.alike (hX.kept (hS.2.1 b hbl hbA)), Nat.lt_of_lt_of_le hbl hS.1⟩⟩ rfl rfl hl.1 rfl (lv_room (Nat.le_of_ble_eq_true rfl)) dL_law_44 ⟨Nat.le_of_ble_eq_true rfl, Nat.le_of_ble_eq_true rfl⟩) hP hS hA (fun r9 u9 H locs hw hP hS => ?_)
  rw [hw]
  have hP : va_P (dC, dI) vwCl [(h0, .inr (0, [.int (nI gW), .int (nI gC), .int (nI gV), .int (nI gB), .ref hs, .int (nI gM), .int (nI gI), .ref hd])), (hs, .inl (a1, gW, .inl ((fun _ => 0)))), (hd, .inr (1, [.ref hc, .int 0, .int 0, .int 0, .int 0])), (hc, .inl (a2, (gI + 4), .inl ((fun _ => 0)))), (o0, .inr (2, [.int 0, .int 0, .int 0, .int 0, .null, .null, .null, .null, .int 0, .int 0, .int 0, .int 0, .int 0]))] H := hP
  refine lv_aload_n hx hb dL_law_47 rfl (lv_at hl 1 rfl) ?_
  refine lv_iconst (v := 3) hx hb dL_law_48 (by decide) ?_
  refine xr_c (va_runS (As := [.ref b, .int 3]) (rest := [.int (celF xs L 2), .int (celF xs L 1), .int (celF xs L 0), .ref o0, .ref o0]) ⟨hx, hb, hml, hown, hts⟩ (k_L_cell l b L xs (by omega) H.size 3 (by omega)) (cwS 2 hts gL_9 rfl rfl rfl (by decide +kernel) ⟨Nat.le_of_ble_eq_true rfl, Nat.le_of_ble_eq_true rfl⟩) ⟨fun a U g mk q => ⟨q.1, q.2.1, va_X.moved (u := U) (U := U.calling g mk a) (Vm.Alike.refl U.vm) q.2.2.1, q.2.2.2⟩, fun U hU hW => ⟨rfl, by show U.heap.size = _; rw [hU], by rw [hU]; exact va_X.moved hW.alike (hX.kept (hS.2.1 b hbl hbA)), Nat.lt_of_lt_of_le hbl hS.1⟩⟩ rfl rfl hl.1 rfl (lv_room (Nat.le_of_ble_eq_true rfl)) dL_law_49 ⟨Nat.le_of_ble_eq_true rfl, Nat.le_of_ble_eq_true rfl⟩) hP hS hA (fun r9 u9 H locs hw hP hS => ?_)
  rw [hw]
  have hP : va_P (dC, dI) vwCl [(h0, .inr (0, [.int (nI gW), .int (nI gC), .int (nI gV), .int (nI gB), .ref hs, .int (nI gM), .int (nI gI), .ref hd])), (hs, .inl (a1, gW, .inl ((fun _ => 0)))), (hd, .inr (1, [.ref hc, .int 0, .int 0, .int 0, .int 0])), (hc, .inl (a2, (gI + 4), .inl ((fun _ => 0)))), (o0, .inr (2, [.int 0, .int 0, .int 0, .int 0, .null, .null, .null, .null, .int 0, .int 0, .int 0, .int 0, .int 0]))] H := hP
  refine xr_n (D := (dC, dI)) (tyf := fun u : Nat × Nat × Nat × Nat × ClassId × ClassId × ClassId × ClassId => [(u.2.2.2.2.1, .int), (u.2.2.2.2.2.1, .int), (u.2.2.2.2.2.2.1, .int), (u.2.2.2.2.2.2.2, .int)]) (wf := fun u : Nat × Nat × Nat × Nat × ClassId × ClassId × ClassId × ClassId => mo_w o0 u.1 u.2.1 u.2.2.1 u.2.2.2.1 u.2.2.2.2.1 u.2.2.2.2.2.1 u.2.2.2.2.2.2.1 u.2.2.2.2.2.2.2 gW gC gV gB m0S) (wr := [(h0, .inr (0, [.int (nI gW), .int (nI gC), .int (nI gV), .int (nI gB), .ref hs, .int (nI gM), .int (nI gI), .ref hd])), (hs, .inl (a1, gW, .inl ((fun _ => 0)))), (hd, .inr (1, [.ref hc, .int 0, .int 0, .int 0, .int 0])), (hc, .inl (a2, (gI + 4), .inl ((fun _ => 0))))]) (va_runI (As := [.int (celF xs L 0), .int (celF xs L 1), .int (celF xs L 2), .int (celF xs L 3)]) (rest := [.ref o0]) ⟨hx, hb, hml, hown, hts⟩ (k_X2_init l dC dI o0 gW gC gV gB H.size (celF xs L 0) (celF xs L 1) (celF xs L 2) (celF xs L 3) ygW ygC ygV ygB) (cwI 4 hts gL_20 rfl rfl rfl (hts _ tb_4) (hts _ tb_248) (hts _ tb_249) rfl (by decide +kernel) ⟨Nat.le_of_ble_eq_true rfl, Nat.le_of_ble_eq_true rfl⟩) (xp_n nwL_ok hK hN hP hD [4] rfl rfl) rfl rfl hl.1 rfl (lv_room (Nat.le_of_ble_eq_true rfl)) dL_law_52 ⟨Nat.le_of_ble_eq_true rfl, Nat.le_of_ble_eq_true rfl⟩) hK hP hD hS hA [4] [0, 1, 2, 3] rfl rfl (by decide) (by decide) (fun u H locs hK hP hD hS => ?_)
  obtain ⟨om, ow, os, og, z1, z2, z3, z4⟩ := u
  have hP : va_P (dC, dI) vwCl [(h0, .inr (0, [.int (nI gW), .int (nI gC), .int (nI gV), .int (nI gB), .ref hs, .int (nI gM), .int (nI gI), .ref hd])), (hs, .inl (a1, gW, .inl ((fun _ => 0)))), (hd, .inr (1, [.ref hc, .int 0, .int 0, .int 0, .int 0])), (hc, .inl (a2, (gI + 4), .inl ((fun _ => 0)))), (o0, .inr (2, [.int (nI gW), .int (nI gC), .int (nI gV), .int (nI gB), .ref om, .ref ow, .ref os, .ref og, .int 0, .int 0, .int 0, .int 0, .int 0])), (om, .inl (z1, 24, .inl ((fun _ => 0)))), (ow, .inl (z2, 24, .inl ((fun _ => 0)))), (os, .inl (z3, 52, .inl ((fun _ => 0)))), (og, .inl (z4, 4, .inl ((fun _ => 0))))] H := hP
  have hD : va_D (fun q : Nat => s.heap.size ≤ q) [(h0, .inr (0, [.int (nI gW), .int (nI gC), .int (nI gV), .int (nI gB), .ref hs, .int (nI gM), .int (nI gI), .ref hd])), (hs, .inl (a1, gW, .inl ((fun _ => 0)))), (hd, .inr (1, [.ref hc, .int 0, .int 0, .int 0, .int 0])), (hc, .inl (a2, (gI + 4), .inl ((fun _ => 0)))), (o0, .inr (2, [.int (nI gW), .int (nI gC), .int (nI gV), .int (nI gB), .ref om, .ref ow, .ref os, .ref og, .int 0, .int 0, .int 0, .int 0, .int 0])), (om, .inl (z1, 24, .inl ((fun _ => 0)))), (ow, .inl (z2, 24, .inl ((fun _ => 0)))), (os, .inl (z3, 52, .inl ((fun _ => 0)))), (og, .inl (z4, 4, .inl ((fun _ => 0))))] := hD
  have hK : va_K (dC, dI) vwCl [(a1, .int), (a2, .int), (z1, .int), (z2, .int), (z3, .int), (z4, .int)] s := hK
  refine W.widen (k := 9) (n := 300) (by omega) (by omega) ?_
  refine lv_astore_n (lv' := [(2, .ref o0), (1, .ref h0), (0, .ref b)]) hx hb dL_law_55 rfl hl (by decide) rfl (fun ls hl => ?_)
  refine lv_iconst (v := 4) hx hb dL_law_56 (by decide) ?_
  refine lv_istore_n (lv' := [(3, .int 4), (2, .ref o0), (1, .ref h0), (0, .ref b)]) hx hb dL_law_57 rfl hl (by decide) rfl (fun ls hl => ?_)
  exact law_loop h0 hs hd hc a1 a2 o0 om ow os og z1 z2 z3 z4 gW gC gV gB gM gI hg hL C0 hK hN (L + 1) 4 (fun _ => 0) d0S m0S _ _ _ (by omega) (by omega) (rf_0 hg) hP hD hS (lv_sub hl [3, 2, 1, 0] rfl)
