set_option maxHeartbeats 4000000 in
set_option maxRecDepth 100000 in
theorem k_X0_isWord (l : Launch) (dC : Nat → ClassId) (dI : Nat → Nat → Nat) (h0 hs hd hc : Nat) (a1 a2 : ClassId) (gW gC gV gB gM gI : Nat) (hg : geo gW gC gV gB gM gI) (sz : Nat) (st : Nat → Int32) (d : DS) (i : Int32) : ctI nwL l yX0_isWord wsX0_isWord ({ frames := 0, cells := 0, slots := 0, locals := 0 } : Room) (dC, dI) [(a1, .int), (a2, .int)] (xo_w h0 hs hd hc a1 a2 gW gC gV gB gM gI) (st, d) sz [.ref h0, .int i] (fun (r : Int32) (u : XS) => r = inR i gW ∧ u = (st, d)) := by
  refine Met.ofW (cc := cX0_isWord) (maxL := 2) (ret := (some .boolean)) (by decide) rfl ?_
  intro p e s m args below meth c s₁ B hml hv
  obtain ⟨rfl, hsz, hP, hK, hD0, hN⟩ := hv
  have hx := B.exec
  have hb := B.bytes
  have hr := B.returns
  have hts := fun w h => atoms_spec (ws := wsX0_isWord) B.pre w (List.mem_cons_of_mem _ h)
  have hown : s.vm.findClass RX0 = some m.cls := findClass_of_methodNamed B.named
  have hlocks := B.notSynchronized
  subst hsz
  have hD := hD0.self (sz := s.heap.size)
  generalize hAe : va_A ((xo_w h0 hs hd hc a1 a2 gW gC gV gB gM gI) (st, d)) s.heap.size = A at hD ⊢
  have hA : ∀ q : Nat, s.heap.size ≤ q → A q := fun q h => by rw [← hAe]; exact Or.inr h
  have hS : va_S A s.heap s.heap [] := va_S.rf
  have hl := lv_entry ([.ref h0, .int i]) (n := 2) (Nat.le_of_ble_eq_true rfl)
  rw [lg_entry_eq]
  generalize (lg_sl ([.ref h0, .int i]) ++ List.replicate (2 - (lg_sl ([.ref h0, .int i])).length) Slot.unset).toArray = ls at hl ⊢
  have hP : va_P (dC, dI) vwCl [(h0, .inr (0, [.int (nI gW), .int (nI gC), .int (nI gV), .int (nI gB), .ref hs, .int (nI gM), .int (nI gI), .ref hd])), (hs, .inl (a1, gW, .inl st)), (hd, .inr (1, [.ref hc, .int d.2.1, .int d.2.2.1, .int d.2.2.2.1, .int d.2.2.2.2])), (hc, .inl (a2, (gI + 4), .inl d.1))] s.heap := hP
  have hD : va_D A [(h0, .inr (0, [.int (nI gW), .int (nI gC), .int (nI gV), .int (nI gB), .ref hs, .int (nI gM), .int (nI gI), .ref hd])), (hs, .inl (a1, gW, .inl st)), (hd, .inr (1, [.ref hc, .int d.2.1, .int d.2.2.1, .int d.2.2.2.1, .int d.2.2.2.2])), (hc, .inl (a2, (gI + 4), .inl d.1))] := hD
  have hl : lv_has ls 2 [(0, .ref h0), (1, .int i)] := hl
  obtain ⟨⟨hW1, hW2⟩, ⟨hC1, hC2⟩, ⟨hV1, hV2⟩, ⟨hB1, hB2⟩, eM, eI⟩ := id hg
  obtain ⟨hM2, hq2⟩ := geo_b hg
  refine lv_iload_n hx hb dX0_isWord_0 rfl (lv_at hl 1 rfl) ?_
  refine lv_if_lt (tgt := 16) hx hb dX0_isWord_1 (by decide) (fun c_1 => ?_) (fun c_1 => ?_)
  · refine lv_iconst (v := 0) hx hb dX0_isWord_16 (by decide) ?_
    exact W.zret (v := 0) hx hb hr rfl (fun t ht hW => ⟨⟨0, (st, d), rfl, ⟨by unfold inR; rw [if_pos c_1], rfl⟩, by rw [ht]; exact hP, hD⟩, hS.F ht⟩) hS.2.2 dX0_isWord_17
  · refine lv_iload_n hx hb dX0_isWord_4 rfl (lv_at hl 1 rfl) ?_
    refine lv_aload_n hx hb dX0_isWord_5 rfl (lv_at hl 0 rfl) ?_
    refine va_get (D := (dC, dI)) (ci := 0) (v := .int (nI gW)) (C := RX0) (T := TX0) (N := 8) hx hb hts inX0 hown hK hP 0 rfl rfl 0 (by decide) (hts _ tb_46) (fun _ h9 => h9) rfl dX0_isWord_6 ?_
    refine lv_icmp_ge (tgt := 16) hx hb dX0_isWord_9 (by decide) (fun c_2 => ?_) (fun c_2 => ?_)
    · refine lv_iconst (v := 0) hx hb dX0_isWord_16 (by decide) ?_
      exact W.zret (v := 0) hx hb hr rfl (fun t ht hW => ⟨⟨0, (st, d), rfl, ⟨by unfold inR; rw [if_neg c_1, if_pos c_2], rfl⟩, by rw [ht]; exact hP, hD⟩, hS.F ht⟩) hS.2.2 dX0_isWord_17
    · refine lv_iconst (v := 1) hx hb dX0_isWord_12 (by decide) ?_
      refine lv_goto (tgt := 17) hx hb dX0_isWord_13 (by decide) ?_
      exact W.zret (v := 1) hx hb hr rfl (fun t ht hW => ⟨⟨1, (st, d), rfl, ⟨by unfold inR; rw [if_neg c_1, if_neg c_2], rfl⟩, by rw [ht]; exact hP, hD⟩, hS.F ht⟩) hS.2.2 dX0_isWord_17
set_option maxHeartbeats 4000000 in
set_option maxRecDepth 100000 in
theorem k_X0_isVolume (l : Launch) (dC : Nat → ClassId) (dI : Nat → Nat → Nat) (h0 hs hd hc : Nat) (a1 a2 : ClassId) (gW gC gV gB gM gI : Nat) (hg : geo gW gC gV gB gM gI) (sz : Nat) (st : Nat → Int32) (d : DS) (i : Int32) : ctI nwL l yX0_isVolume wsX0_isVolume ({ frames := 0, cells := 0, slots := 0, locals := 0 } : Room) (dC, dI) [(a1, .int), (a2, .int)] (xo_w h0 hs hd hc a1 a2 gW gC gV gB gM gI) (st, d) sz [.ref h0, .int i] (fun (r : Int32) (u : XS) => r = inR i gV ∧ u = (st, d)) := by
  refine Met.ofW (cc := cX0_isVolume) (maxL := 2) (ret := (some .boolean)) (by decide) rfl ?_
  intro p e s m args below meth c s₁ B hml hv
  obtain ⟨rfl, hsz, hP, hK, hD0, hN⟩ := hv
  have hx := B.exec
  have hb := B.bytes
  have hr := B.returns
  have hts := fun w h => atoms_spec (ws := wsX0_isVolume) B.pre w (List.mem_cons_of_mem _ h)
  have hown : s.vm.findClass RX0 = some m.cls := findClass_of_methodNamed B.named
  have hlocks := B.notSynchronized
  subst hsz
  have hD := hD0.self (sz := s.heap.size)
  generalize hAe : va_A ((xo_w h0 hs hd hc a1 a2 gW gC gV gB gM gI) (st, d)) s.heap.size = A at hD ⊢
  have hA : ∀ q : Nat, s.heap.size ≤ q → A q := fun q h => by rw [← hAe]; exact Or.inr h
  have hS : va_S A s.heap s.heap [] := va_S.rf
  have hl := lv_entry ([.ref h0, .int i]) (n := 2) (Nat.le_of_ble_eq_true rfl)
  rw [lg_entry_eq]
  generalize (lg_sl ([.ref h0, .int i]) ++ List.replicate (2 - (lg_sl ([.ref h0, .int i])).length) Slot.unset).toArray = ls at hl ⊢
  have hP : va_P (dC, dI) vwCl [(h0, .inr (0, [.int (nI gW), .int (nI gC), .int (nI gV), .int (nI gB), .ref hs, .int (nI gM), .int (nI gI), .ref hd])), (hs, .inl (a1, gW, .inl st)), (hd, .inr (1, [.ref hc, .int d.2.1, .int d.2.2.1, .int d.2.2.2.1, .int d.2.2.2.2])), (hc, .inl (a2, (gI + 4), .inl d.1))] s.heap := hP
  have hD : va_D A [(h0, .inr (0, [.int (nI gW), .int (nI gC), .int (nI gV), .int (nI gB), .ref hs, .int (nI gM), .int (nI gI), .ref hd])), (hs, .inl (a1, gW, .inl st)), (hd, .inr (1, [.ref hc, .int d.2.1, .int d.2.2.1, .int d.2.2.2.1, .int d.2.2.2.2])), (hc, .inl (a2, (gI + 4), .inl d.1))] := hD
  have hl : lv_has ls 2 [(0, .ref h0), (1, .int i)] := hl
  obtain ⟨⟨hW1, hW2⟩, ⟨hC1, hC2⟩, ⟨hV1, hV2⟩, ⟨hB1, hB2⟩, eM, eI⟩ := id hg
  obtain ⟨hM2, hq2⟩ := geo_b hg
  refine lv_iload_n hx hb dX0_isVolume_0 rfl (lv_at hl 1 rfl) ?_
  refine lv_if_lt (tgt := 16) hx hb dX0_isVolume_1 (by decide) (fun c_1 => ?_) (fun c_1 => ?_)
  · refine lv_iconst (v := 0) hx hb dX0_isVolume_16 (by decide) ?_
    exact W.zret (v := 0) hx hb hr rfl (fun t ht hW => ⟨⟨0, (st, d), rfl, ⟨by unfold inR; rw [if_pos c_1], rfl⟩, by rw [ht]; exact hP, hD⟩, hS.F ht⟩) hS.2.2 dX0_isVolume_17
  · refine lv_iload_n hx hb dX0_isVolume_4 rfl (lv_at hl 1 rfl) ?_
    refine lv_aload_n hx hb dX0_isVolume_5 rfl (lv_at hl 0 rfl) ?_
    refine va_get (D := (dC, dI)) (ci := 0) (v := .int (nI gV)) (C := RX0) (T := TX0) (N := 8) hx hb hts inX0 hown hK hP 0 rfl rfl 2 (by decide) (hts _ tb_48) (fun _ h9 => h9) rfl dX0_isVolume_6 ?_
    refine lv_icmp_ge (tgt := 16) hx hb dX0_isVolume_9 (by decide) (fun c_2 => ?_) (fun c_2 => ?_)
    · refine lv_iconst (v := 0) hx hb dX0_isVolume_16 (by decide) ?_
      exact W.zret (v := 0) hx hb hr rfl (fun t ht hW => ⟨⟨0, (st, d), rfl, ⟨by unfold inR; rw [if_neg c_1, if_pos c_2], rfl⟩, by rw [ht]; exact hP, hD⟩, hS.F ht⟩) hS.2.2 dX0_isVolume_17
    · refine lv_iconst (v := 1) hx hb dX0_isVolume_12 (by decide) ?_
      refine lv_goto (tgt := 17) hx hb dX0_isVolume_13 (by decide) ?_
      exact W.zret (v := 1) hx hb hr rfl (fun t ht hW => ⟨⟨1, (st, d), rfl, ⟨by unfold inR; rw [if_neg c_1, if_neg c_2], rfl⟩, by rw [ht]; exact hP, hD⟩, hS.F ht⟩) hS.2.2 dX0_isVolume_17
set_option maxHeartbeats 4000000 in
set_option maxRecDepth 100000 in
theorem k_X0_isBlock (l : Launch) (dC : Nat → ClassId) (dI : Nat → Nat → Nat) (h0 hs hd hc : Nat) (a1 a2 : ClassId) (gW gC gV gB gM gI : Nat) (hg : geo gW gC gV gB gM gI) (sz : Nat) (st : Nat → Int32) (d : DS) (v b : Int32) : ctI nwL l yX0_isBlock wsX0_isBlock ({ frames := 1, cells := 0, slots := 0, locals := 21 } : Room) (dC, dI) [(a1, .int), (a2, .int)] (xo_w h0 hs hd hc a1 a2 gW gC gV gB gM gI) (st, d) sz [.ref h0, .int v, .int b] (fun (r : Int32) (u : XS) => r = inB v b gV gB ∧ u = (st, d)) := by
  refine Met.ofW (cc := cX0_isBlock) (maxL := 3) (ret := (some .boolean)) (by decide) rfl ?_
  intro p e s m args below meth c s₁ B hml hv
  obtain ⟨rfl, hsz, hP, hK, hD0, hN⟩ := hv
  have hx := B.exec
  have hb := B.bytes
  have hr := B.returns
  have hts := fun w h => atoms_spec (ws := wsX0_isBlock) B.pre w (List.mem_cons_of_mem _ h)
  have hown : s.vm.findClass RX0 = some m.cls := findClass_of_methodNamed B.named
  have hlocks := B.notSynchronized
  subst hsz
  have hD := hD0.self (sz := s.heap.size)
  generalize hAe : va_A ((xo_w h0 hs hd hc a1 a2 gW gC gV gB gM gI) (st, d)) s.heap.size = A at hD ⊢
  have hA : ∀ q : Nat, s.heap.size ≤ q → A q := fun q h => by rw [← hAe]; exact Or.inr h
  have hS : va_S A s.heap s.heap [] := va_S.rf
  have hl := lv_entry ([.ref h0, .int v, .int b]) (n := 3) (Nat.le_of_ble_eq_true rfl)
  rw [lg_entry_eq]
  generalize (lg_sl ([.ref h0, .int v, .int b]) ++ List.replicate (3 - (lg_sl ([.ref h0, .int v, .int b])).length) Slot.unset).toArray = ls at hl ⊢
  have hP : va_P (dC, dI) vwCl [(h0, .inr (0, [.int (nI gW), .int (nI gC), .int (nI gV), .int (nI gB), .ref hs, .int (nI gM), .int (nI gI), .ref hd])), (hs, .inl (a1, gW, .inl st)), (hd, .inr (1, [.ref hc, .int d.2.1, .int d.2.2.1, .int d.2.2.2.1, .int d.2.2.2.2])), (hc, .inl (a2, (gI + 4), .inl d.1))] s.heap := hP
  have hD : va_D A [(h0, .inr (0, [.int (nI gW), .int (nI gC), .int (nI gV), .int (nI gB), .ref hs, .int (nI gM), .int (nI gI), .ref hd])), (hs, .inl (a1, gW, .inl st)), (hd, .inr (1, [.ref hc, .int d.2.1, .int d.2.2.1, .int d.2.2.2.1, .int d.2.2.2.2])), (hc, .inl (a2, (gI + 4), .inl d.1))] := hD
  have hl : lv_has ls 3 [(0, .ref h0), (1, .int v), (2, .int b)] := hl
  obtain ⟨⟨hW1, hW2⟩, ⟨hC1, hC2⟩, ⟨hV1, hV2⟩, ⟨hB1, hB2⟩, eM, eI⟩ := id hg
  obtain ⟨hM2, hq2⟩ := geo_b hg
  refine lv_aload_n hx hb dX0_isBlock_0 rfl (lv_at hl 0 rfl) ?_
  refine lv_iload_n hx hb dX0_isBlock_1 rfl (lv_at hl 1 rfl) ?_
  refine xr_i (D := (dC, dI)) (wf := (xo_w h0 hs hd hc a1 a2 gW gC gV gB gM gI)) (u0 := (st, d)) (wr := []) (va_runV (As := [.int v]) (rest := []) ⟨hx, hb, hml, hown, hts⟩ (k_X0_isVolume l dC dI h0 hs hd hc a1 a2 gW gC gV gB gM gI hg s.heap.size st d v) (cwV 1 hts gX0_84 rfl rfl rfl (by decide +kernel) ⟨Nat.le_of_ble_eq_true rfl, Nat.le_of_ble_eq_true rfl⟩) (xp_v nwL_ok hK hN hP hD [0, 1, 2, 3] rfl rfl (va_recv hK hP (ci := 0) (q0 := 0) rfl rfl)) rfl rfl hl.1 rfl (lv_room (Nat.le_of_ble_eq_true rfl)) dX0_isBlock_2 ⟨Nat.zero_le _, Nat.zero_le _⟩) hP hD hS hA [0, 1, 2, 3] [] rfl rfl (by decide) (by decide) (fun r_1 u_2 H locs hw hP hD hS => ?_)
  obtain ⟨er_1, eu_2⟩ := hw
  rw [eu_2] at hP hD
  rw [er_1]
  have hP : va_P (dC, dI) vwCl [(h0, .inr (0, [.int (nI gW), .int (nI gC), .int (nI gV), .int (nI gB), .ref hs, .int (nI gM), .int (nI gI), .ref hd])), (hs, .inl (a1, gW, .inl st)), (hd, .inr (1, [.ref hc, .int d.2.1, .int d.2.2.1, .int d.2.2.2.1, .int d.2.2.2.2])), (hc, .inl (a2, (gI + 4), .inl d.1))] H := hP
  have hD : va_D A [(h0, .inr (0, [.int (nI gW), .int (nI gC), .int (nI gV), .int (nI gB), .ref hs, .int (nI gM), .int (nI gI), .ref hd])), (hs, .inl (a1, gW, .inl st)), (hd, .inr (1, [.ref hc, .int d.2.1, .int d.2.2.1, .int d.2.2.2.1, .int d.2.2.2.2])), (hc, .inl (a2, (gI + 4), .inl d.1))] := hD
  refine lv_if_eq (tgt := 24) hx hb dX0_isBlock_5 (by decide) (fun c_3 => ?_) (fun c_3 => ?_)
  · refine lv_iconst (v := 0) hx hb dX0_isBlock_24 (by decide) ?_
    exact W.zret (v := 0) hx hb hr rfl (fun t ht hW => ⟨⟨0, (st, d), rfl, ⟨by unfold inB; rw [if_pos c_3], rfl⟩, by rw [ht]; exact hP, hD⟩, hS.F ht⟩) hS.2.2 dX0_isBlock_25
  · refine lv_iload_n hx hb dX0_isBlock_8 rfl (lv_at hl 2 rfl) ?_
    refine lv_if_lt (tgt := 24) hx hb dX0_isBlock_9 (by decide) (fun c_4 => ?_) (fun c_4 => ?_)
    · refine lv_iconst (v := 0) hx hb dX0_isBlock_24 (by decide) ?_
      exact W.zret (v := 0) hx hb hr rfl (fun t ht hW => ⟨⟨0, (st, d), rfl, ⟨by unfold inB; rw [if_neg c_3]; unfold inR; rw [if_pos c_4], rfl⟩, by rw [ht]; exact hP, hD⟩, hS.F ht⟩) hS.2.2 dX0_isBlock_25
    · refine lv_iload_n hx hb dX0_isBlock_12 rfl (lv_at hl 2 rfl) ?_
      refine lv_aload_n hx hb dX0_isBlock_13 rfl (lv_at hl 0 rfl) ?_
      refine va_get (D := (dC, dI)) (ci := 0) (v := .int (nI gB)) (C := RX0) (T := TX0) (N := 8) hx hb hts inX0 hown hK hP 0 rfl rfl 3 (by decide) (hts _ tb_49) (fun _ h9 => h9) rfl dX0_isBlock_14 ?_
      refine lv_icmp_ge (tgt := 24) hx hb dX0_isBlock_17 (by decide) (fun c_5 => ?_) (fun c_5 => ?_)
      · refine lv_iconst (v := 0) hx hb dX0_isBlock_24 (by decide) ?_
        exact W.zret (v := 0) hx hb hr rfl (fun t ht hW => ⟨⟨0, (st, d), rfl, ⟨by unfold inB; rw [if_neg c_3]; unfold inR; rw [if_neg c_4, if_pos c_5], rfl⟩, by rw [ht]; exact hP, hD⟩, hS.F ht⟩) hS.2.2 dX0_isBlock_25
      · refine lv_iconst (v := 1) hx hb dX0_isBlock_20 (by decide) ?_
        refine lv_goto (tgt := 25) hx hb dX0_isBlock_21 (by decide) ?_
        exact W.zret (v := 1) hx hb hr rfl (fun t ht hW => ⟨⟨1, (st, d), rfl, ⟨by unfold inB; rw [if_neg c_3]; unfold inR; rw [if_neg c_4, if_neg c_5], rfl⟩, by rw [ht]; exact hP, hD⟩, hS.F ht⟩) hS.2.2 dX0_isBlock_25
set_option maxHeartbeats 4000000 in
set_option maxRecDepth 100000 in
theorem k_X0_slotCell (l : Launch) (dC : Nat → ClassId) (dI : Nat → Nat → Nat) (h0 hs hd hc : Nat) (a1 a2 : ClassId) (gW gC gV gB gM gI : Nat) (hg : geo gW gC gV gB gM gI) (sz : Nat) (st : Nat → Int32) (d : DS) (k i : Nat) : ctI nwL l yX0_slotCell wsX0_slotCell ({ frames := 0, cells := 0, slots := 0, locals := 0 } : Room) (dC, dI) [(a1, .int), (a2, .int)] (xo_w h0 hs hd hc a1 a2 gW gC gV gB gM gI) (st, d) sz [.ref h0, .int (nI k), .int (nI i)] (fun (r : Int32) (u : XS) => r = nI (k * gW + i) ∧ u = (st, d)) := by
  refine Met.ofW (cc := cX0_slotCell) (maxL := 3) (ret := (some .int)) (by decide) rfl ?_
  intro p e s m args below meth c s₁ B hml hv
  obtain ⟨rfl, hsz, hP, hK, hD0, hN⟩ := hv
  have hx := B.exec
  have hb := B.bytes
  have hr := B.returns
  have hts := fun w h => atoms_spec (ws := wsX0_slotCell) B.pre w (List.mem_cons_of_mem _ h)
  have hown : s.vm.findClass RX0 = some m.cls := findClass_of_methodNamed B.named
  have hlocks := B.notSynchronized
  subst hsz
  have hD := hD0.self (sz := s.heap.size)
  generalize hAe : va_A ((xo_w h0 hs hd hc a1 a2 gW gC gV gB gM gI) (st, d)) s.heap.size = A at hD ⊢
  have hA : ∀ q : Nat, s.heap.size ≤ q → A q := fun q h => by rw [← hAe]; exact Or.inr h
  have hS : va_S A s.heap s.heap [] := va_S.rf
  have hl := lv_entry ([.ref h0, .int (nI k), .int (nI i)]) (n := 3) (Nat.le_of_ble_eq_true rfl)
  rw [lg_entry_eq]
  generalize (lg_sl ([.ref h0, .int (nI k), .int (nI i)]) ++ List.replicate (3 - (lg_sl ([.ref h0, .int (nI k), .int (nI i)])).length) Slot.unset).toArray = ls at hl ⊢
  have hP : va_P (dC, dI) vwCl [(h0, .inr (0, [.int (nI gW), .int (nI gC), .int (nI gV), .int (nI gB), .ref hs, .int (nI gM), .int (nI gI), .ref hd])), (hs, .inl (a1, gW, .inl st)), (hd, .inr (1, [.ref hc, .int d.2.1, .int d.2.2.1, .int d.2.2.2.1, .int d.2.2.2.2])), (hc, .inl (a2, (gI + 4), .inl d.1))] s.heap := hP
  have hD : va_D A [(h0, .inr (0, [.int (nI gW), .int (nI gC), .int (nI gV), .int (nI gB), .ref hs, .int (nI gM), .int (nI gI), .ref hd])), (hs, .inl (a1, gW, .inl st)), (hd, .inr (1, [.ref hc, .int d.2.1, .int d.2.2.1, .int d.2.2.2.1, .int d.2.2.2.2])), (hc, .inl (a2, (gI + 4), .inl d.1))] := hD
  have hl : lv_has ls 3 [(0, .ref h0), (1, .int (nI k)), (2, .int (nI i))] := hl
  obtain ⟨⟨hW1, hW2⟩, ⟨hC1, hC2⟩, ⟨hV1, hV2⟩, ⟨hB1, hB2⟩, eM, eI⟩ := id hg
  obtain ⟨hM2, hq2⟩ := geo_b hg
  refine lv_iload_n hx hb dX0_slotCell_0 rfl (lv_at hl 1 rfl) ?_
  refine lv_aload_n hx hb dX0_slotCell_1 rfl (lv_at hl 0 rfl) ?_
  refine va_get (D := (dC, dI)) (ci := 0) (v := .int (nI gW)) (C := RX0) (T := TX0) (N := 8) hx hb hts inX0 hown hK hP 0 rfl rfl 0 (by decide) (hts _ tb_46) (fun _ h9 => h9) rfl dX0_slotCell_2 ?_
  refine lv_imul hx hb dX0_slotCell_5 ?_
  refine lv_topi (fun z_1 ez_1 => ?_)
  obtain rfl : z_1 = nI (k * gW) := ez_1.trans (pk_mul k gW)
  refine lv_iload_n hx hb dX0_slotCell_6 rfl (lv_at hl 2 rfl) ?_
  refine lv_iadd hx hb dX0_slotCell_7 ?_
  refine lv_topi (fun z_2 ez_2 => ?_)
  obtain rfl : z_2 = nI (k * gW + i) := ez_2.trans (nI_add (k * gW) i)
  exact W.iret (v := nI (k * gW + i)) hx hb hr (fun t ht hW => ⟨⟨nI (k * gW + i), (st, d), rfl, ⟨rfl, rfl⟩, by rw [ht]; exact hP, hD⟩, hS.F ht⟩) hS.2.2 dX0_slotCell_8
set_option maxHeartbeats 4000000 in
set_option maxRecDepth 100000 in
theorem k_X0_mapCell (l : Launch) (dC : Nat → ClassId) (dI : Nat → Nat → Nat) (h0 hs hd hc : Nat) (a1 a2 : ClassId) (gW gC gV gB gM gI : Nat) (hg : geo gW gC gV gB gM gI) (sz : Nat) (st : Nat → Int32) (d : DS) (v b : Nat) : ctI nwL l yX0_mapCell wsX0_mapCell ({ frames := 0, cells := 0, slots := 0, locals := 0 } : Room) (dC, dI) [(a1, .int), (a2, .int)] (xo_w h0 hs hd hc a1 a2 gW gC gV gB gM gI) (st, d) sz [.ref h0, .int (nI v), .int (nI b)] (fun (r : Int32) (u : XS) => r = nI (gM + v * gB + b) ∧ u = (st, d)) := by
  refine Met.ofW (cc := cX0_mapCell) (maxL := 3) (ret := (some .int)) (by decide) rfl ?_
  intro p e s m args below meth c s₁ B hml hv
  obtain ⟨rfl, hsz, hP, hK, hD0, hN⟩ := hv
  have hx := B.exec
  have hb := B.bytes
  have hr := B.returns
  have hts := fun w h => atoms_spec (ws := wsX0_mapCell) B.pre w (List.mem_cons_of_mem _ h)
  have hown : s.vm.findClass RX0 = some m.cls := findClass_of_methodNamed B.named
  have hlocks := B.notSynchronized
  subst hsz
  have hD := hD0.self (sz := s.heap.size)
  generalize hAe : va_A ((xo_w h0 hs hd hc a1 a2 gW gC gV gB gM gI) (st, d)) s.heap.size = A at hD ⊢
  have hA : ∀ q : Nat, s.heap.size ≤ q → A q := fun q h => by rw [← hAe]; exact Or.inr h
  have hS : va_S A s.heap s.heap [] := va_S.rf
  have hl := lv_entry ([.ref h0, .int (nI v), .int (nI b)]) (n := 3) (Nat.le_of_ble_eq_true rfl)
  rw [lg_entry_eq]
  generalize (lg_sl ([.ref h0, .int (nI v), .int (nI b)]) ++ List.replicate (3 - (lg_sl ([.ref h0, .int (nI v), .int (nI b)])).length) Slot.unset).toArray = ls at hl ⊢
  have hP : va_P (dC, dI) vwCl [(h0, .inr (0, [.int (nI gW), .int (nI gC), .int (nI gV), .int (nI gB), .ref hs, .int (nI gM), .int (nI gI), .ref hd])), (hs, .inl (a1, gW, .inl st)), (hd, .inr (1, [.ref hc, .int d.2.1, .int d.2.2.1, .int d.2.2.2.1, .int d.2.2.2.2])), (hc, .inl (a2, (gI + 4), .inl d.1))] s.heap := hP
  have hD : va_D A [(h0, .inr (0, [.int (nI gW), .int (nI gC), .int (nI gV), .int (nI gB), .ref hs, .int (nI gM), .int (nI gI), .ref hd])), (hs, .inl (a1, gW, .inl st)), (hd, .inr (1, [.ref hc, .int d.2.1, .int d.2.2.1, .int d.2.2.2.1, .int d.2.2.2.2])), (hc, .inl (a2, (gI + 4), .inl d.1))] := hD
  have hl : lv_has ls 3 [(0, .ref h0), (1, .int (nI v)), (2, .int (nI b))] := hl
  obtain ⟨⟨hW1, hW2⟩, ⟨hC1, hC2⟩, ⟨hV1, hV2⟩, ⟨hB1, hB2⟩, eM, eI⟩ := id hg
  obtain ⟨hM2, hq2⟩ := geo_b hg
  refine lv_aload_n hx hb dX0_mapCell_0 rfl (lv_at hl 0 rfl) ?_
  refine va_get (D := (dC, dI)) (ci := 0) (v := .int (nI gM)) (C := RX0) (T := TX0) (N := 8) hx hb hts inX0 hown hK hP 0 rfl rfl 5 (by decide) (hts _ tb_51) (fun _ h9 => h9) rfl dX0_mapCell_1 ?_
  refine lv_iload_n hx hb dX0_mapCell_4 rfl (lv_at hl 1 rfl) ?_
  refine lv_aload_n hx hb dX0_mapCell_5 rfl (lv_at hl 0 rfl) ?_
  refine va_get (D := (dC, dI)) (ci := 0) (v := .int (nI gB)) (C := RX0) (T := TX0) (N := 8) hx hb hts inX0 hown hK hP 0 rfl rfl 3 (by decide) (hts _ tb_49) (fun _ h9 => h9) rfl dX0_mapCell_6 ?_
  refine lv_imul hx hb dX0_mapCell_9 ?_
  refine lv_topi (fun z_1 ez_1 => ?_)
  obtain rfl : z_1 = nI (v * gB) := ez_1.trans (pk_mul v gB)
  refine lv_iadd hx hb dX0_mapCell_10 ?_
  refine lv_topi (fun z_2 ez_2 => ?_)
  obtain rfl : z_2 = nI (gM + v * gB) := ez_2.trans (nI_add gM (v * gB))
  refine lv_iload_n hx hb dX0_mapCell_11 rfl (lv_at hl 2 rfl) ?_
  refine lv_iadd hx hb dX0_mapCell_12 ?_
  refine lv_topi (fun z_3 ez_3 => ?_)
  obtain rfl : z_3 = nI (gM + v * gB + b) := ez_3.trans (nI_add (gM + v * gB) b)
  exact W.iret (v := nI (gM + v * gB + b)) hx hb hr (fun t ht hW => ⟨⟨nI (gM + v * gB + b), (st, d), rfl, ⟨rfl, rfl⟩, by rw [ht]; exact hP, hD⟩, hS.F ht⟩) hS.2.2 dX0_mapCell_13
set_option maxHeartbeats 4000000 in
set_option maxRecDepth 100000 in
theorem k_X0_mappedSlot (l : Launch) (dC : Nat → ClassId) (dI : Nat → Nat → Nat) (h0 hs hd hc : Nat) (a1 a2 : ClassId) (gW gC gV gB gM gI : Nat) (hg : geo gW gC gV gB gM gI) (sz : Nat) (st : Nat → Int32) (d : DS) (v b : Nat) (hv : v < gV) (hb9 : b < gB) : ctI nwL l yX0_mappedSlot wsX0_mappedSlot ({ frames := 1, cells := 0, slots := 0, locals := 22 } : Room) (dC, dI) [(a1, .int), (a2, .int)] (xo_w h0 hs hd hc a1 a2 gW gC gV gB gM gI) (st, d) sz [.ref h0, .int (nI v), .int (nI b)] (fun (r : Int32) (u : XS) => r = d.1 (gM + v * gB + b) - 1 ∧ u = (st, d)) := by
  refine Met.ofW (cc := cX0_mappedSlot) (maxL := 3) (ret := (some .int)) (by decide) rfl ?_
  intro p e s m args below meth c s₁ B hml hv
  obtain ⟨rfl, hsz, hP, hK, hD0, hN⟩ := hv
  have hx := B.exec
  have hb := B.bytes
  have hr := B.returns
  have hts := fun w h => atoms_spec (ws := wsX0_mappedSlot) B.pre w (List.mem_cons_of_mem _ h)
  have hown : s.vm.findClass RX0 = some m.cls := findClass_of_methodNamed B.named
  have hlocks := B.notSynchronized
  subst hsz
  have hD := hD0.self (sz := s.heap.size)
  generalize hAe : va_A ((xo_w h0 hs hd hc a1 a2 gW gC gV gB gM gI) (st, d)) s.heap.size = A at hD ⊢
  have hA : ∀ q : Nat, s.heap.size ≤ q → A q := fun q h => by rw [← hAe]; exact Or.inr h
  have hS : va_S A s.heap s.heap [] := va_S.rf
  have hl := lv_entry ([.ref h0, .int (nI v), .int (nI b)]) (n := 3) (Nat.le_of_ble_eq_true rfl)
  rw [lg_entry_eq]
  generalize (lg_sl ([.ref h0, .int (nI v), .int (nI b)]) ++ List.replicate (3 - (lg_sl ([.ref h0, .int (nI v), .int (nI b)])).length) Slot.unset).toArray = ls at hl ⊢
  have hP : va_P (dC, dI) vwCl [(h0, .inr (0, [.int (nI gW), .int (nI gC), .int (nI gV), .int (nI gB), .ref hs, .int (nI gM), .int (nI gI), .ref hd])), (hs, .inl (a1, gW, .inl st)), (hd, .inr (1, [.ref hc, .int d.2.1, .int d.2.2.1, .int d.2.2.2.1, .int d.2.2.2.2])), (hc, .inl (a2, (gI + 4), .inl d.1))] s.heap := hP
  have hD : va_D A [(h0, .inr (0, [.int (nI gW), .int (nI gC), .int (nI gV), .int (nI gB), .ref hs, .int (nI gM), .int (nI gI), .ref hd])), (hs, .inl (a1, gW, .inl st)), (hd, .inr (1, [.ref hc, .int d.2.1, .int d.2.2.1, .int d.2.2.2.1, .int d.2.2.2.2])), (hc, .inl (a2, (gI + 4), .inl d.1))] := hD
  have hl : lv_has ls 3 [(0, .ref h0), (1, .int (nI v)), (2, .int (nI b))] := hl
  obtain ⟨⟨hW1, hW2⟩, ⟨hC1, hC2⟩, ⟨hV1, hV2⟩, ⟨hB1, hB2⟩, eM, eI⟩ := id hg
  obtain ⟨hM2, hq2⟩ := geo_b hg
  have hvb := ix_lt hv hb9
  refine lv_aload_n hx hb dX0_mappedSlot_0 rfl (lv_at hl 0 rfl) ?_
  refine va_get (D := (dC, dI)) (ci := 0) (v := .ref hd) (C := RX0) (T := TX0) (N := 8) hx hb hts inX0 hown hK hP 0 rfl rfl 7 (by decide) (hts _ tb_53) (fun _ h9 => h9) rfl dX0_mappedSlot_1 ?_
  refine lv_aload_n hx hb dX0_mappedSlot_4 rfl (lv_at hl 0 rfl) ?_
  refine lv_iload_n hx hb dX0_mappedSlot_5 rfl (lv_at hl 1 rfl) ?_
  refine lv_iload_n hx hb dX0_mappedSlot_6 rfl (lv_at hl 2 rfl) ?_
  refine xr_i (D := (dC, dI)) (wf := (xo_w h0 hs hd hc a1 a2 gW gC gV gB gM gI)) (u0 := (st, d)) (wr := []) (va_runV (As := [.int (nI v), .int (nI b)]) (rest := [.ref hd]) ⟨hx, hb, hml, hown, hts⟩ (k_X0_mapCell l dC dI h0 hs hd hc a1 a2 gW gC gV gB gM gI hg s.heap.size st d v b) (cwV 2 hts gX0_113 rfl rfl rfl (by decide +kernel) ⟨Nat.le_of_ble_eq_true rfl, Nat.le_of_ble_eq_true rfl⟩) (xp_v nwL_ok hK hN hP hD [0, 1, 2, 3] rfl rfl (va_recv hK hP (ci := 0) (q0 := 0) rfl rfl)) rfl rfl hl.1 rfl (lv_room (Nat.le_of_ble_eq_true rfl)) dX0_mappedSlot_7 ⟨Nat.zero_le _, Nat.zero_le _⟩) hP hD hS hA [0, 1, 2, 3] [] rfl rfl (by decide) (by decide) (fun r_1 u_2 H locs hw hP hD hS => ?_)
  obtain ⟨er_1, eu_2⟩ := hw
  rw [eu_2] at hP hD
  rw [er_1]
  have hP : va_P (dC, dI) vwCl [(h0, .inr (0, [.int (nI gW), .int (nI gC), .int (nI gV), .int (nI gB), .ref hs, .int (nI gM), .int (nI gI), .ref hd])), (hs, .inl (a1, gW, .inl st)), (hd, .inr (1, [.ref hc, .int d.2.1, .int d.2.2.1, .int d.2.2.2.1, .int d.2.2.2.2])), (hc, .inl (a2, (gI + 4), .inl d.1))] H := hP
  have hD : va_D A [(h0, .inr (0, [.int (nI gW), .int (nI gC), .int (nI gV), .int (nI gB), .ref hs, .int (nI gM), .int (nI gI), .ref hd])), (hs, .inl (a1, gW, .inl st)), (hd, .inr (1, [.ref hc, .int d.2.1, .int d.2.2.1, .int d.2.2.2.1, .int d.2.2.2.2])), (hc, .inl (a2, (gI + 4), .inl d.1))] := hD
  refine xr_i (D := (dC, dI)) (wf := (dk_w hd hc a2 (gI + 4))) (u0 := d) (wr := [(h0, .inr (0, [.int (nI gW), .int (nI gC), .int (nI gV), .int (nI gB), .ref hs, .int (nI gM), .int (nI gI), .ref hd])), (hs, .inl (a1, gW, .inl st))]) (va_runVN (As := [.int (nI (gM + v * gB + b))]) (rest := []) ⟨hx, hb, hml, hown, hts⟩ (k_X1_read l dC dI hd hc a2 (gI + 4) (by omega) H.size d (gM + v * gB + b) (by omega)) ⟨va_cnB 1 hts gX0_80 rfl rfl rfl (hN _ nn_80) (hts _ tb_3) (by decide +kernel) ⟨Nat.le_of_ble_eq_true rfl, Nat.le_of_ble_eq_true rfl⟩, hts _ tb_125, hts _ ts_9⟩ (xp_v nwL_ok (hK.sub (tys' := [(a2, .int)]) [1] rfl) hN hP hD [2, 3] rfl rfl (va_recv hK hP (ci := 1) (q0 := 2) rfl rfl)) rfl rfl hl.1 rfl (lv_room (Nat.le_of_ble_eq_true rfl)) dX0_mappedSlot_10 ⟨Nat.zero_le _, Nat.zero_le _⟩) hP hD hS hA [2, 3] [0, 1] rfl rfl (by decide) (by decide) (fun r_3 u_4 H locs hw hP hD hS => ?_)
  obtain ⟨er_3, eu_4⟩ := hw
  rw [eu_4] at hP hD
  rw [er_3]
  have hP : va_P (dC, dI) vwCl [(h0, .inr (0, [.int (nI gW), .int (nI gC), .int (nI gV), .int (nI gB), .ref hs, .int (nI gM), .int (nI gI), .ref hd])), (hs, .inl (a1, gW, .inl st)), (hd, .inr (1, [.ref hc, .int d.2.1, .int d.2.2.1, .int d.2.2.2.1, .int d.2.2.2.2])), (hc, .inl (a2, (gI + 4), .inl d.1))] H := hP
  have hD : va_D A [(h0, .inr (0, [.int (nI gW), .int (nI gC), .int (nI gV), .int (nI gB), .ref hs, .int (nI gM), .int (nI gI), .ref hd])), (hs, .inl (a1, gW, .inl st)), (hd, .inr (1, [.ref hc, .int d.2.1, .int d.2.2.1, .int d.2.2.2.1, .int d.2.2.2.2])), (hc, .inl (a2, (gI + 4), .inl d.1))] := hD
  refine lv_iconst (v := 1) hx hb dX0_mappedSlot_13 (by decide) ?_
  refine lv_isub hx hb dX0_mappedSlot_14 ?_
  exact W.iret (v := d.1 (gM + v * gB + b) - 1) hx hb hr (fun t ht hW => ⟨⟨d.1 (gM + v * gB + b) - 1, (st, d), rfl, ⟨rfl, rfl⟩, by rw [ht]; exact hP, hD⟩, hS.F ht⟩) hS.2.2 dX0_mappedSlot_15
set_option maxHeartbeats 4000000 in
set_option maxRecDepth 100000 in
theorem k_X0_mapBlock (l : Launch) (dC : Nat → ClassId) (dI : Nat → Nat → Nat) (h0 hs hd hc : Nat) (a1 a2 : ClassId) (gW gC gV gB gM gI : Nat) (hg : geo gW gC gV gB gM gI) (sz : Nat) (st : Nat → Int32) (d : DS) (v b : Nat) (hv : v < gV) (hb9 : b < gB) (k : Int32) : ctV nwL l yX0_mapBlock wsX0_mapBlock ({ frames := 1, cells := 0, slots := 0, locals := 22 } : Room) (dC, dI) [(a1, .int), (a2, .int)] (xo_w h0 hs hd hc a1 a2 gW gC gV gB gM gI) (st, d) sz [.ref h0, .int (nI v), .int (nI b), .int k] (fun (u : XS) => u = (st, dk_write d (gM + v * gB + b) (k + 1))) := by
  refine Met.ofW (cc := cX0_mapBlock) (maxL := 4) (ret := none) (by decide) rfl ?_
  intro p e s m args below meth c s₁ B hml hv
  obtain ⟨rfl, hsz, hP, hK, hD0, hN⟩ := hv
  have hx := B.exec
  have hb := B.bytes
  have hr := B.returns
  have hts := fun w h => atoms_spec (ws := wsX0_mapBlock) B.pre w (List.mem_cons_of_mem _ h)
  have hown : s.vm.findClass RX0 = some m.cls := findClass_of_methodNamed B.named
  have hlocks := B.notSynchronized
  subst hsz
  have hD := hD0.self (sz := s.heap.size)
  generalize hAe : va_A ((xo_w h0 hs hd hc a1 a2 gW gC gV gB gM gI) (st, d)) s.heap.size = A at hD ⊢
  have hA : ∀ q : Nat, s.heap.size ≤ q → A q := fun q h => by rw [← hAe]; exact Or.inr h
  have hS : va_S A s.heap s.heap [] := va_S.rf
  have hl := lv_entry ([.ref h0, .int (nI v), .int (nI b), .int k]) (n := 4) (Nat.le_of_ble_eq_true rfl)
  rw [lg_entry_eq]
  generalize (lg_sl ([.ref h0, .int (nI v), .int (nI b), .int k]) ++ List.replicate (4 - (lg_sl ([.ref h0, .int (nI v), .int (nI b), .int k])).length) Slot.unset).toArray = ls at hl ⊢
  have hP : va_P (dC, dI) vwCl [(h0, .inr (0, [.int (nI gW), .int (nI gC), .int (nI gV), .int (nI gB), .ref hs, .int (nI gM), .int (nI gI), .ref hd])), (hs, .inl (a1, gW, .inl st)), (hd, .inr (1, [.ref hc, .int d.2.1, .int d.2.2.1, .int d.2.2.2.1, .int d.2.2.2.2])), (hc, .inl (a2, (gI + 4), .inl d.1))] s.heap := hP
  have hD : va_D A [(h0, .inr (0, [.int (nI gW), .int (nI gC), .int (nI gV), .int (nI gB), .ref hs, .int (nI gM), .int (nI gI), .ref hd])), (hs, .inl (a1, gW, .inl st)), (hd, .inr (1, [.ref hc, .int d.2.1, .int d.2.2.1, .int d.2.2.2.1, .int d.2.2.2.2])), (hc, .inl (a2, (gI + 4), .inl d.1))] := hD
  have hl : lv_has ls 4 [(0, .ref h0), (1, .int (nI v)), (2, .int (nI b)), (3, .int k)] := hl
  obtain ⟨⟨hW1, hW2⟩, ⟨hC1, hC2⟩, ⟨hV1, hV2⟩, ⟨hB1, hB2⟩, eM, eI⟩ := id hg
  obtain ⟨hM2, hq2⟩ := geo_b hg
  have hvb := ix_lt hv hb9
  refine lv_aload_n hx hb dX0_mapBlock_0 rfl (lv_at hl 0 rfl) ?_
  refine va_get (D := (dC, dI)) (ci := 0) (v := .ref hd) (C := RX0) (T := TX0) (N := 8) hx hb hts inX0 hown hK hP 0 rfl rfl 7 (by decide) (hts _ tb_53) (fun _ h9 => h9) rfl dX0_mapBlock_1 ?_
  refine lv_aload_n hx hb dX0_mapBlock_4 rfl (lv_at hl 0 rfl) ?_
  refine lv_iload_n hx hb dX0_mapBlock_5 rfl (lv_at hl 1 rfl) ?_
  refine lv_iload_n hx hb dX0_mapBlock_6 rfl (lv_at hl 2 rfl) ?_
  refine xr_i (D := (dC, dI)) (wf := (xo_w h0 hs hd hc a1 a2 gW gC gV gB gM gI)) (u0 := (st, d)) (wr := []) (va_runV (As := [.int (nI v), .int (nI b)]) (rest := [.ref hd]) ⟨hx, hb, hml, hown, hts⟩ (k_X0_mapCell l dC dI h0 hs hd hc a1 a2 gW gC gV gB gM gI hg s.heap.size st d v b) (cwV 2 hts gX0_113 rfl rfl rfl (by decide +kernel) ⟨Nat.le_of_ble_eq_true rfl, Nat.le_of_ble_eq_true rfl⟩) (xp_v nwL_ok hK hN hP hD [0, 1, 2, 3] rfl rfl (va_recv hK hP (ci := 0) (q0 := 0) rfl rfl)) rfl rfl hl.1 rfl (lv_room (Nat.le_of_ble_eq_true rfl)) dX0_mapBlock_7 ⟨Nat.zero_le _, Nat.zero_le _⟩) hP hD hS hA [0, 1, 2, 3] [] rfl rfl (by decide) (by decide) (fun r_1 u_2 H locs hw hP hD hS => ?_)
  obtain ⟨er_1, eu_2⟩ := hw
  rw [eu_2] at hP hD
  rw [er_1]
  have hP : va_P (dC, dI) vwCl [(h0, .inr (0, [.int (nI gW), .int (nI gC), .int (nI gV), .int (nI gB), .ref hs, .int (nI gM), .int (nI gI), .ref hd])), (hs, .inl (a1, gW, .inl st)), (hd, .inr (1, [.ref hc, .int d.2.1, .int d.2.2.1, .int d.2.2.2.1, .int d.2.2.2.2])), (hc, .inl (a2, (gI + 4), .inl d.1))] H := hP
  have hD : va_D A [(h0, .inr (0, [.int (nI gW), .int (nI gC), .int (nI gV), .int (nI gB), .ref hs, .int (nI gM), .int (nI gI), .ref hd])), (hs, .inl (a1, gW, .inl st)), (hd, .inr (1, [.ref hc, .int d.2.1, .int d.2.2.1, .int d.2.2.2.1, .int d.2.2.2.2])), (hc, .inl (a2, (gI + 4), .inl d.1))] := hD
  refine lv_iload_n hx hb dX0_mapBlock_10 rfl (lv_at hl 3 rfl) ?_
  refine lv_iconst (v := 1) hx hb dX0_mapBlock_11 (by decide) ?_
  refine lv_iadd hx hb dX0_mapBlock_12 ?_
  refine xr_v (D := (dC, dI)) (wf := (dk_w hd hc a2 (gI + 4))) (u0 := d) (wr := [(h0, .inr (0, [.int (nI gW), .int (nI gC), .int (nI gV), .int (nI gB), .ref hs, .int (nI gM), .int (nI gI), .ref hd])), (hs, .inl (a1, gW, .inl st))]) (va_runVN (As := [.int (nI (gM + v * gB + b)), .int (k + 1)]) (rest := []) ⟨hx, hb, hml, hown, hts⟩ (k_X1_write l dC dI hd hc a2 (gI + 4) (by omega) H.size d (gM + v * gB + b) (by omega) (k + 1)) ⟨va_cnB 2 hts gX0_116 rfl rfl rfl (hN _ nn_116) (hts _ tb_3) (by decide +kernel) ⟨Nat.le_of_ble_eq_true rfl, Nat.le_of_ble_eq_true rfl⟩, hts _ tb_161, hts _ ts_18⟩ (xp_v nwL_ok (hK.sub (tys' := [(a2, .int)]) [1] rfl) hN hP hD [2, 3] rfl rfl (va_recv hK hP (ci := 1) (q0 := 2) rfl rfl)) rfl rfl hl.1 rfl (lv_room (Nat.le_of_ble_eq_true rfl)) dX0_mapBlock_13 ⟨Nat.zero_le _, Nat.zero_le _⟩) hP hD hS hA [2, 3] [0, 1] rfl rfl (by decide) (by decide) (fun u_4 H locs hw hP hD hS => ?_)
  obtain ⟨d_5, ed_5⟩ : ∃ z, z = dk_write d (gM + v * gB + b) (k + 1) := ⟨_, rfl⟩
  rw [hw, ← ed_5] at hP hD
  have hP : va_P (dC, dI) vwCl [(h0, .inr (0, [.int (nI gW), .int (nI gC), .int (nI gV), .int (nI gB), .ref hs, .int (nI gM), .int (nI gI), .ref hd])), (hs, .inl (a1, gW, .inl st)), (hd, .inr (1, [.ref hc, .int d_5.2.1, .int d_5.2.2.1, .int d_5.2.2.2.1, .int d_5.2.2.2.2])), (hc, .inl (a2, (gI + 4), .inl d_5.1))] H := hP
  have hD : va_D A [(h0, .inr (0, [.int (nI gW), .int (nI gC), .int (nI gV), .int (nI gB), .ref hs, .int (nI gM), .int (nI gI), .ref hd])), (hs, .inl (a1, gW, .inl st)), (hd, .inr (1, [.ref hc, .int d_5.2.1, .int d_5.2.2.1, .int d_5.2.2.2.1, .int d_5.2.2.2.2])), (hc, .inl (a2, (gI + 4), .inl d_5.1))] := hD
  exact W.vret hx hb hr (fun t ht hW => ⟨⟨(st, d_5), rfl, by rw [ed_5], by rw [ht]; exact hP, hD⟩, hS.F ht⟩) hS.2.2 dX0_mapBlock_16
