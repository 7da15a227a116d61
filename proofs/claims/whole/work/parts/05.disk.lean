set_option maxHeartbeats 4000000 in
set_option maxRecDepth 100000 in
theorem k_X1_isDown (l : Launch) (dC : Nat → ClassId) (dI : Nat → Nat → Nat) (hd hc : Nat) (a2 : ClassId) (n : Nat) (hn : n < 2 ^ 31) (sz : Nat) (d : DS) (hz : d.2.2.2.2 = 0 ∨ d.2.2.2.2 = 1) : ctI nwL l yX1_isDown wsX1_isDown ({ frames := 0, cells := 0, slots := 0, locals := 0 } : Room) (dC, dI) [(a2, .int)] (dk_w hd hc a2 n) d sz [.ref hd] (fun (r : Int32) (u : DS) => r = d.2.2.2.2 ∧ u = d) := by
  refine Met.ofW (cc := cX1_isDown) (maxL := 1) (ret := (some .boolean)) (by decide) rfl ?_
  intro p e s m args below meth c s₁ B hml hv
  obtain ⟨rfl, hsz, hP, hK, hD0, hN⟩ := hv
  have hx := B.exec
  have hb := B.bytes
  have hr := B.returns
  have hts := fun w h => atoms_spec (ws := wsX1_isDown) B.pre w (List.mem_cons_of_mem _ h)
  have hown : s.vm.findClass RX1 = some m.cls := findClass_of_methodNamed B.named
  have hlocks := B.notSynchronized
  subst hsz
  have hD := hD0.self (sz := s.heap.size)
  generalize hAe : va_A ((dk_w hd hc a2 n) d) s.heap.size = A at hD ⊢
  have hA : ∀ q : Nat, s.heap.size ≤ q → A q := fun q h => by rw [← hAe]; exact Or.inr h
  have hS : va_S A s.heap s.heap [] := va_S.rf
  have hl := lv_entry ([.ref hd]) (n := 1) (Nat.le_of_ble_eq_true rfl)
  rw [lg_entry_eq]
  generalize (lg_sl ([.ref hd]) ++ List.replicate (1 - (lg_sl ([.ref hd])).length) Slot.unset).toArray = ls at hl ⊢
  have hP : va_P (dC, dI) vwCl [(hd, .inr (1, [.ref hc, .int d.2.1, .int d.2.2.1, .int d.2.2.2.1, .int d.2.2.2.2])), (hc, .inl (a2, n, .inl d.1))] s.heap := hP
  have hD : va_D A [(hd, .inr (1, [.ref hc, .int d.2.1, .int d.2.2.1, .int d.2.2.2.1, .int d.2.2.2.2])), (hc, .inl (a2, n, .inl d.1))] := hD
  have hl : lv_has ls 1 [(0, .ref hd)] := hl
  refine lv_aload_n hx hb dX1_isDown_0 rfl (lv_at hl 0 rfl) ?_
  refine va_get (D := (dC, dI)) (ci := 1) (v := .int d.2.2.2.2) (C := RX1) (T := TX1) (N := 5) hx hb hts inX1 hown hK hP 0 rfl rfl 4 (by decide) (hts _ tb_33) (fun _ h9 => h9) rfl dX1_isDown_1 ?_
  exact W.zret (v := d.2.2.2.2) hx hb hr (nar_z hz) (fun t ht hW => ⟨⟨d.2.2.2.2, (d.1, d.2.1, d.2.2.1, d.2.2.2.1, d.2.2.2.2), rfl, ⟨rfl, rfl⟩, by rw [ht]; exact hP, hD⟩, hS.F ht⟩) hS.2.2 dX1_isDown_4
set_option maxHeartbeats 4000000 in
set_option maxRecDepth 100000 in
theorem k_X1_writesDone (l : Launch) (dC : Nat → ClassId) (dI : Nat → Nat → Nat) (hd hc : Nat) (a2 : ClassId) (n : Nat) (hn : n < 2 ^ 31) (sz : Nat) (d : DS)  : ctI nwL l yX1_writesDone wsX1_writesDone ({ frames := 0, cells := 0, slots := 0, locals := 0 } : Room) (dC, dI) [(a2, .int)] (dk_w hd hc a2 n) d sz [.ref hd] (fun (r : Int32) (u : DS) => r = d.2.1 ∧ u = d) := by
  refine Met.ofW (cc := cX1_writesDone) (maxL := 1) (ret := (some .int)) (by decide) rfl ?_
  intro p e s m args below meth c s₁ B hml hv
  obtain ⟨rfl, hsz, hP, hK, hD0, hN⟩ := hv
  have hx := B.exec
  have hb := B.bytes
  have hr := B.returns
  have hts := fun w h => atoms_spec (ws := wsX1_writesDone) B.pre w (List.mem_cons_of_mem _ h)
  have hown : s.vm.findClass RX1 = some m.cls := findClass_of_methodNamed B.named
  have hlocks := B.notSynchronized
  subst hsz
  have hD := hD0.self (sz := s.heap.size)
  generalize hAe : va_A ((dk_w hd hc a2 n) d) s.heap.size = A at hD ⊢
  have hA : ∀ q : Nat, s.heap.size ≤ q → A q := fun q h => by rw [← hAe]; exact Or.inr h
  have hS : va_S A s.heap s.heap [] := va_S.rf
  have hl := lv_entry ([.ref hd]) (n := 1) (Nat.le_of_ble_eq_true rfl)
  rw [lg_entry_eq]
  generalize (lg_sl ([.ref hd]) ++ List.replicate (1 - (lg_sl ([.ref hd])).length) Slot.unset).toArray = ls at hl ⊢
  have hP : va_P (dC, dI) vwCl [(hd, .inr (1, [.ref hc, .int d.2.1, .int d.2.2.1, .int d.2.2.2.1, .int d.2.2.2.2])), (hc, .inl (a2, n, .inl d.1))] s.heap := hP
  have hD : va_D A [(hd, .inr (1, [.ref hc, .int d.2.1, .int d.2.2.1, .int d.2.2.2.1, .int d.2.2.2.2])), (hc, .inl (a2, n, .inl d.1))] := hD
  have hl : lv_has ls 1 [(0, .ref hd)] := hl
  refine lv_aload_n hx hb dX1_writesDone_0 rfl (lv_at hl 0 rfl) ?_
  refine va_get (D := (dC, dI)) (ci := 1) (v := .int d.2.1) (C := RX1) (T := TX1) (N := 5) hx hb hts inX1 hown hK hP 0 rfl rfl 1 (by decide) (hts _ tb_30) (fun _ h9 => h9) rfl dX1_writesDone_1 ?_
  exact W.iret (v := d.2.1) hx hb hr (fun t ht hW => ⟨⟨d.2.1, (d.1, d.2.1, d.2.2.1, d.2.2.2.1, d.2.2.2.2), rfl, ⟨rfl, rfl⟩, by rw [ht]; exact hP, hD⟩, hS.F ht⟩) hS.2.2 dX1_writesDone_4
set_option maxHeartbeats 4000000 in
set_option maxRecDepth 100000 in
theorem k_X1_read (l : Launch) (dC : Nat → ClassId) (dI : Nat → Nat → Nat) (hd hc : Nat) (a2 : ClassId) (n : Nat) (hn : n < 2 ^ 31) (sz : Nat) (d : DS) (i : Nat) (hi : i < n) : ctI nwL l yX1_read wsX1_read ({ frames := 0, cells := 0, slots := 0, locals := 0 } : Room) (dC, dI) [(a2, .int)] (dk_w hd hc a2 n) d sz [.ref hd, .int (nI i)] (fun (r : Int32) (u : DS) => r = d.1 i ∧ u = d) := by
  refine Met.ofW (cc := cX1_read) (maxL := 2) (ret := (some .int)) (by decide) rfl ?_
  intro p e s m args below meth c s₁ B hml hv
  obtain ⟨rfl, hsz, hP, hK, hD0, hN⟩ := hv
  have hx := B.exec
  have hb := B.bytes
  have hr := B.returns
  have hts := fun w h => atoms_spec (ws := wsX1_read) B.pre w (List.mem_cons_of_mem _ h)
  have hown : s.vm.findClass RX1 = some m.cls := findClass_of_methodNamed B.named
  have hlocks := B.notSynchronized
  subst hsz
  have hD := hD0.self (sz := s.heap.size)
  generalize hAe : va_A ((dk_w hd hc a2 n) d) s.heap.size = A at hD ⊢
  have hA : ∀ q : Nat, s.heap.size ≤ q → A q := fun q h => by rw [← hAe]; exact Or.inr h
  have hS : va_S A s.heap s.heap [] := va_S.rf
  have hl := lv_entry ([.ref hd, .int (nI i)]) (n := 2) (Nat.le_of_ble_eq_true rfl)
  rw [lg_entry_eq]
  generalize (lg_sl ([.ref hd, .int (nI i)]) ++ List.replicate (2 - (lg_sl ([.ref hd, .int (nI i)])).length) Slot.unset).toArray = ls at hl ⊢
  have hP : va_P (dC, dI) vwCl [(hd, .inr (1, [.ref hc, .int d.2.1, .int d.2.2.1, .int d.2.2.2.1, .int d.2.2.2.2])), (hc, .inl (a2, n, .inl d.1))] s.heap := hP
  have hD : va_D A [(hd, .inr (1, [.ref hc, .int d.2.1, .int d.2.2.1, .int d.2.2.2.1, .int d.2.2.2.2])), (hc, .inl (a2, n, .inl d.1))] := hD
  have hl : lv_has ls 2 [(0, .ref hd), (1, .int (nI i))] := hl
  refine lv_aload_n hx hb dX1_read_0 rfl (lv_at hl 0 rfl) ?_
  refine va_get (D := (dC, dI)) (ci := 1) (v := .ref hc) (C := RX1) (T := TX1) (N := 5) hx hb hts inX1 hown hK hP 0 rfl rfl 0 (by decide) (hts _ tb_29) (fun _ h9 => h9) rfl dX1_read_1 ?_
  refine lv_iload_n hx hb dX1_read_4 rfl (lv_at hl 1 rfl) ?_
  refine va_iald hx hb hK hP 1 0 rfl rfl (vp_in_nI (n := i) (by omega) (by omega)) dX1_read_5 ?_
  refine lv_topi (fun z_1 ez_1 => ?_)
  obtain rfl : z_1 = d.1 i := ez_1.trans (by rw [nI_clamp (n := i) (by omega)])
  exact W.iret (v := d.1 i) hx hb hr (fun t ht hW => ⟨⟨d.1 i, (d.1, d.2.1, d.2.2.1, d.2.2.2.1, d.2.2.2.2), rfl, ⟨rfl, rfl⟩, by rw [ht]; exact hP, hD⟩, hS.F ht⟩) hS.2.2 dX1_read_6
set_option maxHeartbeats 4000000 in
set_option maxRecDepth 100000 in
theorem k_X1_write (l : Launch) (dC : Nat → ClassId) (dI : Nat → Nat → Nat) (hd hc : Nat) (a2 : ClassId) (n : Nat) (hn : n < 2 ^ 31) (sz : Nat) (d : DS) (i : Nat) (hi : i < n) (v : Int32) : ctV nwL l yX1_write wsX1_write ({ frames := 0, cells := 0, slots := 0, locals := 0 } : Room) (dC, dI) [(a2, .int)] (dk_w hd hc a2 n) d sz [.ref hd, .int (nI i), .int v] (fun (u : DS) => u = dk_write d i v) := by
  refine Met.ofW (cc := cX1_write) (maxL := 3) (ret := none) (by decide) rfl ?_
  intro p e s m args below meth c s₁ B hml hv
  obtain ⟨rfl, hsz, hP, hK, hD0, hN⟩ := hv
  have hx := B.exec
  have hb := B.bytes
  have hr := B.returns
  have hts := fun w h => atoms_spec (ws := wsX1_write) B.pre w (List.mem_cons_of_mem _ h)
  have hown : s.vm.findClass RX1 = some m.cls := findClass_of_methodNamed B.named
  have hlocks := B.notSynchronized
  subst hsz
  have hD := hD0.self (sz := s.heap.size)
  generalize hAe : va_A ((dk_w hd hc a2 n) d) s.heap.size = A at hD ⊢
  have hA : ∀ q : Nat, s.heap.size ≤ q → A q := fun q h => by rw [← hAe]; exact Or.inr h
  have hS : va_S A s.heap s.heap [] := va_S.rf
  have hl := lv_entry ([.ref hd, .int (nI i), .int v]) (n := 3) (Nat.le_of_ble_eq_true rfl)
  rw [lg_entry_eq]
  generalize (lg_sl ([.ref hd, .int (nI i), .int v]) ++ List.replicate (3 - (lg_sl ([.ref hd, .int (nI i), .int v])).length) Slot.unset).toArray = ls at hl ⊢
  have hP : va_P (dC, dI) vwCl [(hd, .inr (1, [.ref hc, .int d.2.1, .int d.2.2.1, .int d.2.2.2.1, .int d.2.2.2.2])), (hc, .inl (a2, n, .inl d.1))] s.heap := hP
  have hD : va_D A [(hd, .inr (1, [.ref hc, .int d.2.1, .int d.2.2.1, .int d.2.2.2.1, .int d.2.2.2.2])), (hc, .inl (a2, n, .inl d.1))] := hD
  have hl : lv_has ls 3 [(0, .ref hd), (1, .int (nI i)), (2, .int v)] := hl
  refine lv_aload_n hx hb dX1_write_0 rfl (lv_at hl 0 rfl) ?_
  refine va_get (D := (dC, dI)) (ci := 1) (v := .int d.2.2.2.2) (C := RX1) (T := TX1) (N := 5) hx hb hts inX1 hown hK hP 0 rfl rfl 4 (by decide) (hts _ tb_33) (fun _ h9 => h9) rfl dX1_write_1 ?_
  refine lv_if_eq (tgt := 8) hx hb dX1_write_4 (by decide) (fun c_1 => ?_) (fun c_1 => ?_)
  · refine lv_aload_n hx hb dX1_write_8 rfl (lv_at hl 0 rfl) ?_
    refine va_get (D := (dC, dI)) (ci := 1) (v := .int d.2.2.1) (C := RX1) (T := TX1) (N := 5) hx hb hts inX1 hown hK hP 0 rfl rfl 2 (by decide) (hts _ tb_31) (fun _ h9 => h9) rfl dX1_write_9 ?_
    refine lv_if_eq (tgt := 41) hx hb dX1_write_12 (by decide) (fun c_2 => ?_) (fun c_2 => ?_)
    · refine lv_aload_n hx hb dX1_write_41 rfl (lv_at hl 0 rfl) ?_
      refine va_get (D := (dC, dI)) (ci := 1) (v := .int d.2.2.2.2) (C := RX1) (T := TX1) (N := 5) hx hb hts inX1 hown hK hP 0 rfl rfl 4 (by decide) (hts _ tb_33) (fun _ h9 => h9) rfl dX1_write_42 ?_
      refine lv_if_ne (tgt := 65) hx hb dX1_write_45 (by decide) (fun c_3 => ?_) (fun c_3 => ?_)
      · exact absurd c_1 c_3
      · refine lv_aload_n hx hb dX1_write_48 rfl (lv_at hl 0 rfl) ?_
        refine va_get (D := (dC, dI)) (ci := 1) (v := .ref hc) (C := RX1) (T := TX1) (N := 5) hx hb hts inX1 hown hK hP 0 rfl rfl 0 (by decide) (hts _ tb_29) (fun _ h9 => h9) rfl dX1_write_49 ?_
        refine lv_iload_n hx hb dX1_write_52 rfl (lv_at hl 1 rfl) ?_
        refine lv_iload_n hx hb dX1_write_53 rfl (lv_at hl 2 rfl) ?_
        refine va_iast hx hb hK hP hD hS 1 0 rfl rfl (vp_in_nI (n := i) (by omega) (by omega)) dX1_write_54 (fun H locs hP hD hS => ?_)
        have hP : va_P (dC, dI) vwCl [(hd, .inr (1, [.ref hc, .int d.2.1, .int d.2.2.1, .int d.2.2.2.1, .int d.2.2.2.2])), (hc, .inl (a2, n, .inl (upd d.1 (nI i).toNatClampNeg v)))] H := hP
        have hD : va_D A [(hd, .inr (1, [.ref hc, .int d.2.1, .int d.2.2.1, .int d.2.2.2.1, .int d.2.2.2.2])), (hc, .inl (a2, n, .inl (upd d.1 (nI i).toNatClampNeg v)))] := hD
        rw [nI_clamp (n := i) (by omega)] at hP hD
        refine lv_aload_n hx hb dX1_write_55 rfl (lv_at hl 0 rfl) ?_
        refine lv_dup hx hb dX1_write_56 rfl ?_
        refine va_get (D := (dC, dI)) (ci := 1) (v := .int d.2.1) (C := RX1) (T := TX1) (N := 5) hx hb hts inX1 hown hK hP 0 rfl rfl 1 (by decide) (hts _ tb_30) (fun _ h9 => h9) rfl dX1_write_57 ?_
        refine lv_iconst (v := 1) hx hb dX1_write_60 (by decide) ?_
        refine lv_iadd hx hb dX1_write_61 ?_
        refine va_put (D := (dC, dI)) (ci := 1) (v := .int (d.2.1 + 1)) (ty := .int) (C := RX1) (T := TX1) (N := 5) hx hb hts inX1 tyX1 okX1 nmX1 hown hK hP hD hS 0 rfl rfl 1 (by decide) (hts _ tb_30) (fun _ h9 => h9) rfl (by decide +kernel) rfl rfl (Nat.le_of_ble_eq_true rfl) dX1_write_62 (fun H locs hP hD hS => ?_)
        have hP : va_P (dC, dI) vwCl [(hd, .inr (1, [.ref hc, .int (d.2.1 + 1), .int d.2.2.1, .int d.2.2.2.1, .int d.2.2.2.2])), (hc, .inl (a2, n, .inl (upd d.1 i v)))] H := hP
        have hD : va_D A [(hd, .inr (1, [.ref hc, .int (d.2.1 + 1), .int d.2.2.1, .int d.2.2.2.1, .int d.2.2.2.2])), (hc, .inl (a2, n, .inl (upd d.1 i v)))] := hD
        exact W.vret hx hb hr (fun t ht hW => ⟨⟨(upd d.1 i v, d.2.1 + 1, d.2.2.1, d.2.2.2.1, d.2.2.2.2), rfl, by unfold dk_write; simp [c_1, c_2, c_3], by rw [ht]; exact hP, hD⟩, hS.F ht⟩) hS.2.2 dX1_write_65
    · refine lv_aload_n hx hb dX1_write_15 rfl (lv_at hl 0 rfl) ?_
      refine lv_dup hx hb dX1_write_16 rfl ?_
      refine va_get (D := (dC, dI)) (ci := 1) (v := .int d.2.2.1) (C := RX1) (T := TX1) (N := 5) hx hb hts inX1 hown hK hP 0 rfl rfl 2 (by decide) (hts _ tb_31) (fun _ h9 => h9) rfl dX1_write_17 ?_
      refine lv_iconst (v := 1) hx hb dX1_write_20 (by decide) ?_
      refine lv_isub hx hb dX1_write_21 ?_
      refine va_put (D := (dC, dI)) (ci := 1) (v := .int (d.2.2.1 - 1)) (ty := .int) (C := RX1) (T := TX1) (N := 5) hx hb hts inX1 tyX1 okX1 nmX1 hown hK hP hD hS 0 rfl rfl 2 (by decide) (hts _ tb_31) (fun _ h9 => h9) rfl (by decide +kernel) rfl rfl (Nat.le_of_ble_eq_true rfl) dX1_write_22 (fun H locs hP hD hS => ?_)
      have hP : va_P (dC, dI) vwCl [(hd, .inr (1, [.ref hc, .int d.2.1, .int (d.2.2.1 - 1), .int d.2.2.2.1, .int d.2.2.2.2])), (hc, .inl (a2, n, .inl d.1))] H := hP
      have hD : va_D A [(hd, .inr (1, [.ref hc, .int d.2.1, .int (d.2.2.1 - 1), .int d.2.2.2.1, .int d.2.2.2.2])), (hc, .inl (a2, n, .inl d.1))] := hD
      refine lv_aload_n hx hb dX1_write_25 rfl (lv_at hl 0 rfl) ?_
      refine lv_aload_n hx hb dX1_write_26 rfl (lv_at hl 0 rfl) ?_
      refine va_get (D := (dC, dI)) (ci := 1) (v := .int (d.2.2.1 - 1)) (C := RX1) (T := TX1) (N := 5) hx hb hts inX1 hown hK hP 0 rfl rfl 2 (by decide) (hts _ tb_31) (fun _ h9 => h9) rfl dX1_write_27 ?_
      refine lv_if_ne (tgt := 37) hx hb dX1_write_30 (by decide) (fun c_4 => ?_) (fun c_4 => ?_)
      · refine lv_iconst (v := 0) hx hb dX1_write_37 (by decide) ?_
        refine va_put (D := (dC, dI)) (ci := 1) (v := .int 0) (ty := .boolean) (C := RX1) (T := TX1) (N := 5) hx hb hts inX1 tyX1 okX1 nmX1 hown hK hP hD hS 0 rfl rfl 4 (by decide) (hts _ tb_33) (fun _ h9 => h9) rfl (by decide +kernel) rfl rfl (Nat.le_of_ble_eq_true rfl) dX1_write_38 (fun H locs hP hD hS => ?_)
        have hP : va_P (dC, dI) vwCl [(hd, .inr (1, [.ref hc, .int d.2.1, .int (d.2.2.1 - 1), .int d.2.2.2.1, .int 0])), (hc, .inl (a2, n, .inl d.1))] H := hP
        have hD : va_D A [(hd, .inr (1, [.ref hc, .int d.2.1, .int (d.2.2.1 - 1), .int d.2.2.2.1, .int 0])), (hc, .inl (a2, n, .inl d.1))] := hD
        refine lv_aload_n hx hb dX1_write_41 rfl (lv_at hl 0 rfl) ?_
        refine va_get (D := (dC, dI)) (ci := 1) (v := .int 0) (C := RX1) (T := TX1) (N := 5) hx hb hts inX1 hown hK hP 0 rfl rfl 4 (by decide) (hts _ tb_33) (fun _ h9 => h9) rfl dX1_write_42 ?_
        refine lv_if_ne (tgt := 65) hx hb dX1_write_45 (by decide) (fun c_5 => ?_) (fun c_5 => ?_)
        · exact absurd c_5 (by decide)
        · refine lv_aload_n hx hb dX1_write_48 rfl (lv_at hl 0 rfl) ?_
          refine va_get (D := (dC, dI)) (ci := 1) (v := .ref hc) (C := RX1) (T := TX1) (N := 5) hx hb hts inX1 hown hK hP 0 rfl rfl 0 (by decide) (hts _ tb_29) (fun _ h9 => h9) rfl dX1_write_49 ?_
          refine lv_iload_n hx hb dX1_write_52 rfl (lv_at hl 1 rfl) ?_
          refine lv_iload_n hx hb dX1_write_53 rfl (lv_at hl 2 rfl) ?_
          refine va_iast hx hb hK hP hD hS 1 0 rfl rfl (vp_in_nI (n := i) (by omega) (by omega)) dX1_write_54 (fun H locs hP hD hS => ?_)
          have hP : va_P (dC, dI) vwCl [(hd, .inr (1, [.ref hc, .int d.2.1, .int (d.2.2.1 - 1), .int d.2.2.2.1, .int 0])), (hc, .inl (a2, n, .inl (upd d.1 (nI i).toNatClampNeg v)))] H := hP
          have hD : va_D A [(hd, .inr (1, [.ref hc, .int d.2.1, .int (d.2.2.1 - 1), .int d.2.2.2.1, .int 0])), (hc, .inl (a2, n, .inl (upd d.1 (nI i).toNatClampNeg v)))] := hD
          rw [nI_clamp (n := i) (by omega)] at hP hD
          refine lv_aload_n hx hb dX1_write_55 rfl (lv_at hl 0 rfl) ?_
          refine lv_dup hx hb dX1_write_56 rfl ?_
          refine va_get (D := (dC, dI)) (ci := 1) (v := .int d.2.1) (C := RX1) (T := TX1) (N := 5) hx hb hts inX1 hown hK hP 0 rfl rfl 1 (by decide) (hts _ tb_30) (fun _ h9 => h9) rfl dX1_write_57 ?_
          refine lv_iconst (v := 1) hx hb dX1_write_60 (by decide) ?_
          refine lv_iadd hx hb dX1_write_61 ?_
          refine va_put (D := (dC, dI)) (ci := 1) (v := .int (d.2.1 + 1)) (ty := .int) (C := RX1) (T := TX1) (N := 5) hx hb hts inX1 tyX1 okX1 nmX1 hown hK hP hD hS 0 rfl rfl 1 (by decide) (hts _ tb_30) (fun _ h9 => h9) rfl (by decide +kernel) rfl rfl (Nat.le_of_ble_eq_true rfl) dX1_write_62 (fun H locs hP hD hS => ?_)
          have hP : va_P (dC, dI) vwCl [(hd, .inr (1, [.ref hc, .int (d.2.1 + 1), .int (d.2.2.1 - 1), .int d.2.2.2.1, .int 0])), (hc, .inl (a2, n, .inl (upd d.1 i v)))] H := hP
          have hD : va_D A [(hd, .inr (1, [.ref hc, .int (d.2.1 + 1), .int (d.2.2.1 - 1), .int d.2.2.2.1, .int 0])), (hc, .inl (a2, n, .inl (upd d.1 i v)))] := hD
          exact W.vret hx hb hr (fun t ht hW => ⟨⟨(upd d.1 i v, d.2.1 + 1, d.2.2.1 - 1, d.2.2.2.1, 0), rfl, by unfold dk_write; simp [c_1, c_2, c_4, c_5], by rw [ht]; exact hP, hD⟩, hS.F ht⟩) hS.2.2 dX1_write_65
      · refine lv_iconst (v := 1) hx hb dX1_write_33 (by decide) ?_
        refine lv_goto (tgt := 38) hx hb dX1_write_34 (by decide) ?_
        refine va_put (D := (dC, dI)) (ci := 1) (v := .int 1) (ty := .boolean) (C := RX1) (T := TX1) (N := 5) hx hb hts inX1 tyX1 okX1 nmX1 hown hK hP hD hS 0 rfl rfl 4 (by decide) (hts _ tb_33) (fun _ h9 => h9) rfl (by decide +kernel) rfl rfl (Nat.le_of_ble_eq_true rfl) dX1_write_38 (fun H locs hP hD hS => ?_)
        have hP : va_P (dC, dI) vwCl [(hd, .inr (1, [.ref hc, .int d.2.1, .int (d.2.2.1 - 1), .int d.2.2.2.1, .int 1])), (hc, .inl (a2, n, .inl d.1))] H := hP
        have hD : va_D A [(hd, .inr (1, [.ref hc, .int d.2.1, .int (d.2.2.1 - 1), .int d.2.2.2.1, .int 1])), (hc, .inl (a2, n, .inl d.1))] := hD
        refine lv_aload_n hx hb dX1_write_41 rfl (lv_at hl 0 rfl) ?_
        refine va_get (D := (dC, dI)) (ci := 1) (v := .int 1) (C := RX1) (T := TX1) (N := 5) hx hb hts inX1 hown hK hP 0 rfl rfl 4 (by decide) (hts _ tb_33) (fun _ h9 => h9) rfl dX1_write_42 ?_
        refine lv_if_ne (tgt := 65) hx hb dX1_write_45 (by decide) (fun c_6 => ?_) (fun c_6 => ?_)
        · exact W.vret hx hb hr (fun t ht hW => ⟨⟨(d.1, d.2.1, d.2.2.1 - 1, d.2.2.2.1, 1), rfl, by unfold dk_write; simp [c_1, c_2, c_4, c_6], by rw [ht]; exact hP, hD⟩, hS.F ht⟩) hS.2.2 dX1_write_65
        · exact absurd c_6 (by decide)
  · exact W.vret hx hb hr (fun t ht hW => ⟨⟨(d.1, d.2.1, d.2.2.1, d.2.2.2.1, d.2.2.2.2), rfl, by unfold dk_write; simp [c_1], by rw [ht]; exact hP, hD⟩, hS.F ht⟩) hS.2.2 dX1_write_7
set_option maxHeartbeats 4000000 in
set_option maxRecDepth 100000 in
theorem k_X1_armLoss (l : Launch) (dC : Nat → ClassId) (dI : Nat → Nat → Nat) (hd hc : Nat) (a2 : ClassId) (n : Nat) (hn : n < 2 ^ 31) (sz : Nat) (d : DS) (v : Int32) : ctV nwL l yX1_armLoss wsX1_armLoss ({ frames := 0, cells := 0, slots := 0, locals := 0 } : Room) (dC, dI) [(a2, .int)] (dk_w hd hc a2 n) d sz [.ref hd, .int v] (fun (u : DS) => u = dk_arm d v) := by
  refine Met.ofW (cc := cX1_armLoss) (maxL := 2) (ret := none) (by decide) rfl ?_
  intro p e s m args below meth c s₁ B hml hv
  obtain ⟨rfl, hsz, hP, hK, hD0, hN⟩ := hv
  have hx := B.exec
  have hb := B.bytes
  have hr := B.returns
  have hts := fun w h => atoms_spec (ws := wsX1_armLoss) B.pre w (List.mem_cons_of_mem _ h)
  have hown : s.vm.findClass RX1 = some m.cls := findClass_of_methodNamed B.named
  have hlocks := B.notSynchronized
  subst hsz
  have hD := hD0.self (sz := s.heap.size)
  generalize hAe : va_A ((dk_w hd hc a2 n) d) s.heap.size = A at hD ⊢
  have hA : ∀ q : Nat, s.heap.size ≤ q → A q := fun q h => by rw [← hAe]; exact Or.inr h
  have hS : va_S A s.heap s.heap [] := va_S.rf
  have hl := lv_entry ([.ref hd, .int v]) (n := 2) (Nat.le_of_ble_eq_true rfl)
  rw [lg_entry_eq]
  generalize (lg_sl ([.ref hd, .int v]) ++ List.replicate (2 - (lg_sl ([.ref hd, .int v])).length) Slot.unset).toArray = ls at hl ⊢
  have hP : va_P (dC, dI) vwCl [(hd, .inr (1, [.ref hc, .int d.2.1, .int d.2.2.1, .int d.2.2.2.1, .int d.2.2.2.2])), (hc, .inl (a2, n, .inl d.1))] s.heap := hP
  have hD : va_D A [(hd, .inr (1, [.ref hc, .int d.2.1, .int d.2.2.1, .int d.2.2.2.1, .int d.2.2.2.2])), (hc, .inl (a2, n, .inl d.1))] := hD
  have hl : lv_has ls 2 [(0, .ref hd), (1, .int v)] := hl
  refine lv_aload_n hx hb dX1_armLoss_0 rfl (lv_at hl 0 rfl) ?_
  refine va_get (D := (dC, dI)) (ci := 1) (v := .int d.2.2.2.2) (C := RX1) (T := TX1) (N := 5) hx hb hts inX1 hown hK hP 0 rfl rfl 4 (by decide) (hts _ tb_33) (fun _ h9 => h9) rfl dX1_armLoss_1 ?_
  refine lv_if_eq (tgt := 8) hx hb dX1_armLoss_4 (by decide) (fun c_1 => ?_) (fun c_1 => ?_)
  · refine lv_iload_n hx hb dX1_armLoss_8 rfl (lv_at hl 1 rfl) ?_
    refine lv_iconst (v := 1) hx hb dX1_armLoss_9 (by decide) ?_
    refine lv_icmp_ge (tgt := 21) hx hb dX1_armLoss_10 (by decide) (fun c_2 => ?_) (fun c_2 => ?_)
    · refine lv_aload_n hx hb dX1_armLoss_21 rfl (lv_at hl 0 rfl) ?_
      refine va_get (D := (dC, dI)) (ci := 1) (v := .int d.2.2.2.1) (C := RX1) (T := TX1) (N := 5) hx hb hts inX1 hown hK hP 0 rfl rfl 3 (by decide) (hts _ tb_32) (fun _ h9 => h9) rfl dX1_armLoss_22 ?_
      refine lv_bipush (v := 30) hx hb dX1_armLoss_25 (by decide) ?_
      refine lv_icmp_ge (tgt := 45) hx hb dX1_armLoss_27 (by decide) (fun c_3 => ?_) (fun c_3 => ?_)
      · exact W.vret hx hb hr (fun t ht hW => ⟨⟨(d.1, d.2.1, d.2.2.1, d.2.2.2.1, d.2.2.2.2), rfl, by unfold dk_arm; rw [if_pos c_1, if_pos c_2, if_pos c_3], by rw [ht]; exact hP, hD⟩, hS.F ht⟩) hS.2.2 dX1_armLoss_45
      · refine lv_aload_n hx hb dX1_armLoss_30 rfl (lv_at hl 0 rfl) ?_
        refine lv_dup hx hb dX1_armLoss_31 rfl ?_
        refine va_get (D := (dC, dI)) (ci := 1) (v := .int d.2.2.2.1) (C := RX1) (T := TX1) (N := 5) hx hb hts inX1 hown hK hP 0 rfl rfl 3 (by decide) (hts _ tb_32) (fun _ h9 => h9) rfl dX1_armLoss_32 ?_
        refine lv_iconst (v := 1) hx hb dX1_armLoss_35 (by decide) ?_
        refine lv_iadd hx hb dX1_armLoss_36 ?_
        refine va_put (D := (dC, dI)) (ci := 1) (v := .int (d.2.2.2.1 + 1)) (ty := .int) (C := RX1) (T := TX1) (N := 5) hx hb hts inX1 tyX1 okX1 nmX1 hown hK hP hD hS 0 rfl rfl 3 (by decide) (hts _ tb_32) (fun _ h9 => h9) rfl (by decide +kernel) rfl rfl (Nat.le_of_ble_eq_true rfl) dX1_armLoss_37 (fun H locs hP hD hS => ?_)
        have hP : va_P (dC, dI) vwCl [(hd, .inr (1, [.ref hc, .int d.2.1, .int d.2.2.1, .int (d.2.2.2.1 + 1), .int d.2.2.2.2])), (hc, .inl (a2, n, .inl d.1))] H := hP
        have hD : va_D A [(hd, .inr (1, [.ref hc, .int d.2.1, .int d.2.2.1, .int (d.2.2.2.1 + 1), .int d.2.2.2.2])), (hc, .inl (a2, n, .inl d.1))] := hD
        refine lv_aload_n hx hb dX1_armLoss_40 rfl (lv_at hl 0 rfl) ?_
        refine lv_iload_n hx hb dX1_armLoss_41 rfl (lv_at hl 1 rfl) ?_
        refine va_put (D := (dC, dI)) (ci := 1) (v := .int v) (ty := .int) (C := RX1) (T := TX1) (N := 5) hx hb hts inX1 tyX1 okX1 nmX1 hown hK hP hD hS 0 rfl rfl 2 (by decide) (hts _ tb_31) (fun _ h9 => h9) rfl (by decide +kernel) rfl rfl (Nat.le_of_ble_eq_true rfl) dX1_armLoss_42 (fun H locs hP hD hS => ?_)
        have hP : va_P (dC, dI) vwCl [(hd, .inr (1, [.ref hc, .int d.2.1, .int v, .int (d.2.2.2.1 + 1), .int d.2.2.2.2])), (hc, .inl (a2, n, .inl d.1))] H := hP
        have hD : va_D A [(hd, .inr (1, [.ref hc, .int d.2.1, .int v, .int (d.2.2.2.1 + 1), .int d.2.2.2.2])), (hc, .inl (a2, n, .inl d.1))] := hD
        exact W.vret hx hb hr (fun t ht hW => ⟨⟨(d.1, d.2.1, v, d.2.2.2.1 + 1, d.2.2.2.2), rfl, by unfold dk_arm; rw [if_pos c_1, if_pos c_2, if_neg c_3], by rw [ht]; exact hP, hD⟩, hS.F ht⟩) hS.2.2 dX1_armLoss_45
    · refine lv_aload_n hx hb dX1_armLoss_13 rfl (lv_at hl 0 rfl) ?_
      refine lv_iconst (v := 0) hx hb dX1_armLoss_14 (by decide) ?_
      refine va_put (D := (dC, dI)) (ci := 1) (v := .int 0) (ty := .int) (C := RX1) (T := TX1) (N := 5) hx hb hts inX1 tyX1 okX1 nmX1 hown hK hP hD hS 0 rfl rfl 2 (by decide) (hts _ tb_31) (fun _ h9 => h9) rfl (by decide +kernel) rfl rfl (Nat.le_of_ble_eq_true rfl) dX1_armLoss_15 (fun H locs hP hD hS => ?_)
      have hP : va_P (dC, dI) vwCl [(hd, .inr (1, [.ref hc, .int d.2.1, .int 0, .int d.2.2.2.1, .int d.2.2.2.2])), (hc, .inl (a2, n, .inl d.1))] H := hP
      have hD : va_D A [(hd, .inr (1, [.ref hc, .int d.2.1, .int 0, .int d.2.2.2.1, .int d.2.2.2.2])), (hc, .inl (a2, n, .inl d.1))] := hD
      refine lv_goto (tgt := 45) hx hb dX1_armLoss_18 (by decide) ?_
      exact W.vret hx hb hr (fun t ht hW => ⟨⟨(d.1, d.2.1, 0, d.2.2.2.1, d.2.2.2.2), rfl, by unfold dk_arm; rw [if_pos c_1, if_neg c_2], by rw [ht]; exact hP, hD⟩, hS.F ht⟩) hS.2.2 dX1_armLoss_45
  · exact W.vret hx hb hr (fun t ht hW => ⟨⟨(d.1, d.2.1, d.2.2.1, d.2.2.2.1, d.2.2.2.2), rfl, by unfold dk_arm; rw [if_neg c_1], by rw [ht]; exact hP, hD⟩, hS.F ht⟩) hS.2.2 dX1_armLoss_7
set_option maxHeartbeats 4000000 in
set_option maxRecDepth 100000 in
theorem k_X1_restorePower (l : Launch) (dC : Nat → ClassId) (dI : Nat → Nat → Nat) (hd hc : Nat) (a2 : ClassId) (n : Nat) (hn : n < 2 ^ 31) (sz : Nat) (d : DS)  : ctV nwL l yX1_restorePower wsX1_restorePower ({ frames := 0, cells := 0, slots := 0, locals := 0 } : Room) (dC, dI) [(a2, .int)] (dk_w hd hc a2 n) d sz [.ref hd] (fun (u : DS) => u = (d.1, d.2.1, d.2.2.1, d.2.2.2.1, 0)) := by
  refine Met.ofW (cc := cX1_restorePower) (maxL := 1) (ret := none) (by decide) rfl ?_
  intro p e s m args below meth c s₁ B hml hv
  obtain ⟨rfl, hsz, hP, hK, hD0, hN⟩ := hv
  have hx := B.exec
  have hb := B.bytes
  have hr := B.returns
  have hts := fun w h => atoms_spec (ws := wsX1_restorePower) B.pre w (List.mem_cons_of_mem _ h)
  have hown : s.vm.findClass RX1 = some m.cls := findClass_of_methodNamed B.named
  have hlocks := B.notSynchronized
  subst hsz
  have hD := hD0.self (sz := s.heap.size)
  generalize hAe : va_A ((dk_w hd hc a2 n) d) s.heap.size = A at hD ⊢
  have hA : ∀ q : Nat, s.heap.size ≤ q → A q := fun q h => by rw [← hAe]; exact Or.inr h
  have hS : va_S A s.heap s.heap [] := va_S.rf
  have hl := lv_entry ([.ref hd]) (n := 1) (Nat.le_of_ble_eq_true rfl)
  rw [lg_entry_eq]
  generalize (lg_sl ([.ref hd]) ++ List.replicate (1 - (lg_sl ([.ref hd])).length) Slot.unset).toArray = ls at hl ⊢
  have hP : va_P (dC, dI) vwCl [(hd, .inr (1, [.ref hc, .int d.2.1, .int d.2.2.1, .int d.2.2.2.1, .int d.2.2.2.2])), (hc, .inl (a2, n, .inl d.1))] s.heap := hP
  have hD : va_D A [(hd, .inr (1, [.ref hc, .int d.2.1, .int d.2.2.1, .int d.2.2.2.1, .int d.2.2.2.2])), (hc, .inl (a2, n, .inl d.1))] := hD
  have hl : lv_has ls 1 [(0, .ref hd)] := hl
  refine lv_aload_n hx hb dX1_restorePower_0 rfl (lv_at hl 0 rfl) ?_
  refine lv_iconst (v := 0) hx hb dX1_restorePower_1 (by decide) ?_
  refine va_put (D := (dC, dI)) (ci := 1) (v := .int 0) (ty := .boolean) (C := RX1) (T := TX1) (N := 5) hx hb hts inX1 tyX1 okX1 nmX1 hown hK hP hD hS 0 rfl rfl 4 (by decide) (hts _ tb_33) (fun _ h9 => h9) rfl (by decide +kernel) rfl rfl (Nat.le_of_ble_eq_true rfl) dX1_restorePower_2 (fun H locs hP hD hS => ?_)
  have hP : va_P (dC, dI) vwCl [(hd, .inr (1, [.ref hc, .int d.2.1, .int d.2.2.1, .int d.2.2.2.1, .int 0])), (hc, .inl (a2, n, .inl d.1))] H := hP
  have hD : va_D A [(hd, .inr (1, [.ref hc, .int d.2.1, .int d.2.2.1, .int d.2.2.2.1, .int 0])), (hc, .inl (a2, n, .inl d.1))] := hD
  exact W.vret hx hb hr (fun t ht hW => ⟨⟨(d.1, d.2.1, d.2.2.1, d.2.2.2.1, 0), rfl, rfl, by rw [ht]; exact hP, hD⟩, hS.F ht⟩) hS.2.2 dX1_restorePower_5
