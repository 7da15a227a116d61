set_option maxHeartbeats 4000000 in
set_option maxRecDepth 100000 in
theorem lp_X0_blocksMappedTo_7 {p : Program} {l : Launch} {e : Env} {s : State} {m : MethodId} {args : Array Value} {below : List Frame} {meth : Method} {c : Code} {Q : State → Prop} {A : Nat → Prop} {dC : Nat → ClassId} {dI : Nat → Nat → Nat} (h0 hs hd hc : Nat) (a1 a2 : ClassId) (gW gC gV gB gM gI : Nat) (hg : geo gW gC gV gB gM gI) (st : Nat → Int32) (d : DS) (k : Int32) (hx : p.tables.exec = Jvm.exec) (hb : c.code = cX0_blocksMappedTo) (hml : c.maxLocals = 4) (hown : s.vm.findClass RX0 = some m.cls) (hts : ∀ w ∈ TBG, w.before args s = true) (hK : va_K (dC, dI) vwCl [(a1, .int), (a2, .int)] s) (hN : nwOk nwL s) (hA : ∀ q : Nat, s.heap.size ≤ q → A q)  (K : ∀  (H : Heap) (locs : List Loc) (ls : Array Slot), va_P (dC, dI) vwCl (xo_w h0 hs hd hc a1 a2 gW gC gV gB gM gI (st, d)) H → va_D A (xo_w h0 hs hd hc a1 a2 gW gC gV gB gM gI (st, d)) → va_S A s.heap H locs → lv_has ls 4 [(0, .ref h0), (1, .int k), (2, .int (nI (cntC d.1 gM (k + 1) (gV * gB))))] → W p l e ({ frames := 1, cells := 0, slots := 0, locals := 21 } : Room) s m args below meth c H locs 0 0 Q (F0 m 38 ls [])) : ∀ (n : Nat) (i : Nat) (H : Heap) (locs : List Loc) (ls : Array Slot), gV * gB - i < n → (i ≤ gV * gB) → va_P (dC, dI) vwCl (xo_w h0 hs hd hc a1 a2 gW gC gV gB gM gI (st, d)) H → va_D A (xo_w h0 hs hd hc a1 a2 gW gC gV gB gM gI (st, d)) → va_S A s.heap H locs → lv_has ls 4 [(0, .ref h0), (1, .int k), (2, .int (nI (cntC d.1 gM (k + 1) i))), (3, .int (nI (gM + i)))] → W p l e ({ frames := 1, cells := 0, slots := 0, locals := 21 } : Room) s m args below meth c H locs 0 0 Q (F0 m 7 ls []) := by
  obtain ⟨⟨hW1, hW2⟩, ⟨hC1, hC2⟩, ⟨hV1, hV2⟩, ⟨hB1, hB2⟩, eM, eI⟩ := id hg
  obtain ⟨hM2, hq2⟩ := geo_b hg
  intro n
  induction n with
  | zero => intro i H locs ls hfu; exact absurd hfu (by omega)
  | succ n ih =>
    intro i H locs ls hfu hi hP hD hS hl
    have hP : va_P (dC, dI) vwCl [(h0, .inr (0, [.int (nI gW), .int (nI gC), .int (nI gV), .int (nI gB), .ref hs, .int (nI gM), .int (nI gI), .ref hd])), (hs, .inl (a1, gW, .inl st)), (hd, .inr (1, [.ref hc, .int d.2.1, .int d.2.2.1, .int d.2.2.2.1, .int d.2.2.2.2])), (hc, .inl (a2, (gI + 4), .inl d.1))] H := hP
    have hD : va_D A [(h0, .inr (0, [.int (nI gW), .int (nI gC), .int (nI gV), .int (nI gB), .ref hs, .int (nI gM), .int (nI gI), .ref hd])), (hs, .inl (a1, gW, .inl st)), (hd, .inr (1, [.ref hc, .int d.2.1, .int d.2.2.1, .int d.2.2.2.1, .int d.2.2.2.2])), (hc, .inl (a2, (gI + 4), .inl d.1))] := hD
    refine lv_iload_n hx hb dX0_blocksMappedTo_7 rfl (lv_at hl 3 rfl) ?_
    refine lv_aload_n hx hb dX0_blocksMappedTo_8 rfl (lv_at hl 0 rfl) ?_
    refine va_get (D := (dC, dI)) (ci := 0) (v := .int (nI gI)) (C := RX0) (T := TX0) (N := 8) hx hb hts inX0 hown hK hP 0 rfl rfl 6 (by decide) (hts _ tb_52) (fun _ h9 => h9) rfl dX0_blocksMappedTo_9 ?_
    refine lv_icmp_ge (tgt := 38) hx hb dX0_blocksMappedTo_12 (by decide) (fun c_1 => ?_) (fun c_1 => ?_)
    · have c_1 : gI ≤ gM + i := (nI_leI (a := gI) (b := gM + i) (by omega) (by omega)).mp c_1
      have hie : i = gV * gB := by omega
      rw [hie] at hl
      exact K  _ _ _  hP hD hS (lv_sub hl [0, 1, 2] rfl)
    · have c_1 : ¬ (gI ≤ gM + i) := fun q9 => c_1 ((nI_leI (a := gI) (b := gM + i) (by omega) (by omega)).mpr q9)
      refine lv_aload_n hx hb dX0_blocksMappedTo_15 rfl (lv_at hl 0 rfl) ?_
      refine va_get (D := (dC, dI)) (ci := 0) (v := .ref hd) (C := RX0) (T := TX0) (N := 8) hx hb hts inX0 hown hK hP 0 rfl rfl 7 (by decide) (hts _ tb_53) (fun _ h9 => h9) rfl dX0_blocksMappedTo_16 ?_
      refine lv_iload_n hx hb dX0_blocksMappedTo_19 rfl (lv_at hl 3 rfl) ?_
      refine xr_i (D := (dC, dI)) (wf := (dk_w hd hc a2 (gI + 4))) (u0 := d) (wr := [(h0, .inr (0, [.int (nI gW), .int (nI gC), .int (nI gV), .int (nI gB), .ref hs, .int (nI gM), .int (nI gI), .ref hd])), (hs, .inl (a1, gW, .inl st))]) (va_runVN (As := [.int (nI (gM + i))]) (rest := []) ⟨hx, hb, hml, hown, hts⟩ (k_X1_read l dC dI hd hc a2 (gI + 4) (by omega) H.size d (gM + i) (by omega)) ⟨va_cnB 1 hts gX0_80 rfl rfl rfl (hN _ nn_80) (hts _ tb_3) (by decide +kernel) ⟨Nat.le_of_ble_eq_true rfl, Nat.le_of_ble_eq_true rfl⟩, hts _ tb_125, hts _ ts_9⟩ (xp_v nwL_ok (hK.sub (tys' := [(a2, .int)]) [1] rfl) hN hP hD [2, 3] rfl rfl (va_recv hK hP (ci := 1) (q0 := 2) rfl rfl)) rfl rfl hl.1 rfl (lv_room (Nat.le_of_ble_eq_true rfl)) dX0_blocksMappedTo_20 ⟨Nat.zero_le _, Nat.zero_le _⟩) hP hD hS hA [2, 3] [0, 1] rfl rfl (by decide) (by decide) (fun r_2 u_3 H locs hw hP hD hS => ?_)
      obtain ⟨er_2, eu_3⟩ := hw
      rw [eu_3] at hP hD
      rw [er_2]
      have hP : va_P (dC, dI) vwCl [(h0, .inr (0, [.int (nI gW), .int (nI gC), .int (nI gV), .int (nI gB), .ref hs, .int (nI gM), .int (nI gI), .ref hd])), (hs, .inl (a1, gW, .inl st)), (hd, .inr (1, [.ref hc, .int d.2.1, .int d.2.2.1, .int d.2.2.2.1, .int d.2.2.2.2])), (hc, .inl (a2, (gI + 4), .inl d.1))] H := hP
      have hD : va_D A [(h0, .inr (0, [.int (nI gW), .int (nI gC), .int (nI gV), .int (nI gB), .ref hs, .int (nI gM), .int (nI gI), .ref hd])), (hs, .inl (a1, gW, .inl st)), (hd, .inr (1, [.ref hc, .int d.2.1, .int d.2.2.1, .int d.2.2.2.1, .int d.2.2.2.2])), (hc, .inl (a2, (gI + 4), .inl d.1))] := hD
      refine lv_iload_n hx hb dX0_blocksMappedTo_23 rfl (lv_at hl 1 rfl) ?_
      refine lv_iconst (v := 1) hx hb dX0_blocksMappedTo_24 (by decide) ?_
      refine lv_iadd hx hb dX0_blocksMappedTo_25 ?_
      refine lv_icmp_ne (tgt := 32) hx hb dX0_blocksMappedTo_26 (by decide) (fun c_4 => ?_) (fun c_4 => ?_)
      · refine lv_iinc (v := nI (gM + i + 1)) (lv' := [(3, .int (nI (gM + i + 1))), (0, .ref h0), (1, .int k), (2, .int (nI (cntC d.1 gM (k + 1) i)))]) hx hb dX0_blocksMappedTo_32 hl (k := 3) rfl (nI_1 (gM + i)) (by decide) rfl (fun ls hl => ?_)
        have hl : lv_has ls 4 [(3, .int (nI (gM + i + 1))), (0, .ref h0), (1, .int k), (2, .int (nI (cntC d.1 gM (k + 1) (i + 1))))] := by have q9 := hl; rw [cntC_mis c_4] at q9; exact q9
        have hl : lv_has ls 4 [(3, .int (nI (gM + (i + 1)))), (0, .ref h0), (1, .int k), (2, .int (nI (cntC d.1 gM (k + 1) (i + 1))))] := by have q9 := hl; rw [show gM + i + 1 = gM + (i + 1) from by omega] at q9; exact q9
        refine lv_goto (tgt := 7) hx hb dX0_blocksMappedTo_35 (by decide) ?_
        exact ih (i + 1) _ _ _ (by omega) (by omega) hP hD hS (lv_sub hl [1, 2, 3, 0] rfl)
      · refine lv_iinc (v := nI (cntC d.1 gM (k + 1) i + 1)) (lv' := [(2, .int (nI (cntC d.1 gM (k + 1) i + 1))), (0, .ref h0), (1, .int k), (3, .int (nI (gM + i)))]) hx hb dX0_blocksMappedTo_29 hl (k := 2) rfl (nI_1 (cntC d.1 gM (k + 1) i)) (by decide) rfl (fun ls hl => ?_)
        refine lv_iinc (v := nI (gM + i + 1)) (lv' := [(3, .int (nI (gM + i + 1))), (2, .int (nI (cntC d.1 gM (k + 1) i + 1))), (0, .ref h0), (1, .int k)]) hx hb dX0_blocksMappedTo_32 hl (k := 3) rfl (nI_1 (gM + i)) (by decide) rfl (fun ls hl => ?_)
        have hl : lv_has ls 4 [(3, .int (nI (gM + i + 1))), (2, .int (nI (cntC d.1 gM (k + 1) (i + 1)))), (0, .ref h0), (1, .int k)] := by have q9 := hl; rw [cntC_hit c_4] at q9; exact q9
        have hl : lv_has ls 4 [(3, .int (nI (gM + (i + 1)))), (2, .int (nI (cntC d.1 gM (k + 1) (i + 1)))), (0, .ref h0), (1, .int k)] := by have q9 := hl; rw [show gM + i + 1 = gM + (i + 1) from by omega] at q9; exact q9
        refine lv_goto (tgt := 7) hx hb dX0_blocksMappedTo_35 (by decide) ?_
        exact ih (i + 1) _ _ _ (by omega) (by omega) hP hD hS (lv_sub hl [2, 3, 1, 0] rfl)
set_option maxHeartbeats 4000000 in
set_option maxRecDepth 100000 in
theorem k_X0_blocksMappedTo (l : Launch) (dC : Nat → ClassId) (dI : Nat → Nat → Nat) (h0 hs hd hc : Nat) (a1 a2 : ClassId) (gW gC gV gB gM gI : Nat) (hg : geo gW gC gV gB gM gI) (sz : Nat) (st : Nat → Int32) (d : DS) (k : Int32) : ctI nwL l yX0_blocksMappedTo wsX0_blocksMappedTo ({ frames := 1, cells := 0, slots := 0, locals := 21 } : Room) (dC, dI) [(a1, .int), (a2, .int)] (xo_w h0 hs hd hc a1 a2 gW gC gV gB gM gI) (st, d) sz [.ref h0, .int k] (fun (r : Int32) (u : XS) => r = nI (cntC d.1 gM (k + 1) (gV * gB)) ∧ u = (st, d)) := by
  refine Met.ofW (cc := cX0_blocksMappedTo) (maxL := 4) (ret := (some .int)) (by decide) rfl ?_
  intro p e s m args below meth c s₁ B hml hv
  obtain ⟨rfl, hsz, hP, hK, hD0, hN⟩ := hv
  have hx := B.exec
  have hb := B.bytes
  have hr := B.returns
  have hts := fun w h => atoms_spec (ws := wsX0_blocksMappedTo) B.pre w (List.mem_cons_of_mem _ h)
  have hown : s.vm.findClass RX0 = some m.cls := findClass_of_methodNamed B.named
  have hlocks := B.notSynchronized
  subst hsz
  have hD := hD0.self (sz := s.heap.size)
  generalize hAe : va_A ((xo_w h0 hs hd hc a1 a2 gW gC gV gB gM gI) (st, d)) s.heap.size = A at hD ⊢
  have hA : ∀ q : Nat, s.heap.size ≤ q → A q := fun q h => by rw [← hAe]; exact Or.inr h
  have hS : va_S A s.heap s.heap [] := va_S.rf
  have hl := lv_entry ([.ref h0, .int k]) (n := 4) (Nat.le_of_ble_eq_true rfl)
  rw [lg_entry_eq]
  generalize (lg_sl ([.ref h0, .int k]) ++ List.replicate (4 - (lg_sl ([.ref h0, .int k])).length) Slot.unset).toArray = ls at hl ⊢
  have hP : va_P (dC, dI) vwCl [(h0, .inr (0, [.int (nI gW), .int (nI gC), .int (nI gV), .int (nI gB), .ref hs, .int (nI gM), .int (nI gI), .ref hd])), (hs, .inl (a1, gW, .inl st)), (hd, .inr (1, [.ref hc, .int d.2.1, .int d.2.2.1, .int d.2.2.2.1, .int d.2.2.2.2])), (hc, .inl (a2, (gI + 4), .inl d.1))] s.heap := hP
  have hD : va_D A [(h0, .inr (0, [.int (nI gW), .int (nI gC), .int (nI gV), .int (nI gB), .ref hs, .int (nI gM), .int (nI gI), .ref hd])), (hs, .inl (a1, gW, .inl st)), (hd, .inr (1, [.ref hc, .int d.2.1, .int d.2.2.1, .int d.2.2.2.1, .int d.2.2.2.2])), (hc, .inl (a2, (gI + 4), .inl d.1))] := hD
  have hl : lv_has ls 4 [(0, .ref h0), (1, .int k)] := hl
  obtain ⟨⟨hW1, hW2⟩, ⟨hC1, hC2⟩, ⟨hV1, hV2⟩, ⟨hB1, hB2⟩, eM, eI⟩ := id hg
  obtain ⟨hM2, hq2⟩ := geo_b hg
  refine lv_iconst (v := 0) hx hb dX0_blocksMappedTo_0 (by decide) ?_
  refine lv_istore_n (lv' := [(2, .int 0), (0, .ref h0), (1, .int k)]) hx hb dX0_blocksMappedTo_1 rfl hl (by decide) rfl (fun ls hl => ?_)
  refine lv_aload_n hx hb dX0_blocksMappedTo_2 rfl (lv_at hl 1 rfl) ?_
  refine va_get (D := (dC, dI)) (ci := 0) (v := .int (nI gM)) (C := RX0) (T := TX0) (N := 8) hx hb hts inX0 hown hK hP 0 rfl rfl 5 (by decide) (hts _ tb_51) (fun _ h9 => h9) rfl dX0_blocksMappedTo_3 ?_
  refine lv_istore_n (lv' := [(3, .int (nI gM)), (2, .int 0), (0, .ref h0), (1, .int k)]) hx hb dX0_blocksMappedTo_6 rfl hl (by decide) rfl (fun ls hl => ?_)
  have hl : lv_has ls 4 [(3, .int (nI (gM + 0))), (2, .int (nI (cntC d.1 gM (k + 1) 0))), (0, .ref h0), (1, .int k)] := hl
  refine lp_X0_blocksMappedTo_7 h0 hs hd hc a1 a2 gW gC gV gB gM gI hg st d k hx hb hml hown hts hK hN hA  (fun  H locs ls  hP hD hS hl => ?_) (gV * gB + 1) 0 _ _ _ (by omega) (by omega) hP hD hS (lv_sub hl [2, 3, 1, 0] rfl)
  · have hP : va_P (dC, dI) vwCl [(h0, .inr (0, [.int (nI gW), .int (nI gC), .int (nI gV), .int (nI gB), .ref hs, .int (nI gM), .int (nI gI), .ref hd])), (hs, .inl (a1, gW, .inl st)), (hd, .inr (1, [.ref hc, .int d.2.1, .int d.2.2.1, .int d.2.2.2.1, .int d.2.2.2.2])), (hc, .inl (a2, (gI + 4), .inl d.1))] H := hP
    have hD : va_D A [(h0, .inr (0, [.int (nI gW), .int (nI gC), .int (nI gV), .int (nI gB), .ref hs, .int (nI gM), .int (nI gI), .ref hd])), (hs, .inl (a1, gW, .inl st)), (hd, .inr (1, [.ref hc, .int d.2.1, .int d.2.2.1, .int d.2.2.2.1, .int d.2.2.2.2])), (hc, .inl (a2, (gI + 4), .inl d.1))] := hD
    refine lv_iload_n hx hb dX0_blocksMappedTo_38 rfl (lv_at hl 2 rfl) ?_
    exact W.iret (v := nI (cntC d.1 gM (k + 1) (gV * gB))) hx hb hr (fun t ht hW => ⟨⟨nI (cntC d.1 gM (k + 1) (gV * gB)), (st, d), rfl, ⟨rfl, rfl⟩, by rw [ht]; exact hP, hD⟩, hS.F ht⟩) hS.2.2 dX0_blocksMappedTo_39
set_option maxHeartbeats 4000000 in
set_option maxRecDepth 100000 in
theorem k_X0_isUsed (l : Launch) (dC : Nat → ClassId) (dI : Nat → Nat → Nat) (h0 hs hd hc : Nat) (a1 a2 : ClassId) (gW gC gV gB gM gI : Nat) (hg : geo gW gC gV gB gM gI) (sz : Nat) (st : Nat → Int32) (d : DS) (k : Int32) : ctI nwL l yX0_isUsed wsX0_isUsed ({ frames := 2, cells := 0, slots := 0, locals := 44 } : Room) (dC, dI) [(a1, .int), (a2, .int)] (xo_w h0 hs hd hc a1 a2 gW gC gV gB gM gI) (st, d) sz [.ref h0, .int k] (fun (r : Int32) (u : XS) => r = usd d.1 gM (gV * gB) k ∧ u = (st, d)) := by
  refine Met.ofW (cc := cX0_isUsed) (maxL := 2) (ret := (some .boolean)) (by decide) rfl ?_
  intro p e s m args below meth c s₁ B hml hv
  obtain ⟨rfl, hsz, hP, hK, hD0, hN⟩ := hv
  have hx := B.exec
  have hb := B.bytes
  have hr := B.returns
  have hts := fun w h => atoms_spec (ws := wsX0_isUsed) B.pre w (List.mem_cons_of_mem _ h)
  have hown : s.vm.findClass RX0 = some m.cls := findClass_of_methodNamed B.named
  have hlocks := B.notSynchronized
  subst hsz
  have hD := hD0.self (sz := s.heap.size)
  generalize hAe : va_A ((xo_w h0 hs hd hc a1 a2 gW gC gV gB gM gI) (st, d)) s.heap.size = A at hD ⊢
  have hA : ∀ q : Nat, s.heap.size ≤ q → A q := fun q h => by rw [← hAe]; exact Or.inr h
  have hS : va_S A s.heap s.heap [] := va_S.rf
  have hl := lv_entry ([.ref h0, .int k]) (n := 2) (Nat.le_of_ble_eq_true rfl)
  rw [lg_entry_eq]
  generalize (lg_sl ([.ref h0, .int k]) ++ List.replicate (2 - (lg_sl ([.ref h0, .int k])).length) Slot.unset).toArray = ls at hl ⊢
  have hP : va_P (dC, dI) vwCl [(h0, .inr (0, [.int (nI gW), .int (nI gC), .int (nI gV), .int (nI gB), .ref hs, .int (nI gM), .int (nI gI), .ref hd])), (hs, .inl (a1, gW, .inl st)), (hd, .inr (1, [.ref hc, .int d.2.1, .int d.2.2.1, .int d.2.2.2.1, .int d.2.2.2.2])), (hc, .inl (a2, (gI + 4), .inl d.1))] s.heap := hP
  have hD : va_D A [(h0, .inr (0, [.int (nI gW), .int (nI gC), .int (nI gV), .int (nI gB), .ref hs, .int (nI gM), .int (nI gI), .ref hd])), (hs, .inl (a1, gW, .inl st)), (hd, .inr (1, [.ref hc, .int d.2.1, .int d.2.2.1, .int d.2.2.2.1, .int d.2.2.2.2])), (hc, .inl (a2, (gI + 4), .inl d.1))] := hD
  have hl : lv_has ls 2 [(0, .ref h0), (1, .int k)] := hl
  obtain ⟨⟨hW1, hW2⟩, ⟨hC1, hC2⟩, ⟨hV1, hV2⟩, ⟨hB1, hB2⟩, eM, eI⟩ := id hg
  obtain ⟨hM2, hq2⟩ := geo_b hg
  have hcl := cntC_le d.1 gM (k + 1) (gV * gB)
  refine lv_aload_n hx hb dX0_isUsed_0 rfl (lv_at hl 0 rfl) ?_
  refine lv_iload_n hx hb dX0_isUsed_1 rfl (lv_at hl 1 rfl) ?_
  refine xr_i (D := (dC, dI)) (wf := (xo_w h0 hs hd hc a1 a2 gW gC gV gB gM gI)) (u0 := (st, d)) (wr := []) (va_runV (As := [.int k]) (rest := []) ⟨hx, hb, hml, hown, hts⟩ (k_X0_blocksMappedTo l dC dI h0 hs hd hc a1 a2 gW gC gV gB gM gI hg s.heap.size st d k) (cwV 1 hts gX0_90 rfl rfl rfl (by decide +kernel) ⟨Nat.le_of_ble_eq_true rfl, Nat.le_of_ble_eq_true rfl⟩) (xp_v nwL_ok hK hN hP hD [0, 1, 2, 3] rfl rfl (va_recv hK hP (ci := 0) (q0 := 0) rfl rfl)) rfl rfl hl.1 rfl (lv_room (Nat.le_of_ble_eq_true rfl)) dX0_isUsed_2 ⟨Nat.zero_le _, Nat.zero_le _⟩) hP hD hS hA [0, 1, 2, 3] [] rfl rfl (by decide) (by decide) (fun r_1 u_2 H locs hw hP hD hS => ?_)
  obtain ⟨er_1, eu_2⟩ := hw
  rw [eu_2] at hP hD
  rw [er_1]
  have hP : va_P (dC, dI) vwCl [(h0, .inr (0, [.int (nI gW), .int (nI gC), .int (nI gV), .int (nI gB), .ref hs, .int (nI gM), .int (nI gI), .ref hd])), (hs, .inl (a1, gW, .inl st)), (hd, .inr (1, [.ref hc, .int d.2.1, .int d.2.2.1, .int d.2.2.2.1, .int d.2.2.2.2])), (hc, .inl (a2, (gI + 4), .inl d.1))] H := hP
  have hD : va_D A [(h0, .inr (0, [.int (nI gW), .int (nI gC), .int (nI gV), .int (nI gB), .ref hs, .int (nI gM), .int (nI gI), .ref hd])), (hs, .inl (a1, gW, .inl st)), (hd, .inr (1, [.ref hc, .int d.2.1, .int d.2.2.1, .int d.2.2.2.1, .int d.2.2.2.2])), (hc, .inl (a2, (gI + 4), .inl d.1))] := hD
  refine lv_if_le (tgt := 12) hx hb dX0_isUsed_5 (by decide) (fun c_3 => ?_) (fun c_3 => ?_)
  · have c_3 : cntC d.1 gM (k + 1) (gV * gB) ≤ 0 := (nI_leI (a := cntC d.1 gM (k + 1) (gV * gB)) (b := 0) (by omega) (by omega)).mp c_3
    refine lv_iconst (v := 0) hx hb dX0_isUsed_12 (by decide) ?_
    exact W.zret (v := 0) hx hb hr rfl (fun t ht hW => ⟨⟨0, (st, d), rfl, ⟨by unfold usd; rw [if_pos (by omega)], rfl⟩, by rw [ht]; exact hP, hD⟩, hS.F ht⟩) hS.2.2 dX0_isUsed_13
  · have c_3 : ¬ (cntC d.1 gM (k + 1) (gV * gB) ≤ 0) := fun q9 => c_3 ((nI_leI (a := cntC d.1 gM (k + 1) (gV * gB)) (b := 0) (by omega) (by omega)).mpr q9)
    refine lv_iconst (v := 1) hx hb dX0_isUsed_8 (by decide) ?_
    refine lv_goto (tgt := 13) hx hb dX0_isUsed_9 (by decide) ?_
    exact W.zret (v := 1) hx hb hr rfl (fun t ht hW => ⟨⟨1, (st, d), rfl, ⟨by unfold usd; rw [if_neg (by omega)], rfl⟩, by rw [ht]; exact hP, hD⟩, hS.F ht⟩) hS.2.2 dX0_isUsed_13
set_option maxHeartbeats 4000000 in
set_option maxRecDepth 100000 in
theorem lp_X0_usedSlots_4 {p : Program} {l : Launch} {e : Env} {s : State} {m : MethodId} {args : Array Value} {below : List Frame} {meth : Method} {c : Code} {Q : State → Prop} {A : Nat → Prop} {dC : Nat → ClassId} {dI : Nat → Nat → Nat} (h0 hs hd hc : Nat) (a1 a2 : ClassId) (gW gC gV gB gM gI : Nat) (hg : geo gW gC gV gB gM gI) (st : Nat → Int32) (d : DS) (hx : p.tables.exec = Jvm.exec) (hb : c.code = cX0_usedSlots) (hml : c.maxLocals = 3) (hown : s.vm.findClass RX0 = some m.cls) (hts : ∀ w ∈ TBG, w.before args s = true) (hK : va_K (dC, dI) vwCl [(a1, .int), (a2, .int)] s) (hN : nwOk nwL s) (hA : ∀ q : Nat, s.heap.size ≤ q → A q)  (K : ∀  (H : Heap) (locs : List Loc) (ls : Array Slot), va_P (dC, dI) vwCl (xo_w h0 hs hd hc a1 a2 gW gC gV gB gM gI (st, d)) H → va_D A (xo_w h0 hs hd hc a1 a2 gW gC gV gB gM gI (st, d)) → va_S A s.heap H locs → lv_has ls 3 [(0, .ref h0), (1, .int (nI (usN d.1 gM (gV * gB) (gC + 1))))] → W p l e ({ frames := 3, cells := 0, slots := 0, locals := 65 } : Room) s m args below meth c H locs 0 0 Q (F0 m 29 ls [])) : ∀ (n : Nat) (i : Nat) (H : Heap) (locs : List Loc) (ls : Array Slot), gC + 1 - i < n → (i ≤ gC + 1) → va_P (dC, dI) vwCl (xo_w h0 hs hd hc a1 a2 gW gC gV gB gM gI (st, d)) H → va_D A (xo_w h0 hs hd hc a1 a2 gW gC gV gB gM gI (st, d)) → va_S A s.heap H locs → lv_has ls 3 [(0, .ref h0), (1, .int (nI (usN d.1 gM (gV * gB) i))), (2, .int (nI i))] → W p l e ({ frames := 3, cells := 0, slots := 0, locals := 65 } : Room) s m args below meth c H locs 0 0 Q (F0 m 4 ls []) := by
  obtain ⟨⟨hW1, hW2⟩, ⟨hC1, hC2⟩, ⟨hV1, hV2⟩, ⟨hB1, hB2⟩, eM, eI⟩ := id hg
  obtain ⟨hM2, hq2⟩ := geo_b hg
  intro n
  induction n with
  | zero => intro i H locs ls hfu; exact absurd hfu (by omega)
  | succ n ih =>
    intro i H locs ls hfu hi hP hD hS hl
    have hP : va_P (dC, dI) vwCl [(h0, .inr (0, [.int (nI gW), .int (nI gC), .int (nI gV), .int (nI gB), .ref hs, .int (nI gM), .int (nI gI), .ref hd])), (hs, .inl (a1, gW, .inl st)), (hd, .inr (1, [.ref hc, .int d.2.1, .int d.2.2.1, .int d.2.2.2.1, .int d.2.2.2.2])), (hc, .inl (a2, (gI + 4), .inl d.1))] H := hP
    have hD : va_D A [(h0, .inr (0, [.int (nI gW), .int (nI gC), .int (nI gV), .int (nI gB), .ref hs, .int (nI gM), .int (nI gI), .ref hd])), (hs, .inl (a1, gW, .inl st)), (hd, .inr (1, [.ref hc, .int d.2.1, .int d.2.2.1, .int d.2.2.2.1, .int d.2.2.2.2])), (hc, .inl (a2, (gI + 4), .inl d.1))] := hD
    refine lv_iload_n hx hb dX0_usedSlots_4 rfl (lv_at hl 2 rfl) ?_
    refine lv_aload_n hx hb dX0_usedSlots_5 rfl (lv_at hl 0 rfl) ?_
    refine va_get (D := (dC, dI)) (ci := 0) (v := .int (nI gC)) (C := RX0) (T := TX0) (N := 8) hx hb hts inX0 hown hK hP 0 rfl rfl 1 (by decide) (hts _ tb_47) (fun _ h9 => h9) rfl dX0_usedSlots_6 ?_
    refine lv_icmp_gt (tgt := 29) hx hb dX0_usedSlots_9 (by decide) (fun c_1 => ?_) (fun c_1 => ?_)
    · have c_1 : gC < i := (nI_ltI (a := gC) (b := i) (by omega) (by omega)).mp c_1
      have hie : i = gC + 1 := by omega
      rw [hie] at hl
      exact K  _ _ _  hP hD hS (lv_sub hl [0, 1] rfl)
    · have c_1 : ¬ (gC < i) := fun q9 => c_1 ((nI_ltI (a := gC) (b := i) (by omega) (by omega)).mpr q9)
      refine lv_aload_n hx hb dX0_usedSlots_12 rfl (lv_at hl 0 rfl) ?_
      refine lv_iload_n hx hb dX0_usedSlots_13 rfl (lv_at hl 2 rfl) ?_
      refine xr_i (D := (dC, dI)) (wf := (xo_w h0 hs hd hc a1 a2 gW gC gV gB gM gI)) (u0 := (st, d)) (wr := []) (va_runV (As := [.int (nI i)]) (rest := []) ⟨hx, hb, hml, hown, hts⟩ (k_X0_isUsed l dC dI h0 hs hd hc a1 a2 gW gC gV gB gM gI hg H.size st d (nI i)) (cwV 1 hts gX0_120 rfl rfl rfl (by decide +kernel) ⟨Nat.le_of_ble_eq_true rfl, Nat.le_of_ble_eq_true rfl⟩) (xp_v nwL_ok hK hN hP hD [0, 1, 2, 3] rfl rfl (va_recv hK hP (ci := 0) (q0 := 0) rfl rfl)) rfl rfl hl.1 rfl (lv_room (Nat.le_of_ble_eq_true rfl)) dX0_usedSlots_14 ⟨Nat.zero_le _, Nat.zero_le _⟩) hP hD hS hA [0, 1, 2, 3] [] rfl rfl (by decide) (by decide) (fun r_2 u_3 H locs hw hP hD hS => ?_)
      obtain ⟨er_2, eu_3⟩ := hw
      rw [eu_3] at hP hD
      rw [er_2]
      have hP : va_P (dC, dI) vwCl [(h0, .inr (0, [.int (nI gW), .int (nI gC), .int (nI gV), .int (nI gB), .ref hs, .int (nI gM), .int (nI gI), .ref hd])), (hs, .inl (a1, gW, .inl st)), (hd, .inr (1, [.ref hc, .int d.2.1, .int d.2.2.1, .int d.2.2.2.1, .int d.2.2.2.2])), (hc, .inl (a2, (gI + 4), .inl d.1))] H := hP
      have hD : va_D A [(h0, .inr (0, [.int (nI gW), .int (nI gC), .int (nI gV), .int (nI gB), .ref hs, .int (nI gM), .int (nI gI), .ref hd])), (hs, .inl (a1, gW, .inl st)), (hd, .inr (1, [.ref hc, .int d.2.1, .int d.2.2.1, .int d.2.2.2.1, .int d.2.2.2.2])), (hc, .inl (a2, (gI + 4), .inl d.1))] := hD
      refine lv_if_eq (tgt := 23) hx hb dX0_usedSlots_17 (by decide) (fun c_4 => ?_) (fun c_4 => ?_)
      · refine lv_iinc (v := nI (i + 1)) (lv' := [(2, .int (nI (i + 1))), (0, .ref h0), (1, .int (nI (usN d.1 gM (gV * gB) i)))]) hx hb dX0_usedSlots_23 hl (k := 2) rfl (nI_1 i) (by decide) rfl (fun ls hl => ?_)
        have hl : lv_has ls 3 [(2, .int (nI (i + 1))), (0, .ref h0), (1, .int (nI (usN d.1 gM (gV * gB) (i + 1))))] := by have q9 := hl; rw [usN_mis c_4] at q9; exact q9
        refine lv_goto (tgt := 4) hx hb dX0_usedSlots_26 (by decide) ?_
        exact ih (i + 1) _ _ _ (by omega) (by omega) hP hD hS (lv_sub hl [1, 2, 0] rfl)
      · refine lv_iinc (v := nI (usN d.1 gM (gV * gB) i + 1)) (lv' := [(1, .int (nI (usN d.1 gM (gV * gB) i + 1))), (0, .ref h0), (2, .int (nI i))]) hx hb dX0_usedSlots_20 hl (k := 1) rfl (nI_1 (usN d.1 gM (gV * gB) i)) (by decide) rfl (fun ls hl => ?_)
        refine lv_iinc (v := nI (i + 1)) (lv' := [(2, .int (nI (i + 1))), (1, .int (nI (usN d.1 gM (gV * gB) i + 1))), (0, .ref h0)]) hx hb dX0_usedSlots_23 hl (k := 2) rfl (nI_1 i) (by decide) rfl (fun ls hl => ?_)
        have hl : lv_has ls 3 [(2, .int (nI (i + 1))), (1, .int (nI (usN d.1 gM (gV * gB) (i + 1)))), (0, .ref h0)] := by have q9 := hl; rw [usN_hit c_4] at q9; exact q9
        refine lv_goto (tgt := 4) hx hb dX0_usedSlots_26 (by decide) ?_
        exact ih (i + 1) _ _ _ (by omega) (by omega) hP hD hS (lv_sub hl [2, 1, 0] rfl)
set_option maxHeartbeats 4000000 in
set_option maxRecDepth 100000 in
theorem k_X0_usedSlots (l : Launch) (dC : Nat → ClassId) (dI : Nat → Nat → Nat) (h0 hs hd hc : Nat) (a1 a2 : ClassId) (gW gC gV gB gM gI : Nat) (hg : geo gW gC gV gB gM gI) (sz : Nat) (st : Nat → Int32) (d : DS)  : ctI nwL l yX0_usedSlots wsX0_usedSlots ({ frames := 3, cells := 0, slots := 0, locals := 65 } : Room) (dC, dI) [(a1, .int), (a2, .int)] (xo_w h0 hs hd hc a1 a2 gW gC gV gB gM gI) (st, d) sz [.ref h0] (fun (r : Int32) (u : XS) => r = nI (usN d.1 gM (gV * gB) (gC + 1)) ∧ u = (st, d)) := by
  refine Met.ofW (cc := cX0_usedSlots) (maxL := 3) (ret := (some .int)) (by decide) rfl ?_
  intro p e s m args below meth c s₁ B hml hv
  obtain ⟨rfl, hsz, hP, hK, hD0, hN⟩ := hv
  have hx := B.exec
  have hb := B.bytes
  have hr := B.returns
  have hts := fun w h => atoms_spec (ws := wsX0_usedSlots) B.pre w (List.mem_cons_of_mem _ h)
  have hown : s.vm.findClass RX0 = some m.cls := findClass_of_methodNamed B.named
  have hlocks := B.notSynchronized
  subst hsz
  have hD := hD0.self (sz := s.heap.size)
  generalize hAe : va_A ((xo_w h0 hs hd hc a1 a2 gW gC gV gB gM gI) (st, d)) s.heap.size = A at hD ⊢
  have hA : ∀ q : Nat, s.heap.size ≤ q → A q := fun q h => by rw [← hAe]; exact Or.inr h
  have hS : va_S A s.heap s.heap [] := va_S.rf
  have hl := lv_entry ([.ref h0]) (n := 3) (Nat.le_of_ble_eq_true rfl)
  rw [lg_entry_eq]
  generalize (lg_sl ([.ref h0]) ++ List.replicate (3 - (lg_sl ([.ref h0])).length) Slot.unset).toArray = ls at hl ⊢
  have hP : va_P (dC, dI) vwCl [(h0, .inr (0, [.int (nI gW), .int (nI gC), .int (nI gV), .int (nI gB), .ref hs, .int (nI gM), .int (nI gI), .ref hd])), (hs, .inl (a1, gW, .inl st)), (hd, .inr (1, [.ref hc, .int d.2.1, .int d.2.2.1, .int d.2.2.2.1, .int d.2.2.2.2])), (hc, .inl (a2, (gI + 4), .inl d.1))] s.heap := hP
  have hD : va_D A [(h0, .inr (0, [.int (nI gW), .int (nI gC), .int (nI gV), .int (nI gB), .ref hs, .int (nI gM), .int (nI gI), .ref hd])), (hs, .inl (a1, gW, .inl st)), (hd, .inr (1, [.ref hc, .int d.2.1, .int d.2.2.1, .int d.2.2.2.1, .int d.2.2.2.2])), (hc, .inl (a2, (gI + 4), .inl d.1))] := hD
  have hl : lv_has ls 3 [(0, .ref h0)] := hl
  obtain ⟨⟨hW1, hW2⟩, ⟨hC1, hC2⟩, ⟨hV1, hV2⟩, ⟨hB1, hB2⟩, eM, eI⟩ := id hg
  obtain ⟨hM2, hq2⟩ := geo_b hg
  refine lv_iconst (v := 0) hx hb dX0_usedSlots_0 (by decide) ?_
  refine lv_istore_n (lv' := [(1, .int 0), (0, .ref h0)]) hx hb dX0_usedSlots_1 rfl hl (by decide) rfl (fun ls hl => ?_)
  refine lv_iconst (v := 0) hx hb dX0_usedSlots_2 (by decide) ?_
  refine lv_istore_n (lv' := [(2, .int 0), (1, .int 0), (0, .ref h0)]) hx hb dX0_usedSlots_3 rfl hl (by decide) rfl (fun ls hl => ?_)
  have hl : lv_has ls 3 [(2, .int (nI 0)), (1, .int (nI (usN d.1 gM (gV * gB) 0))), (0, .ref h0)] := hl
  refine lp_X0_usedSlots_4 h0 hs hd hc a1 a2 gW gC gV gB gM gI hg st d hx hb hml hown hts hK hN hA  (fun  H locs ls  hP hD hS hl => ?_) (gC + 2) 0 _ _ _ (by omega) (by omega) hP hD hS (lv_sub hl [2, 1, 0] rfl)
  · have hP : va_P (dC, dI) vwCl [(h0, .inr (0, [.int (nI gW), .int (nI gC), .int (nI gV), .int (nI gB), .ref hs, .int (nI gM), .int (nI gI), .ref hd])), (hs, .inl (a1, gW, .inl st)), (hd, .inr (1, [.ref hc, .int d.2.1, .int d.2.2.1, .int d.2.2.2.1, .int d.2.2.2.2])), (hc, .inl (a2, (gI + 4), .inl d.1))] H := hP
    have hD : va_D A [(h0, .inr (0, [.int (nI gW), .int (nI gC), .int (nI gV), .int (nI gB), .ref hs, .int (nI gM), .int (nI gI), .ref hd])), (hs, .inl (a1, gW, .inl st)), (hd, .inr (1, [.ref hc, .int d.2.1, .int d.2.2.1, .int d.2.2.2.1, .int d.2.2.2.2])), (hc, .inl (a2, (gI + 4), .inl d.1))] := hD
    refine lv_iload_n hx hb dX0_usedSlots_29 rfl (lv_at hl 1 rfl) ?_
    exact W.iret (v := nI (usN d.1 gM (gV * gB) (gC + 1))) hx hb hr (fun t ht hW => ⟨⟨nI (usN d.1 gM (gV * gB) (gC + 1)), (st, d), rfl, ⟨rfl, rfl⟩, by rw [ht]; exact hP, hD⟩, hS.F ht⟩) hS.2.2 dX0_usedSlots_30
set_option maxHeartbeats 4000000 in
set_option maxRecDepth 100000 in
theorem lp_X0_lowestUnusedSlot_2 {p : Program} {l : Launch} {e : Env} {s : State} {m : MethodId} {args : Array Value} {below : List Frame} {meth : Method} {c : Code} {Q : State → Prop} {A : Nat → Prop} {dC : Nat → ClassId} {dI : Nat → Nat → Nat} (h0 hs hd hc : Nat) (a1 a2 : ClassId) (gW gC gV gB gM gI : Nat) (hg : geo gW gC gV gB gM gI) (st : Nat → Int32) (d : DS) (hx : p.tables.exec = Jvm.exec) (hb : c.code = cX0_lowestUnusedSlot) (hml : c.maxLocals = 2) (hown : s.vm.findClass RX0 = some m.cls) (hts : ∀ w ∈ TBG, w.before args s = true) (hK : va_K (dC, dI) vwCl [(a1, .int), (a2, .int)] s) (hN : nwOk nwL s) (hA : ∀ q : Nat, s.heap.size ≤ q → A q)  (K : ∀ (i : Nat) (H : Heap) (locs : List Loc) (ls : Array Slot), (i ≤ gC) → (∀ j, j < i → ¬ usd d.1 gM (gV * gB) (nI j) = 0) → (i < gC → usd d.1 gM (gV * gB) (nI i) = 0) → va_P (dC, dI) vwCl (xo_w h0 hs hd hc a1 a2 gW gC gV gB gM gI (st, d)) H → va_D A (xo_w h0 hs hd hc a1 a2 gW gC gV gB gM gI (st, d)) → va_S A s.heap H locs → lv_has ls 2 [(0, .ref h0), (1, .int (nI i))] → W p l e ({ frames := 3, cells := 0, slots := 0, locals := 65 } : Room) s m args below meth c H locs 0 0 Q (F0 m 24 ls [])) : ∀ (n : Nat) (i : Nat) (H : Heap) (locs : List Loc) (ls : Array Slot), gC - i < n → (i ≤ gC) → (∀ j, j < i → ¬ usd d.1 gM (gV * gB) (nI j) = 0) → va_P (dC, dI) vwCl (xo_w h0 hs hd hc a1 a2 gW gC gV gB gM gI (st, d)) H → va_D A (xo_w h0 hs hd hc a1 a2 gW gC gV gB gM gI (st, d)) → va_S A s.heap H locs → lv_has ls 2 [(0, .ref h0), (1, .int (nI i))] → W p l e ({ frames := 3, cells := 0, slots := 0, locals := 65 } : Room) s m args below meth c H locs 0 0 Q (F0 m 2 ls []) := by
  obtain ⟨⟨hW1, hW2⟩, ⟨hC1, hC2⟩, ⟨hV1, hV2⟩, ⟨hB1, hB2⟩, eM, eI⟩ := id hg
  obtain ⟨hM2, hq2⟩ := geo_b hg
  intro n
  induction n with
  | zero => intro i H locs ls hfu; exact absurd hfu (by omega)
  | succ n ih =>
    intro i H locs ls hfu hi hj hP hD hS hl
    have hP : va_P (dC, dI) vwCl [(h0, .inr (0, [.int (nI gW), .int (nI gC), .int (nI gV), .int (nI gB), .ref hs, .int (nI gM), .int (nI gI), .ref hd])), (hs, .inl (a1, gW, .inl st)), (hd, .inr (1, [.ref hc, .int d.2.1, .int d.2.2.1, .int d.2.2.2.1, .int d.2.2.2.2])), (hc, .inl (a2, (gI + 4), .inl d.1))] H := hP
    have hD : va_D A [(h0, .inr (0, [.int (nI gW), .int (nI gC), .int (nI gV), .int (nI gB), .ref hs, .int (nI gM), .int (nI gI), .ref hd])), (hs, .inl (a1, gW, .inl st)), (hd, .inr (1, [.ref hc, .int d.2.1, .int d.2.2.1, .int d.2.2.2.1, .int d.2.2.2.2])), (hc, .inl (a2, (gI + 4), .inl d.1))] := hD
    refine lv_iload_n hx hb dX0_lowestUnusedSlot_2 rfl (lv_at hl 1 rfl) ?_
    refine lv_aload_n hx hb dX0_lowestUnusedSlot_3 rfl (lv_at hl 0 rfl) ?_
    refine va_get (D := (dC, dI)) (ci := 0) (v := .int (nI gC)) (C := RX0) (T := TX0) (N := 8) hx hb hts inX0 hown hK hP 0 rfl rfl 1 (by decide) (hts _ tb_47) (fun _ h9 => h9) rfl dX0_lowestUnusedSlot_4 ?_
    refine lv_icmp_ge (tgt := 24) hx hb dX0_lowestUnusedSlot_7 (by decide) (fun c_1 => ?_) (fun c_1 => ?_)
    · have c_1 : gC ≤ i := (nI_leI (a := gC) (b := i) (by omega) (by omega)).mp c_1
      exact K i _ _ _ (by omega) (hj) (fun q => absurd q (by omega)) hP hD hS (lv_sub hl [0, 1] rfl)
    · have c_1 : ¬ (gC ≤ i) := fun q9 => c_1 ((nI_leI (a := gC) (b := i) (by omega) (by omega)).mpr q9)
      refine lv_aload_n hx hb dX0_lowestUnusedSlot_10 rfl (lv_at hl 0 rfl) ?_
      refine lv_iload_n hx hb dX0_lowestUnusedSlot_11 rfl (lv_at hl 1 rfl) ?_
      refine xr_i (D := (dC, dI)) (wf := (xo_w h0 hs hd hc a1 a2 gW gC gV gB gM gI)) (u0 := (st, d)) (wr := []) (va_runV (As := [.int (nI i)]) (rest := []) ⟨hx, hb, hml, hown, hts⟩ (k_X0_isUsed l dC dI h0 hs hd hc a1 a2 gW gC gV gB gM gI hg H.size st d (nI i)) (cwV 1 hts gX0_120 rfl rfl rfl (by decide +kernel) ⟨Nat.le_of_ble_eq_true rfl, Nat.le_of_ble_eq_true rfl⟩) (xp_v nwL_ok hK hN hP hD [0, 1, 2, 3] rfl rfl (va_recv hK hP (ci := 0) (q0 := 0) rfl rfl)) rfl rfl hl.1 rfl (lv_room (Nat.le_of_ble_eq_true rfl)) dX0_lowestUnusedSlot_12 ⟨Nat.zero_le _, Nat.zero_le _⟩) hP hD hS hA [0, 1, 2, 3] [] rfl rfl (by decide) (by decide) (fun r_2 u_3 H locs hw hP hD hS => ?_)
      obtain ⟨er_2, eu_3⟩ := hw
      rw [eu_3] at hP hD
      rw [er_2]
      have hP : va_P (dC, dI) vwCl [(h0, .inr (0, [.int (nI gW), .int (nI gC), .int (nI gV), .int (nI gB), .ref hs, .int (nI gM), .int (nI gI), .ref hd])), (hs, .inl (a1, gW, .inl st)), (hd, .inr (1, [.ref hc, .int d.2.1, .int d.2.2.1, .int d.2.2.2.1, .int d.2.2.2.2])), (hc, .inl (a2, (gI + 4), .inl d.1))] H := hP
      have hD : va_D A [(h0, .inr (0, [.int (nI gW), .int (nI gC), .int (nI gV), .int (nI gB), .ref hs, .int (nI gM), .int (nI gI), .ref hd])), (hs, .inl (a1, gW, .inl st)), (hd, .inr (1, [.ref hc, .int d.2.1, .int d.2.2.1, .int d.2.2.2.1, .int d.2.2.2.2])), (hc, .inl (a2, (gI + 4), .inl d.1))] := hD
      refine lv_if_eq (tgt := 24) hx hb dX0_lowestUnusedSlot_15 (by decide) (fun c_4 => ?_) (fun c_4 => ?_)
      · exact K i _ _ _ (by omega) (hj) (fun _ => c_4) hP hD hS (lv_sub hl [0, 1] rfl)
      · refine lv_iinc (v := nI (i + 1)) (lv' := [(1, .int (nI (i + 1))), (0, .ref h0)]) hx hb dX0_lowestUnusedSlot_18 hl (k := 1) rfl (nI_1 i) (by decide) rfl (fun ls hl => ?_)
        refine lv_goto (tgt := 2) hx hb dX0_lowestUnusedSlot_21 (by decide) ?_
        exact ih (i + 1) _ _ _ (by omega) (by omega) (lt_s hj c_4) hP hD hS (lv_sub hl [1, 0] rfl)
set_option maxHeartbeats 4000000 in
set_option maxRecDepth 100000 in
theorem k_X0_lowestUnusedSlot (l : Launch) (dC : Nat → ClassId) (dI : Nat → Nat → Nat) (h0 hs hd hc : Nat) (a1 a2 : ClassId) (gW gC gV gB gM gI : Nat) (hg : geo gW gC gV gB gM gI) (sz : Nat) (st : Nat → Int32) (d : DS)  : ctI nwL l yX0_lowestUnusedSlot wsX0_lowestUnusedSlot ({ frames := 3, cells := 0, slots := 0, locals := 65 } : Room) (dC, dI) [(a1, .int), (a2, .int)] (xo_w h0 hs hd hc a1 a2 gW gC gV gB gM gI) (st, d) sz [.ref h0] (fun (r : Int32) (u : XS) => (∃ i : Nat, r = nI i ∧ i ≤ gC ∧ (∀ j, j < i → ¬ usd d.1 gM (gV * gB) (nI j) = 0) ∧ (i < gC → usd d.1 gM (gV * gB) (nI i) = 0)) ∧ u = (st, d)) := by
  refine Met.ofW (cc := cX0_lowestUnusedSlot) (maxL := 2) (ret := (some .int)) (by decide) rfl ?_
  intro p e s m args below meth c s₁ B hml hv
  obtain ⟨rfl, hsz, hP, hK, hD0, hN⟩ := hv
  have hx := B.exec
  have hb := B.bytes
  have hr := B.returns
  have hts := fun w h => atoms_spec (ws := wsX0_lowestUnusedSlot) B.pre w (List.mem_cons_of_mem _ h)
  have hown : s.vm.findClass RX0 = some m.cls := findClass_of_methodNamed B.named
  have hlocks := B.notSynchronized
  subst hsz
  have hD := hD0.self (sz := s.heap.size)
  generalize hAe : va_A ((xo_w h0 hs hd hc a1 a2 gW gC gV gB gM gI) (st, d)) s.heap.size = A at hD ⊢
  have hA : ∀ q : Nat, s.heap.size ≤ q → A q := fun q h => by rw [← hAe]; exact Or.inr h
  have hS : va_S A s.heap s.heap [] := va_S.rf
  have hl := lv_entry ([.ref h0]) (n := 2) (Nat.le_of_ble_eq_true rfl)
  rw [lg_entry_eq]
  generalize (lg_sl ([.ref h0]) ++ List.replicate (2 - (lg_sl ([.ref h0])).length) Slot.unset).toArray = ls at hl ⊢
  have hP : va_P (dC, dI) vwCl [(h0, .inr (0, [.int (nI gW), .int (nI gC), .int (nI gV), .int (nI gB), .ref hs, .int (nI gM), .int (nI gI), .ref hd])), (hs, .inl (a1, gW, .inl st)), (hd, .inr (1, [.ref hc, .int d.2.1, .int d.2.2.1, .int d.2.2.2.1, .int d.2.2.2.2])), (hc, .inl (a2, (gI + 4), .inl d.1))] s.heap := hP
  have hD : va_D A [(h0, .inr (0, [.int (nI gW), .int (nI gC), .int (nI gV), .int (nI gB), .ref hs, .int (nI gM), .int (nI gI), .ref hd])), (hs, .inl (a1, gW, .inl st)), (hd, .inr (1, [.ref hc, .int d.2.1, .int d.2.2.1, .int d.2.2.2.1, .int d.2.2.2.2])), (hc, .inl (a2, (gI + 4), .inl d.1))] := hD
  have hl : lv_has ls 2 [(0, .ref h0)] := hl
  obtain ⟨⟨hW1, hW2⟩, ⟨hC1, hC2⟩, ⟨hV1, hV2⟩, ⟨hB1, hB2⟩, eM, eI⟩ := id hg
  obtain ⟨hM2, hq2⟩ := geo_b hg
  refine lv_iconst (v := 0) hx hb dX0_lowestUnusedSlot_0 (by decide) ?_
  refine lv_istore_n (lv' := [(1, .int 0), (0, .ref h0)]) hx hb dX0_lowestUnusedSlot_1 rfl hl (by decide) rfl (fun ls hl => ?_)
  have hl : lv_has ls 2 [(1, .int (nI 0)), (0, .ref h0)] := hl
  refine lp_X0_lowestUnusedSlot_2 h0 hs hd hc a1 a2 gW gC gV gB gM gI hg st d hx hb hml hown hts hK hN hA  (fun i H locs ls hi hj hk hP hD hS hl => ?_) (gC + 1) 0 _ _ _ (by omega) (by omega) (lt_0) hP hD hS (lv_sub hl [1, 0] rfl)
  · have hP : va_P (dC, dI) vwCl [(h0, .inr (0, [.int (nI gW), .int (nI gC), .int (nI gV), .int (nI gB), .ref hs, .int (nI gM), .int (nI gI), .ref hd])), (hs, .inl (a1, gW, .inl st)), (hd, .inr (1, [.ref hc, .int d.2.1, .int d.2.2.1, .int d.2.2.2.1, .int d.2.2.2.2])), (hc, .inl (a2, (gI + 4), .inl d.1))] H := hP
    have hD : va_D A [(h0, .inr (0, [.int (nI gW), .int (nI gC), .int (nI gV), .int (nI gB), .ref hs, .int (nI gM), .int (nI gI), .ref hd])), (hs, .inl (a1, gW, .inl st)), (hd, .inr (1, [.ref hc, .int d.2.1, .int d.2.2.1, .int d.2.2.2.1, .int d.2.2.2.2])), (hc, .inl (a2, (gI + 4), .inl d.1))] := hD
    refine lv_iload_n hx hb dX0_lowestUnusedSlot_24 rfl (lv_at hl 1 rfl) ?_
    exact W.iret (v := nI i) hx hb hr (fun t ht hW => ⟨⟨nI i, (st, d), rfl, ⟨⟨i, rfl, hi, hj, hk⟩, rfl⟩, by rw [ht]; exact hP, hD⟩, hS.F ht⟩) hS.2.2 dX0_lowestUnusedSlot_25
