set_option maxHeartbeats 4000000 in
set_option maxRecDepth 100000 in
theorem lp_X2_refs_4 {p : Program} {l : Launch} {e : Env} {s : State} {m : MethodId} {args : Array Value} {below : List Frame} {meth : Method} {c : Code} {Q : State → Prop} {A : Nat → Prop} {dC : Nat → ClassId} {dI : Nat → Nat → Nat} (o0 om ow os og : Nat) (z1 z2 z3 z4 : ClassId) (gW gC gV gB : Nat) (hg : mge gW gC gV gB) (mp wa sl sg : Nat → Int32) (hp am ar dn rd : Int32) (k : Int32) (hx : p.tables.exec = Jvm.exec) (hb : c.code = cX2_refs) (hml : c.maxLocals = 4) (hown : s.vm.findClass RX2 = some m.cls) (hts : ∀ w ∈ TBG, w.before args s = true) (hK : va_K (dC, dI) vwCl [(z1, .int), (z2, .int), (z3, .int), (z4, .int)] s) (hN : nwOk nwL s) (hA : ∀ q : Nat, s.heap.size ≤ q → A q)  (K : ∀  (H : Heap) (locs : List Loc) (ls : Array Slot), va_P (dC, dI) vwCl (mo_w o0 om ow os og z1 z2 z3 z4 gW gC gV gB (mp, wa, sl, sg, hp, am, ar, dn, rd)) H → va_D A (mo_w o0 om ow os og z1 z2 z3 z4 gW gC gV gB (mp, wa, sl, sg, hp, am, ar, dn, rd)) → va_S A s.heap H locs → lv_has ls 4 [(0, .ref o0), (1, .int k), (2, .int (nI (cntC mp 0 (k + 1) 24)))] → W p l e ({ frames := 0, cells := 0, slots := 0, locals := 0 } : Room) s m args below meth c H locs 0 0 Q (F0 m 36 ls [])) : ∀ (n : Nat) (i : Nat) (H : Heap) (locs : List Loc) (ls : Array Slot), 24 - i < n → (i ≤ 24) → va_P (dC, dI) vwCl (mo_w o0 om ow os og z1 z2 z3 z4 gW gC gV gB (mp, wa, sl, sg, hp, am, ar, dn, rd)) H → va_D A (mo_w o0 om ow os og z1 z2 z3 z4 gW gC gV gB (mp, wa, sl, sg, hp, am, ar, dn, rd)) → va_S A s.heap H locs → lv_has ls 4 [(0, .ref o0), (1, .int k), (2, .int (nI (cntC mp 0 (k + 1) i))), (3, .int (nI i))] → W p l e ({ frames := 0, cells := 0, slots := 0, locals := 0 } : Room) s m args below meth c H locs 0 0 Q (F0 m 4 ls []) := by
  obtain ⟨⟨hW1, hW2⟩, ⟨hC1, hC2⟩, ⟨hV1, hV2⟩, ⟨hB1, hB2⟩⟩ := id hg
  intro n
  induction n with
  | zero => intro i H locs ls hfu; exact absurd hfu (by omega)
  | succ n ih =>
    intro i H locs ls hfu hi hP hD hS hl
    have hP : va_P (dC, dI) vwCl [(o0, .inr (2, [.int (nI gW), .int (nI gC), .int (nI gV), .int (nI gB), .ref om, .ref ow, .ref os, .ref og, .int hp, .int am, .int ar, .int dn, .int rd])), (om, .inl (z1, 24, .inl mp)), (ow, .inl (z2, 24, .inl wa)), (os, .inl (z3, 52, .inl sl)), (og, .inl (z4, 4, .inl sg))] H := hP
    have hD : va_D A [(o0, .inr (2, [.int (nI gW), .int (nI gC), .int (nI gV), .int (nI gB), .ref om, .ref ow, .ref os, .ref og, .int hp, .int am, .int ar, .int dn, .int rd])), (om, .inl (z1, 24, .inl mp)), (ow, .inl (z2, 24, .inl wa)), (os, .inl (z3, 52, .inl sl)), (og, .inl (z4, 4, .inl sg))] := hD
    refine lv_iload_n hx hb dX2_refs_4 rfl (lv_at hl 3 rfl) ?_
    refine lv_bipush (v := 24) hx hb dX2_refs_5 (by decide) ?_
    refine lv_icmp_ge (tgt := 36) hx hb dX2_refs_7 (by decide) (fun c_1 => ?_) (fun c_1 => ?_)
    · have c_1 : 24 ≤ i := (nI_leI (a := 24) (b := i) (by omega) (by omega)).mp c_1
      have hie : i = 24 := by omega
      rw [hie] at hl
      exact K  _ _ _  hP hD hS (lv_sub hl [0, 1, 2] rfl)
    · have c_1 : ¬ (24 ≤ i) := fun q9 => c_1 ((nI_leI (a := 24) (b := i) (by omega) (by omega)).mpr q9)
      refine lv_aload_n hx hb dX2_refs_10 rfl (lv_at hl 0 rfl) ?_
      refine va_get (D := (dC, dI)) (ci := 2) (v := .ref om) (C := RX2) (T := TX2) (N := 13) hx hb hts inX2 hown hK hP 0 rfl rfl 4 (by decide) (hts _ tb_259) (fun _ h9 => h9) rfl dX2_refs_11 ?_
      refine lv_iload_n hx hb dX2_refs_14 rfl (lv_at hl 3 rfl) ?_
      refine va_iald hx hb hK hP 1 0 rfl rfl (vp_in_nI (n := i) (by omega) (by omega)) dX2_refs_15 ?_
      refine lv_topi (fun z_2 ez_2 => ?_)
      obtain rfl : z_2 = mp i := ez_2.trans (by rw [nI_clamp (n := i) (by omega)])
      refine lv_iload_n hx hb dX2_refs_16 rfl (lv_at hl 1 rfl) ?_
      refine lv_iconst (v := 1) hx hb dX2_refs_17 (by decide) ?_
      refine lv_iadd hx hb dX2_refs_18 ?_
      refine lv_icmp_ne (tgt := 28) hx hb dX2_refs_19 (by decide) (fun c_3 => ?_) (fun c_3 => ?_)
      · refine lv_iload_n hx hb dX2_refs_28 rfl (lv_at hl 2 rfl) ?_
        refine lv_istore_n (lv' := [(2, .int (nI (cntC mp 0 (k + 1) i))), (0, .ref o0), (1, .int k), (3, .int (nI i))]) hx hb dX2_refs_29 rfl hl (by decide) rfl (fun ls hl => ?_)
        refine lv_iinc (v := nI (i + 1)) (lv' := [(3, .int (nI (i + 1))), (2, .int (nI (cntC mp 0 (k + 1) i))), (0, .ref o0), (1, .int k)]) hx hb dX2_refs_30 hl (k := 3) rfl (nI_1 i) (by decide) rfl (fun ls hl => ?_)
        have hl : lv_has ls 4 [(3, .int (nI (i + 1))), (2, .int (nI (cntC mp 0 (k + 1) (i + 1)))), (0, .ref o0), (1, .int k)] := by have q9 := hl; rw [cntC_mis (f := mp) (lo := 0) (k := i) (v := k + 1) (by rw [Nat.zero_add]; exact c_3)] at q9; exact q9
        refine lv_goto (tgt := 4) hx hb dX2_refs_33 (by decide) ?_
        exact ih (i + 1) _ _ _ (by omega) (by omega) hP hD hS (lv_sub hl [2, 3, 1, 0] rfl)
      · refine lv_iload_n hx hb dX2_refs_22 rfl (lv_at hl 2 rfl) ?_
        refine lv_iconst (v := 1) hx hb dX2_refs_23 (by decide) ?_
        refine lv_iadd hx hb dX2_refs_24 ?_
        refine lv_topi (fun z_4 ez_4 => ?_)
        obtain rfl : z_4 = nI (cntC mp 0 (k + 1) i + 1) := ez_4.trans (nI_1 (cntC mp 0 (k + 1) i))
        refine lv_goto (tgt := 29) hx hb dX2_refs_25 (by decide) ?_
        refine lv_istore_n (lv' := [(2, .int (nI (cntC mp 0 (k + 1) i + 1))), (0, .ref o0), (1, .int k), (3, .int (nI i))]) hx hb dX2_refs_29 rfl hl (by decide) rfl (fun ls hl => ?_)
        refine lv_iinc (v := nI (i + 1)) (lv' := [(3, .int (nI (i + 1))), (2, .int (nI (cntC mp 0 (k + 1) i + 1))), (0, .ref o0), (1, .int k)]) hx hb dX2_refs_30 hl (k := 3) rfl (nI_1 i) (by decide) rfl (fun ls hl => ?_)
        have hl : lv_has ls 4 [(3, .int (nI (i + 1))), (2, .int (nI (cntC mp 0 (k + 1) (i + 1)))), (0, .ref o0), (1, .int k)] := by have q9 := hl; rw [cntC_hit (f := mp) (lo := 0) (by rw [Nat.zero_add]; exact c_3)] at q9; exact q9
        refine lv_goto (tgt := 4) hx hb dX2_refs_33 (by decide) ?_
        exact ih (i + 1) _ _ _ (by omega) (by omega) hP hD hS (lv_sub hl [2, 3, 1, 0] rfl)
set_option maxHeartbeats 4000000 in
set_option maxRecDepth 100000 in
theorem k_X2_refs (l : Launch) (dC : Nat → ClassId) (dI : Nat → Nat → Nat) (o0 om ow os og : Nat) (z1 z2 z3 z4 : ClassId) (gW gC gV gB : Nat) (hg : mge gW gC gV gB) (sz : Nat) (mp wa sl sg : Nat → Int32) (hp am ar dn rd : Int32) (k : Int32) : ctI nwL l yX2_refs wsX2_refs ({ frames := 0, cells := 0, slots := 0, locals := 0 } : Room) (dC, dI) [(z1, .int), (z2, .int), (z3, .int), (z4, .int)] (mo_w o0 om ow os og z1 z2 z3 z4 gW gC gV gB) (mp, wa, sl, sg, hp, am, ar, dn, rd) sz [.ref o0, .int k] (fun (r : Int32) (u : MS) => r = nI (cntC mp 0 (k + 1) 24) ∧ u = (mp, wa, sl, sg, hp, am, ar, dn, rd)) := by
  refine Met.ofW (cc := cX2_refs) (maxL := 4) (ret := (some .int)) (by decide) rfl ?_
  intro p e s m args below meth c s₁ B hml hv
  obtain ⟨rfl, hsz, hP, hK, hD0, hN⟩ := hv
  have hx := B.exec
  have hb := B.bytes
  have hr := B.returns
  have hts := fun w h => atoms_spec (ws := wsX2_refs) B.pre w (List.mem_cons_of_mem _ h)
  have hown : s.vm.findClass RX2 = some m.cls := findClass_of_methodNamed B.named
  have hlocks := B.notSynchronized
  subst hsz
  have hD := hD0.self (sz := s.heap.size)
  generalize hAe : va_A ((mo_w o0 om ow os og z1 z2 z3 z4 gW gC gV gB) (mp, wa, sl, sg, hp, am, ar, dn, rd)) s.heap.size = A at hD ⊢
  have hA : ∀ q : Nat, s.heap.size ≤ q → A q := fun q h => by rw [← hAe]; exact Or.inr h
  have hS : va_S A s.heap s.heap [] := va_S.rf
  have hl := lv_entry ([.ref o0, .int k]) (n := 4) (Nat.le_of_ble_eq_true rfl)
  rw [lg_entry_eq]
  generalize (lg_sl ([.ref o0, .int k]) ++ List.replicate (4 - (lg_sl ([.ref o0, .int k])).length) Slot.unset).toArray = ls at hl ⊢
  have hP : va_P (dC, dI) vwCl [(o0, .inr (2, [.int (nI gW), .int (nI gC), .int (nI gV), .int (nI gB), .ref om, .ref ow, .ref os, .ref og, .int hp, .int am, .int ar, .int dn, .int rd])), (om, .inl (z1, 24, .inl mp)), (ow, .inl (z2, 24, .inl wa)), (os, .inl (z3, 52, .inl sl)), (og, .inl (z4, 4, .inl sg))] s.heap := hP
  have hD : va_D A [(o0, .inr (2, [.int (nI gW), .int (nI gC), .int (nI gV), .int (nI gB), .ref om, .ref ow, .ref os, .ref og, .int hp, .int am, .int ar, .int dn, .int rd])), (om, .inl (z1, 24, .inl mp)), (ow, .inl (z2, 24, .inl wa)), (os, .inl (z3, 52, .inl sl)), (og, .inl (z4, 4, .inl sg))] := hD
  have hl : lv_has ls 4 [(0, .ref o0), (1, .int k)] := hl
  obtain ⟨⟨hW1, hW2⟩, ⟨hC1, hC2⟩, ⟨hV1, hV2⟩, ⟨hB1, hB2⟩⟩ := id hg
  refine lv_iconst (v := 0) hx hb dX2_refs_0 (by decide) ?_
  refine lv_istore_n (lv' := [(2, .int 0), (0, .ref o0), (1, .int k)]) hx hb dX2_refs_1 rfl hl (by decide) rfl (fun ls hl => ?_)
  refine lv_iconst (v := 0) hx hb dX2_refs_2 (by decide) ?_
  refine lv_istore_n (lv' := [(3, .int 0), (2, .int 0), (0, .ref o0), (1, .int k)]) hx hb dX2_refs_3 rfl hl (by decide) rfl (fun ls hl => ?_)
  have hl : lv_has ls 4 [(3, .int (nI 0)), (2, .int (nI (cntC mp 0 (k + 1) 0))), (0, .ref o0), (1, .int k)] := hl
  refine lp_X2_refs_4 o0 om ow os og z1 z2 z3 z4 gW gC gV gB hg mp wa sl sg hp am ar dn rd k hx hb hml hown hts hK hN hA (fun  H locs ls  hP hD hS hl => ?_) 25 0 _ _ _ (by omega) (by omega) hP hD hS (lv_sub hl [2, 3, 1, 0] rfl)
  have hP : va_P (dC, dI) vwCl [(o0, .inr (2, [.int (nI gW), .int (nI gC), .int (nI gV), .int (nI gB), .ref om, .ref ow, .ref os, .ref og, .int hp, .int am, .int ar, .int dn, .int rd])), (om, .inl (z1, 24, .inl mp)), (ow, .inl (z2, 24, .inl wa)), (os, .inl (z3, 52, .inl sl)), (og, .inl (z4, 4, .inl sg))] H := hP
  have hD : va_D A [(o0, .inr (2, [.int (nI gW), .int (nI gC), .int (nI gV), .int (nI gB), .ref om, .ref ow, .ref os, .ref og, .int hp, .int am, .int ar, .int dn, .int rd])), (om, .inl (z1, 24, .inl mp)), (ow, .inl (z2, 24, .inl wa)), (os, .inl (z3, 52, .inl sl)), (og, .inl (z4, 4, .inl sg))] := hD
  refine lv_iload_n hx hb dX2_refs_36 rfl (lv_at hl 2 rfl) ?_
  exact W.iret (v := nI (cntC mp 0 (k + 1) 24)) hx hb hr (fun t ht hW => ⟨⟨nI (cntC mp 0 (k + 1) 24), (mp, wa, sl, sg, hp, am, ar, dn, rd), rfl, ⟨rfl, rfl⟩, by rw [ht]; exact hP, hD⟩, hS.F ht⟩) hS.2.2 dX2_refs_37
set_option maxHeartbeats 4000000 in
set_option maxRecDepth 100000 in
theorem lp_X2_used_4 {p : Program} {l : Launch} {e : Env} {s : State} {m : MethodId} {args : Array Value} {below : List Frame} {meth : Method} {c : Code} {Q : State → Prop} {A : Nat → Prop} {dC : Nat → ClassId} {dI : Nat → Nat → Nat} (o0 om ow os og : Nat) (z1 z2 z3 z4 : ClassId) (gW gC gV gB : Nat) (hg : mge gW gC gV gB) (mp wa sl sg : Nat → Int32) (hp am ar dn rd : Int32) (hx : p.tables.exec = Jvm.exec) (hb : c.code = cX2_used) (hml : c.maxLocals = 3) (hown : s.vm.findClass RX2 = some m.cls) (hts : ∀ w ∈ TBG, w.before args s = true) (hK : va_K (dC, dI) vwCl [(z1, .int), (z2, .int), (z3, .int), (z4, .int)] s) (hN : nwOk nwL s) (hA : ∀ q : Nat, s.heap.size ≤ q → A q)  (K : ∀  (H : Heap) (locs : List Loc) (ls : Array Slot), va_P (dC, dI) vwCl (mo_w o0 om ow os og z1 z2 z3 z4 gW gC gV gB (mp, wa, sl, sg, hp, am, ar, dn, rd)) H → va_D A (mo_w o0 om ow os og z1 z2 z3 z4 gW gC gV gB (mp, wa, sl, sg, hp, am, ar, dn, rd)) → va_S A s.heap H locs → lv_has ls 3 [(0, .ref o0), (1, .int (nI (usN mp 0 24 (gC + 1))))] → W p l e ({ frames := 1, cells := 0, slots := 0, locals := 23 } : Room) s m args below meth c H locs 0 0 Q (F0 m 34 ls [])) : ∀ (n : Nat) (i : Nat) (H : Heap) (locs : List Loc) (ls : Array Slot), gC + 1 - i < n → (i ≤ gC + 1) → va_P (dC, dI) vwCl (mo_w o0 om ow os og z1 z2 z3 z4 gW gC gV gB (mp, wa, sl, sg, hp, am, ar, dn, rd)) H → va_D A (mo_w o0 om ow os og z1 z2 z3 z4 gW gC gV gB (mp, wa, sl, sg, hp, am, ar, dn, rd)) → va_S A s.heap H locs → lv_has ls 3 [(0, .ref o0), (1, .int (nI (usN mp 0 24 i))), (2, .int (nI i))] → W p l e ({ frames := 1, cells := 0, slots := 0, locals := 23 } : Room) s m args below meth c H locs 0 0 Q (F0 m 4 ls []) := by
  obtain ⟨⟨hW1, hW2⟩, ⟨hC1, hC2⟩, ⟨hV1, hV2⟩, ⟨hB1, hB2⟩⟩ := id hg
  intro n
  induction n with
  | zero => intro i H locs ls hfu; exact absurd hfu (by omega)
  | succ n ih =>
    intro i H locs ls hfu hi hP hD hS hl
    have hP : va_P (dC, dI) vwCl [(o0, .inr (2, [.int (nI gW), .int (nI gC), .int (nI gV), .int (nI gB), .ref om, .ref ow, .ref os, .ref og, .int hp, .int am, .int ar, .int dn, .int rd])), (om, .inl (z1, 24, .inl mp)), (ow, .inl (z2, 24, .inl wa)), (os, .inl (z3, 52, .inl sl)), (og, .inl (z4, 4, .inl sg))] H := hP
    have hD : va_D A [(o0, .inr (2, [.int (nI gW), .int (nI gC), .int (nI gV), .int (nI gB), .ref om, .ref ow, .ref os, .ref og, .int hp, .int am, .int ar, .int dn, .int rd])), (om, .inl (z1, 24, .inl mp)), (ow, .inl (z2, 24, .inl wa)), (os, .inl (z3, 52, .inl sl)), (og, .inl (z4, 4, .inl sg))] := hD
    refine lv_iload_n hx hb dX2_used_4 rfl (lv_at hl 2 rfl) ?_
    refine lv_aload_n hx hb dX2_used_5 rfl (lv_at hl 0 rfl) ?_
    refine va_get (D := (dC, dI)) (ci := 2) (v := .int (nI gC)) (C := RX2) (T := TX2) (N := 13) hx hb hts inX2 hown hK hP 0 rfl rfl 1 (by decide) (hts _ tb_256) (fun _ h9 => h9) rfl dX2_used_6 ?_
    refine lv_icmp_gt (tgt := 34) hx hb dX2_used_9 (by decide) (fun c_1 => ?_) (fun c_1 => ?_)
    · have c_1 : gC < i := (nI_ltI (a := gC) (b := i) (by omega) (by omega)).mp c_1
      have hie : i = gC + 1 := by omega
      rw [hie] at hl
      exact K  _ _ _  hP hD hS (lv_sub hl [0, 1] rfl)
    · have c_1 : ¬ (gC < i) := fun q9 => c_1 ((nI_ltI (a := gC) (b := i) (by omega) (by omega)).mpr q9)
      refine lv_aload_n hx hb dX2_used_12 rfl (lv_at hl 0 rfl) ?_
      refine lv_iload_n hx hb dX2_used_13 rfl (lv_at hl 2 rfl) ?_
      have hcl := cntC_le mp 0 (nI i + 1) 24
      refine xr_i (D := (dC, dI)) (wf := (mo_w o0 om ow os og z1 z2 z3 z4 gW gC gV gB)) (u0 := (mp, wa, sl, sg, hp, am, ar, dn, rd)) (wr := []) (va_runV (As := [.int (nI i)]) (rest := []) ⟨hx, hb, hml, hown, hts⟩ (k_X2_refs l dC dI o0 om ow os og z1 z2 z3 z4 gW gC gV gB hg H.size mp wa sl sg hp am ar dn rd (nI i)) (cwV 1 hts gX2_63 rfl rfl rfl (by decide +kernel) ⟨Nat.le_of_ble_eq_true rfl, Nat.le_of_ble_eq_true rfl⟩) (xp_v nwL_ok hK hN hP hD [0, 1, 2, 3, 4] rfl rfl (va_recv hK hP (ci := 2) (q0 := 0) rfl rfl)) rfl rfl hl.1 rfl (lv_room (Nat.le_of_ble_eq_true rfl)) dX2_used_14 ⟨Nat.zero_le _, Nat.zero_le _⟩) hP hD hS hA [0, 1, 2, 3, 4] [] rfl rfl (by decide) (by decide) (fun r_2 u_3 H locs hw hP hD hS => ?_)
      obtain ⟨er_2, eu_3⟩ := hw
      rw [eu_3] at hP hD
      rw [er_2]
      have hP : va_P (dC, dI) vwCl [(o0, .inr (2, [.int (nI gW), .int (nI gC), .int (nI gV), .int (nI gB), .ref om, .ref ow, .ref os, .ref og, .int hp, .int am, .int ar, .int dn, .int rd])), (om, .inl (z1, 24, .inl mp)), (ow, .inl (z2, 24, .inl wa)), (os, .inl (z3, 52, .inl sl)), (og, .inl (z4, 4, .inl sg))] H := hP
      have hD : va_D A [(o0, .inr (2, [.int (nI gW), .int (nI gC), .int (nI gV), .int (nI gB), .ref om, .ref ow, .ref os, .ref og, .int hp, .int am, .int ar, .int dn, .int rd])), (om, .inl (z1, 24, .inl mp)), (ow, .inl (z2, 24, .inl wa)), (os, .inl (z3, 52, .inl sl)), (og, .inl (z4, 4, .inl sg))] := hD
      refine lv_if_le (tgt := 26) hx hb dX2_used_17 (by decide) (fun c_4 => ?_) (fun c_4 => ?_)
      · have c_4 : cntC mp 0 (nI i + 1) 24 ≤ 0 := (nI_leI (a := cntC mp 0 (nI i + 1) 24) (b := 0) (by omega) (by omega)).mp c_4
        refine lv_iload_n hx hb dX2_used_26 rfl (lv_at hl 1 rfl) ?_
        refine lv_istore_n (lv' := [(1, .int (nI (usN mp 0 24 i))), (0, .ref o0), (2, .int (nI i))]) hx hb dX2_used_27 rfl hl (by decide) rfl (fun ls hl => ?_)
        refine lv_iinc (v := nI (i + 1)) (lv' := [(2, .int (nI (i + 1))), (1, .int (nI (usN mp 0 24 i))), (0, .ref o0)]) hx hb dX2_used_28 hl (k := 2) rfl (nI_1 i) (by decide) rfl (fun ls hl => ?_)
        have hl : lv_has ls 3 [(2, .int (nI (i + 1))), (1, .int (nI (usN mp 0 24 (i + 1)))), (0, .ref o0)] := by have q9 := hl; rw [usN_mis (usd_0 (show cntC mp 0 (nI i + 1) 24 = 0 by omega))] at q9; exact q9
        refine lv_goto (tgt := 4) hx hb dX2_used_31 (by decide) ?_
        exact ih (i + 1) _ _ _ (by omega) (by omega) hP hD hS (lv_sub hl [2, 1, 0] rfl)
      · have c_4 : ¬ (cntC mp 0 (nI i + 1) 24 ≤ 0) := fun q9 => c_4 ((nI_leI (a := cntC mp 0 (nI i + 1) 24) (b := 0) (by omega) (by omega)).mpr q9)
        refine lv_iload_n hx hb dX2_used_20 rfl (lv_at hl 1 rfl) ?_
        refine lv_iconst (v := 1) hx hb dX2_used_21 (by decide) ?_
        refine lv_iadd hx hb dX2_used_22 ?_
        refine lv_topi (fun z_5 ez_5 => ?_)
        obtain rfl : z_5 = nI (usN mp 0 24 i + 1) := ez_5.trans (nI_1 (usN mp 0 24 i))
        refine lv_goto (tgt := 27) hx hb dX2_used_23 (by decide) ?_
        refine lv_istore_n (lv' := [(1, .int (nI (usN mp 0 24 i + 1))), (0, .ref o0), (2, .int (nI i))]) hx hb dX2_used_27 rfl hl (by decide) rfl (fun ls hl => ?_)
        refine lv_iinc (v := nI (i + 1)) (lv' := [(2, .int (nI (i + 1))), (1, .int (nI (usN mp 0 24 i + 1))), (0, .ref o0)]) hx hb dX2_used_28 hl (k := 2) rfl (nI_1 i) (by decide) rfl (fun ls hl => ?_)
        have hl : lv_has ls 3 [(2, .int (nI (i + 1))), (1, .int (nI (usN mp 0 24 (i + 1)))), (0, .ref o0)] := by have q9 := hl; rw [usN_hit (usd_1 (show ¬ cntC mp 0 (nI i + 1) 24 = 0 by omega))] at q9; exact q9
        refine lv_goto (tgt := 4) hx hb dX2_used_31 (by decide) ?_
        exact ih (i + 1) _ _ _ (by omega) (by omega) hP hD hS (lv_sub hl [2, 1, 0] rfl)
set_option maxHeartbeats 4000000 in
set_option maxRecDepth 100000 in
theorem k_X2_used (l : Launch) (dC : Nat → ClassId) (dI : Nat → Nat → Nat) (o0 om ow os og : Nat) (z1 z2 z3 z4 : ClassId) (gW gC gV gB : Nat) (hg : mge gW gC gV gB) (sz : Nat) (mp wa sl sg : Nat → Int32) (hp am ar dn rd : Int32)  : ctI nwL l yX2_used wsX2_used ({ frames := 1, cells := 0, slots := 0, locals := 23 } : Room) (dC, dI) [(z1, .int), (z2, .int), (z3, .int), (z4, .int)] (mo_w o0 om ow os og z1 z2 z3 z4 gW gC gV gB) (mp, wa, sl, sg, hp, am, ar, dn, rd) sz [.ref o0] (fun (r : Int32) (u : MS) => r = nI (usN mp 0 24 (gC + 1)) ∧ u = (mp, wa, sl, sg, hp, am, ar, dn, rd)) := by
  refine Met.ofW (cc := cX2_used) (maxL := 3) (ret := (some .int)) (by decide) rfl ?_
  intro p e s m args below meth c s₁ B hml hv
  obtain ⟨rfl, hsz, hP, hK, hD0, hN⟩ := hv
  have hx := B.exec
  have hb := B.bytes
  have hr := B.returns
  have hts := fun w h => atoms_spec (ws := wsX2_used) B.pre w (List.mem_cons_of_mem _ h)
  have hown : s.vm.findClass RX2 = some m.cls := findClass_of_methodNamed B.named
  have hlocks := B.notSynchronized
  subst hsz
  have hD := hD0.self (sz := s.heap.size)
  generalize hAe : va_A ((mo_w o0 om ow os og z1 z2 z3 z4 gW gC gV gB) (mp, wa, sl, sg, hp, am, ar, dn, rd)) s.heap.size = A at hD ⊢
  have hA : ∀ q : Nat, s.heap.size ≤ q → A q := fun q h => by rw [← hAe]; exact Or.inr h
  have hS : va_S A s.heap s.heap [] := va_S.rf
  have hl := lv_entry ([.ref o0]) (n := 3) (Nat.le_of_ble_eq_true rfl)
  rw [lg_entry_eq]
  generalize (lg_sl ([.ref o0]) ++ List.replicate (3 - (lg_sl ([.ref o0])).length) Slot.unset).toArray = ls at hl ⊢
  have hP : va_P (dC, dI) vwCl [(o0, .inr (2, [.int (nI gW), .int (nI gC), .int (nI gV), .int (nI gB), .ref om, .ref ow, .ref os, .ref og, .int hp, .int am, .int ar, .int dn, .int rd])), (om, .inl (z1, 24, .inl mp)), (ow, .inl (z2, 24, .inl wa)), (os, .inl (z3, 52, .inl sl)), (og, .inl (z4, 4, .inl sg))] s.heap := hP
  have hD : va_D A [(o0, .inr (2, [.int (nI gW), .int (nI gC), .int (nI gV), .int (nI gB), .ref om, .ref ow, .ref os, .ref og, .int hp, .int am, .int ar, .int dn, .int rd])), (om, .inl (z1, 24, .inl mp)), (ow, .inl (z2, 24, .inl wa)), (os, .inl (z3, 52, .inl sl)), (og, .inl (z4, 4, .inl sg))] := hD
  have hl : lv_has ls 3 [(0, .ref o0)] := hl
  obtain ⟨⟨hW1, hW2⟩, ⟨hC1, hC2⟩, ⟨hV1, hV2⟩, ⟨hB1, hB2⟩⟩ := id hg
  refine lv_iconst (v := 0) hx hb dX2_used_0 (by decide) ?_
  refine lv_istore_n (lv' := [(1, .int 0), (0, .ref o0)]) hx hb dX2_used_1 rfl hl (by decide) rfl (fun ls hl => ?_)
  refine lv_iconst (v := 0) hx hb dX2_used_2 (by decide) ?_
  refine lv_istore_n (lv' := [(2, .int 0), (1, .int 0), (0, .ref o0)]) hx hb dX2_used_3 rfl hl (by decide) rfl (fun ls hl => ?_)
  have hl : lv_has ls 3 [(2, .int (nI 0)), (1, .int (nI (usN mp 0 24 0))), (0, .ref o0)] := hl
  refine lp_X2_used_4 o0 om ow os og z1 z2 z3 z4 gW gC gV gB hg mp wa sl sg hp am ar dn rd hx hb hml hown hts hK hN hA (fun  H locs ls  hP hD hS hl => ?_) (gC + 2) 0 _ _ _ (by omega) (by omega) hP hD hS (lv_sub hl [2, 1, 0] rfl)
  have hP : va_P (dC, dI) vwCl [(o0, .inr (2, [.int (nI gW), .int (nI gC), .int (nI gV), .int (nI gB), .ref om, .ref ow, .ref os, .ref og, .int hp, .int am, .int ar, .int dn, .int rd])), (om, .inl (z1, 24, .inl mp)), (ow, .inl (z2, 24, .inl wa)), (os, .inl (z3, 52, .inl sl)), (og, .inl (z4, 4, .inl sg))] H := hP
  have hD : va_D A [(o0, .inr (2, [.int (nI gW), .int (nI gC), .int (nI gV), .int (nI gB), .ref om, .ref ow, .ref os, .ref og, .int hp, .int am, .int ar, .int dn, .int rd])), (om, .inl (z1, 24, .inl mp)), (ow, .inl (z2, 24, .inl wa)), (os, .inl (z3, 52, .inl sl)), (og, .inl (z4, 4, .inl sg))] := hD
  refine lv_iload_n hx hb dX2_used_34 rfl (lv_at hl 1 rfl) ?_
  exact W.iret (v := nI (usN mp 0 24 (gC + 1))) hx hb hr (fun t ht hW => ⟨⟨nI (usN mp 0 24 (gC + 1)), (mp, wa, sl, sg, hp, am, ar, dn, rd), rfl, ⟨rfl, rfl⟩, by rw [ht]; exact hP, hD⟩, hS.F ht⟩) hS.2.2 dX2_used_35
set_option maxHeartbeats 4000000 in
set_option maxRecDepth 100000 in
theorem lp_X2_hasStaged_4 {p : Program} {l : Launch} {e : Env} {s : State} {m : MethodId} {args : Array Value} {below : List Frame} {meth : Method} {c : Code} {Q : State → Prop} {A : Nat → Prop} {dC : Nat → ClassId} {dI : Nat → Nat → Nat} (o0 om ow os og : Nat) (z1 z2 z3 z4 : ClassId) (gW gC gV gB : Nat) (hg : mge gW gC gV gB) (mp wa sl sg : Nat → Int32) (hp am ar dn rd : Int32) (k : Nat) (hk : k ≤ 12) (hx : p.tables.exec = Jvm.exec) (hb : c.code = cX2_hasStaged) (hml : c.maxLocals = 4) (hown : s.vm.findClass RX2 = some m.cls) (hts : ∀ w ∈ TBG, w.before args s = true) (hK : va_K (dC, dI) vwCl [(z1, .int), (z2, .int), (z3, .int), (z4, .int)] s) (hN : nwOk nwL s) (hA : ∀ q : Nat, s.heap.size ≤ q → A q)  (K : ∀  (H : Heap) (locs : List Loc) (ls : Array Slot), va_P (dC, dI) vwCl (mo_w o0 om ow os og z1 z2 z3 z4 gW gC gV gB (mp, wa, sl, sg, hp, am, ar, dn, rd)) H → va_D A (mo_w o0 om ow os og z1 z2 z3 z4 gW gC gV gB (mp, wa, sl, sg, hp, am, ar, dn, rd)) → va_S A s.heap H locs → lv_has ls 4 [(0, .ref o0), (2, .int (samN sl sg (4 * k) gW))] → W p l e ({ frames := 0, cells := 0, slots := 0, locals := 0 } : Room) s m args below meth c H locs 0 0 Q (F0 m 47 ls [])) : ∀ (n : Nat) (i : Nat) (H : Heap) (locs : List Loc) (ls : Array Slot), gW - i < n → (i ≤ gW) → va_P (dC, dI) vwCl (mo_w o0 om ow os og z1 z2 z3 z4 gW gC gV gB (mp, wa, sl, sg, hp, am, ar, dn, rd)) H → va_D A (mo_w o0 om ow os og z1 z2 z3 z4 gW gC gV gB (mp, wa, sl, sg, hp, am, ar, dn, rd)) → va_S A s.heap H locs → lv_has ls 4 [(0, .ref o0), (1, .int (nI k)), (2, .int (samN sl sg (4 * k) i)), (3, .int (nI i))] → W p l e ({ frames := 0, cells := 0, slots := 0, locals := 0 } : Room) s m args below meth c H locs 0 0 Q (F0 m 4 ls []) := by
  obtain ⟨⟨hW1, hW2⟩, ⟨hC1, hC2⟩, ⟨hV1, hV2⟩, ⟨hB1, hB2⟩⟩ := id hg
  intro n
  induction n with
  | zero => intro i H locs ls hfu; exact absurd hfu (by omega)
  | succ n ih =>
    intro i H locs ls hfu hi hP hD hS hl
    have hP : va_P (dC, dI) vwCl [(o0, .inr (2, [.int (nI gW), .int (nI gC), .int (nI gV), .int (nI gB), .ref om, .ref ow, .ref os, .ref og, .int hp, .int am, .int ar, .int dn, .int rd])), (om, .inl (z1, 24, .inl mp)), (ow, .inl (z2, 24, .inl wa)), (os, .inl (z3, 52, .inl sl)), (og, .inl (z4, 4, .inl sg))] H := hP
    have hD : va_D A [(o0, .inr (2, [.int (nI gW), .int (nI gC), .int (nI gV), .int (nI gB), .ref om, .ref ow, .ref os, .ref og, .int hp, .int am, .int ar, .int dn, .int rd])), (om, .inl (z1, 24, .inl mp)), (ow, .inl (z2, 24, .inl wa)), (os, .inl (z3, 52, .inl sl)), (og, .inl (z4, 4, .inl sg))] := hD
    refine lv_iload_n hx hb dX2_hasStaged_4 rfl (lv_at hl 3 rfl) ?_
    refine lv_aload_n hx hb dX2_hasStaged_5 rfl (lv_at hl 0 rfl) ?_
    refine va_get (D := (dC, dI)) (ci := 2) (v := .int (nI gW)) (C := RX2) (T := TX2) (N := 13) hx hb hts inX2 hown hK hP 0 rfl rfl 0 (by decide) (hts _ tb_255) (fun _ h9 => h9) rfl dX2_hasStaged_6 ?_
    refine lv_icmp_ge (tgt := 47) hx hb dX2_hasStaged_9 (by decide) (fun c_1 => ?_) (fun c_1 => ?_)
    · have c_1 : gW ≤ i := (nI_leI (a := gW) (b := i) (by omega) (by omega)).mp c_1
      have hie : i = gW := by omega
      rw [hie] at hl
      exact K  _ _ _  hP hD hS (lv_sub hl [0, 2] rfl)
    · have c_1 : ¬ (gW ≤ i) := fun q9 => c_1 ((nI_leI (a := gW) (b := i) (by omega) (by omega)).mpr q9)
      refine lv_iload_n hx hb dX2_hasStaged_12 rfl (lv_at hl 2 rfl) ?_
      refine lv_if_eq (tgt := 39) hx hb dX2_hasStaged_13 (by decide) (fun c_2 => ?_) (fun c_2 => ?_)
      · refine lv_iconst (v := 0) hx hb dX2_hasStaged_39 (by decide) ?_
        refine lv_istore_n (lv' := [(2, .int 0), (0, .ref o0), (1, .int (nI k)), (3, .int (nI i))]) hx hb dX2_hasStaged_40 rfl hl (by decide) rfl (fun ls hl => ?_)
        refine lv_iinc (v := nI (i + 1)) (lv' := [(3, .int (nI (i + 1))), (2, .int 0), (0, .ref o0), (1, .int (nI k))]) hx hb dX2_hasStaged_41 hl (k := 3) rfl (nI_1 i) (by decide) rfl (fun ls hl => ?_)
        have hl : lv_has ls 4 [(3, .int (nI (i + 1))), (2, .int (samN sl sg (4 * k) (i + 1))), (0, .ref o0), (1, .int (nI k))] := by rw [show samN sl sg (4 * k) (i + 1) = 0 from samN_z c_2]; exact hl
        refine lv_goto (tgt := 4) hx hb dX2_hasStaged_44 (by decide) ?_
        exact ih (i + 1) _ _ _ (by omega) (by omega) hP hD hS (lv_sub hl [2, 3, 1, 0] rfl)
      · refine lv_aload_n hx hb dX2_hasStaged_16 rfl (lv_at hl 0 rfl) ?_
        refine va_get (D := (dC, dI)) (ci := 2) (v := .ref os) (C := RX2) (T := TX2) (N := 13) hx hb hts inX2 hown hK hP 0 rfl rfl 6 (by decide) (hts _ tb_261) (fun _ h9 => h9) rfl dX2_hasStaged_17 ?_
        refine lv_iconst (v := 4) hx hb dX2_hasStaged_20 (by decide) ?_
        refine lv_iload_n hx hb dX2_hasStaged_21 rfl (lv_at hl 1 rfl) ?_
        refine lv_imul hx hb dX2_hasStaged_22 ?_
        refine lv_topi (fun z_3 ez_3 => ?_)
        obtain rfl : z_3 = nI (4 * k) := ez_3.trans (pk_mul 4 k)
        refine lv_iload_n hx hb dX2_hasStaged_23 rfl (lv_at hl 3 rfl) ?_
        refine lv_iadd hx hb dX2_hasStaged_24 ?_
        refine lv_topi (fun z_4 ez_4 => ?_)
        obtain rfl : z_4 = nI (4 * k + i) := ez_4.trans (nI_add (4 * k) i)
        refine va_iald hx hb hK hP 3 2 rfl rfl (vp_in_nI (n := 4 * k + i) (by omega) (by omega)) dX2_hasStaged_25 ?_
        refine lv_topi (fun z_5 ez_5 => ?_)
        obtain rfl : z_5 = sl (4 * k + i) := ez_5.trans (by rw [nI_clamp (n := 4 * k + i) (by omega)])
        refine lv_aload_n hx hb dX2_hasStaged_26 rfl (lv_at hl 0 rfl) ?_
        refine va_get (D := (dC, dI)) (ci := 2) (v := .ref og) (C := RX2) (T := TX2) (N := 13) hx hb hts inX2 hown hK hP 0 rfl rfl 7 (by decide) (hts _ tb_262) (fun _ h9 => h9) rfl dX2_hasStaged_27 ?_
        refine lv_iload_n hx hb dX2_hasStaged_30 rfl (lv_at hl 3 rfl) ?_
        refine va_iald hx hb hK hP 4 3 rfl rfl (vp_in_nI (n := i) (by omega) (by omega)) dX2_hasStaged_31 ?_
        refine lv_topi (fun z_6 ez_6 => ?_)
        obtain rfl : z_6 = sg i := ez_6.trans (by rw [nI_clamp (n := i) (by omega)])
        refine lv_icmp_ne (tgt := 39) hx hb dX2_hasStaged_32 (by decide) (fun c_7 => ?_) (fun c_7 => ?_)
        · refine lv_iconst (v := 0) hx hb dX2_hasStaged_39 (by decide) ?_
          refine lv_istore_n (lv' := [(2, .int 0), (0, .ref o0), (1, .int (nI k)), (3, .int (nI i))]) hx hb dX2_hasStaged_40 rfl hl (by decide) rfl (fun ls hl => ?_)
          refine lv_iinc (v := nI (i + 1)) (lv' := [(3, .int (nI (i + 1))), (2, .int 0), (0, .ref o0), (1, .int (nI k))]) hx hb dX2_hasStaged_41 hl (k := 3) rfl (nI_1 i) (by decide) rfl (fun ls hl => ?_)
          have hl : lv_has ls 4 [(3, .int (nI (i + 1))), (2, .int (samN sl sg (4 * k) (i + 1))), (0, .ref o0), (1, .int (nI k))] := by rw [show samN sl sg (4 * k) (i + 1) = 0 from samN_no (Nat.lt_succ_self i) c_7]; exact hl
          refine lv_goto (tgt := 4) hx hb dX2_hasStaged_44 (by decide) ?_
          exact ih (i + 1) _ _ _ (by omega) (by omega) hP hD hS (lv_sub hl [2, 3, 1, 0] rfl)
        · refine lv_iconst (v := 1) hx hb dX2_hasStaged_35 (by decide) ?_
          refine lv_goto (tgt := 40) hx hb dX2_hasStaged_36 (by decide) ?_
          refine lv_istore_n (lv' := [(2, .int 1), (0, .ref o0), (1, .int (nI k)), (3, .int (nI i))]) hx hb dX2_hasStaged_40 rfl hl (by decide) rfl (fun ls hl => ?_)
          refine lv_iinc (v := nI (i + 1)) (lv' := [(3, .int (nI (i + 1))), (2, .int 1), (0, .ref o0), (1, .int (nI k))]) hx hb dX2_hasStaged_41 hl (k := 3) rfl (nI_1 i) (by decide) rfl (fun ls hl => ?_)
          have hl : lv_has ls 4 [(3, .int (nI (i + 1))), (2, .int (samN sl sg (4 * k) (i + 1))), (0, .ref o0), (1, .int (nI k))] := by rw [show samN sl sg (4 * k) (i + 1) = 1 from samN_go ((samN_01 _ _ _ _).resolve_left c_2) c_7]; exact hl
          refine lv_goto (tgt := 4) hx hb dX2_hasStaged_44 (by decide) ?_
          exact ih (i + 1) _ _ _ (by omega) (by omega) hP hD hS (lv_sub hl [2, 3, 1, 0] rfl)
set_option maxHeartbeats 4000000 in
set_option maxRecDepth 100000 in
theorem k_X2_hasStaged (l : Launch) (dC : Nat → ClassId) (dI : Nat → Nat → Nat) (o0 om ow os og : Nat) (z1 z2 z3 z4 : ClassId) (gW gC gV gB : Nat) (hg : mge gW gC gV gB) (sz : Nat) (mp wa sl sg : Nat → Int32) (hp am ar dn rd : Int32) (k : Nat) (hk : k ≤ 12) : ctI nwL l yX2_hasStaged wsX2_hasStaged ({ frames := 0, cells := 0, slots := 0, locals := 0 } : Room) (dC, dI) [(z1, .int), (z2, .int), (z3, .int), (z4, .int)] (mo_w o0 om ow os og z1 z2 z3 z4 gW gC gV gB) (mp, wa, sl, sg, hp, am, ar, dn, rd) sz [.ref o0, .int (nI k)] (fun (r : Int32) (u : MS) => r = samN sl sg (4 * k) gW ∧ u = (mp, wa, sl, sg, hp, am, ar, dn, rd)) := by
  refine Met.ofW (cc := cX2_hasStaged) (maxL := 4) (ret := (some .boolean)) (by decide) rfl ?_
  intro p e s m args below meth c s₁ B hml hv
  obtain ⟨rfl, hsz, hP, hK, hD0, hN⟩ := hv
  have hx := B.exec
  have hb := B.bytes
  have hr := B.returns
  have hts := fun w h => atoms_spec (ws := wsX2_hasStaged) B.pre w (List.mem_cons_of_mem _ h)
  have hown : s.vm.findClass RX2 = some m.cls := findClass_of_methodNamed B.named
  have hlocks := B.notSynchronized
  subst hsz
  have hD := hD0.self (sz := s.heap.size)
  generalize hAe : va_A ((mo_w o0 om ow os og z1 z2 z3 z4 gW gC gV gB) (mp, wa, sl, sg, hp, am, ar, dn, rd)) s.heap.size = A at hD ⊢
  have hA : ∀ q : Nat, s.heap.size ≤ q → A q := fun q h => by rw [← hAe]; exact Or.inr h
  have hS : va_S A s.heap s.heap [] := va_S.rf
  have hl := lv_entry ([.ref o0, .int (nI k)]) (n := 4) (Nat.le_of_ble_eq_true rfl)
  rw [lg_entry_eq]
  generalize (lg_sl ([.ref o0, .int (nI k)]) ++ List.replicate (4 - (lg_sl ([.ref o0, .int (nI k)])).length) Slot.unset).toArray = ls at hl ⊢
  have hP : va_P (dC, dI) vwCl [(o0, .inr (2, [.int (nI gW), .int (nI gC), .int (nI gV), .int (nI gB), .ref om, .ref ow, .ref os, .ref og, .int hp, .int am, .int ar, .int dn, .int rd])), (om, .inl (z1, 24, .inl mp)), (ow, .inl (z2, 24, .inl wa)), (os, .inl (z3, 52, .inl sl)), (og, .inl (z4, 4, .inl sg))] s.heap := hP
  have hD : va_D A [(o0, .inr (2, [.int (nI gW), .int (nI gC), .int (nI gV), .int (nI gB), .ref om, .ref ow, .ref os, .ref og, .int hp, .int am, .int ar, .int dn, .int rd])), (om, .inl (z1, 24, .inl mp)), (ow, .inl (z2, 24, .inl wa)), (os, .inl (z3, 52, .inl sl)), (og, .inl (z4, 4, .inl sg))] := hD
  have hl : lv_has ls 4 [(0, .ref o0), (1, .int (nI k))] := hl
  obtain ⟨⟨hW1, hW2⟩, ⟨hC1, hC2⟩, ⟨hV1, hV2⟩, ⟨hB1, hB2⟩⟩ := id hg
  refine lv_iconst (v := 1) hx hb dX2_hasStaged_0 (by decide) ?_
  refine lv_istore_n (lv' := [(2, .int 1), (0, .ref o0), (1, .int (nI k))]) hx hb dX2_hasStaged_1 rfl hl (by decide) rfl (fun ls hl => ?_)
  refine lv_iconst (v := 0) hx hb dX2_hasStaged_2 (by decide) ?_
  refine lv_istore_n (lv' := [(3, .int 0), (2, .int 1), (0, .ref o0), (1, .int (nI k))]) hx hb dX2_hasStaged_3 rfl hl (by decide) rfl (fun ls hl => ?_)
  have hl : lv_has ls 4 [(3, .int (nI 0)), (2, .int (samN sl sg (4 * k) 0)), (0, .ref o0), (1, .int (nI k))] := hl
  refine lp_X2_hasStaged_4 o0 om ow os og z1 z2 z3 z4 gW gC gV gB hg mp wa sl sg hp am ar dn rd k hk hx hb hml hown hts hK hN hA (fun  H locs ls  hP hD hS hl => ?_) (gW + 1) 0 _ _ _ (by omega) (by omega) hP hD hS (lv_sub hl [2, 3, 1, 0] rfl)
  have hP : va_P (dC, dI) vwCl [(o0, .inr (2, [.int (nI gW), .int (nI gC), .int (nI gV), .int (nI gB), .ref om, .ref ow, .ref os, .ref og, .int hp, .int am, .int ar, .int dn, .int rd])), (om, .inl (z1, 24, .inl mp)), (ow, .inl (z2, 24, .inl wa)), (os, .inl (z3, 52, .inl sl)), (og, .inl (z4, 4, .inl sg))] H := hP
  have hD : va_D A [(o0, .inr (2, [.int (nI gW), .int (nI gC), .int (nI gV), .int (nI gB), .ref om, .ref ow, .ref os, .ref og, .int hp, .int am, .int ar, .int dn, .int rd])), (om, .inl (z1, 24, .inl mp)), (ow, .inl (z2, 24, .inl wa)), (os, .inl (z3, 52, .inl sl)), (og, .inl (z4, 4, .inl sg))] := hD
  refine lv_iload_n hx hb dX2_hasStaged_47 rfl (lv_at hl 1 rfl) ?_
  exact W.zret (v := samN sl sg (4 * k) gW) hx hb hr (nar_z (samN_01 _ _ _ _)) (fun t ht hW => ⟨⟨samN sl sg (4 * k) gW, (mp, wa, sl, sg, hp, am, ar, dn, rd), rfl, ⟨rfl, rfl⟩, by rw [ht]; exact hP, hD⟩, hS.F ht⟩) hS.2.2 dX2_hasStaged_48
set_option maxHeartbeats 4000000 in
set_option maxRecDepth 100000 in
theorem lp_X2_sharing_4 {p : Program} {l : Launch} {e : Env} {s : State} {m : MethodId} {args : Array Value} {below : List Frame} {meth : Method} {c : Code} {Q : State → Prop} {A : Nat → Prop} {dC : Nat → ClassId} {dI : Nat → Nat → Nat} (o0 om ow os og : Nat) (z1 z2 z3 z4 : ClassId) (gW gC gV gB : Nat) (hg : mge gW gC gV gB) (mp wa sl sg : Nat → Int32) (hp am ar dn rd : Int32) (hx : p.tables.exec = Jvm.exec) (hb : c.code = cX2_sharing) (hml : c.maxLocals = 3) (hown : s.vm.findClass RX2 = some m.cls) (hts : ∀ w ∈ TBG, w.before args s = true) (hK : va_K (dC, dI) vwCl [(z1, .int), (z2, .int), (z3, .int), (z4, .int)] s) (hN : nwOk nwL s) (hA : ∀ q : Nat, s.heap.size ≤ q → A q)  (K : ∀  (H : Heap) (locs : List Loc) (ls : Array Slot), va_P (dC, dI) vwCl (mo_w o0 om ow os og z1 z2 z3 z4 gW gC gV gB (mp, wa, sl, sg, hp, am, ar, dn, rd)) H → va_D A (mo_w o0 om ow os og z1 z2 z3 z4 gW gC gV gB (mp, wa, sl, sg, hp, am, ar, dn, rd)) → va_S A s.heap H locs → lv_has ls 3 [(0, .ref o0), (1, .int (shrN mp sl sg gW (gC + 1)))] → W p l e ({ frames := 1, cells := 0, slots := 0, locals := 23 } : Room) s m args below meth c H locs 0 0 Q (F0 m 40 ls [])) : ∀ (n : Nat) (i : Nat) (H : Heap) (locs : List Loc) (ls : Array Slot), gC + 1 - i < n → (i ≤ gC + 1) → va_P (dC, dI) vwCl (mo_w o0 om ow os og z1 z2 z3 z4 gW gC gV gB (mp, wa, sl, sg, hp, am, ar, dn, rd)) H → va_D A (mo_w o0 om ow os og z1 z2 z3 z4 gW gC gV gB (mp, wa, sl, sg, hp, am, ar, dn, rd)) → va_S A s.heap H locs → lv_has ls 3 [(0, .ref o0), (1, .int (shrN mp sl sg gW i)), (2, .int (nI i))] → W p l e ({ frames := 1, cells := 0, slots := 0, locals := 23 } : Room) s m args below meth c H locs 0 0 Q (F0 m 4 ls []) := by
  obtain ⟨⟨hW1, hW2⟩, ⟨hC1, hC2⟩, ⟨hV1, hV2⟩, ⟨hB1, hB2⟩⟩ := id hg
  intro n
  induction n with
  | zero => intro i H locs ls hfu; exact absurd hfu (by omega)
  | succ n ih =>
    intro i H locs ls hfu hi hP hD hS hl
    have hP : va_P (dC, dI) vwCl [(o0, .inr (2, [.int (nI gW), .int (nI gC), .int (nI gV), .int (nI gB), .ref om, .ref ow, .ref os, .ref og, .int hp, .int am, .int ar, .int dn, .int rd])), (om, .inl (z1, 24, .inl mp)), (ow, .inl (z2, 24, .inl wa)), (os, .inl (z3, 52, .inl sl)), (og, .inl (z4, 4, .inl sg))] H := hP
    have hD : va_D A [(o0, .inr (2, [.int (nI gW), .int (nI gC), .int (nI gV), .int (nI gB), .ref om, .ref ow, .ref os, .ref og, .int hp, .int am, .int ar, .int dn, .int rd])), (om, .inl (z1, 24, .inl mp)), (ow, .inl (z2, 24, .inl wa)), (os, .inl (z3, 52, .inl sl)), (og, .inl (z4, 4, .inl sg))] := hD
    refine lv_iload_n hx hb dX2_sharing_4 rfl (lv_at hl 2 rfl) ?_
    refine lv_aload_n hx hb dX2_sharing_5 rfl (lv_at hl 0 rfl) ?_
    refine va_get (D := (dC, dI)) (ci := 2) (v := .int (nI gC)) (C := RX2) (T := TX2) (N := 13) hx hb hts inX2 hown hK hP 0 rfl rfl 1 (by decide) (hts _ tb_256) (fun _ h9 => h9) rfl dX2_sharing_6 ?_
    refine lv_icmp_gt (tgt := 40) hx hb dX2_sharing_9 (by decide) (fun c_1 => ?_) (fun c_1 => ?_)
    · have c_1 : gC < i := (nI_ltI (a := gC) (b := i) (by omega) (by omega)).mp c_1
      have hie : i = gC + 1 := by omega
      rw [hie] at hl
      exact K  _ _ _  hP hD hS (lv_sub hl [0, 1] rfl)
    · have c_1 : ¬ (gC < i) := fun q9 => c_1 ((nI_ltI (a := gC) (b := i) (by omega) (by omega)).mpr q9)
      refine lv_aload_n hx hb dX2_sharing_12 rfl (lv_at hl 0 rfl) ?_
      refine lv_iload_n hx hb dX2_sharing_13 rfl (lv_at hl 2 rfl) ?_
      have hcl := cntC_le mp 0 (nI i + 1) 24
      refine xr_i (D := (dC, dI)) (wf := (mo_w o0 om ow os og z1 z2 z3 z4 gW gC gV gB)) (u0 := (mp, wa, sl, sg, hp, am, ar, dn, rd)) (wr := []) (va_runV (As := [.int (nI i)]) (rest := []) ⟨hx, hb, hml, hown, hts⟩ (k_X2_refs l dC dI o0 om ow os og z1 z2 z3 z4 gW gC gV gB hg H.size mp wa sl sg hp am ar dn rd (nI i)) (cwV 1 hts gX2_63 rfl rfl rfl (by decide +kernel) ⟨Nat.le_of_ble_eq_true rfl, Nat.le_of_ble_eq_true rfl⟩) (xp_v nwL_ok hK hN hP hD [0, 1, 2, 3, 4] rfl rfl (va_recv hK hP (ci := 2) (q0 := 0) rfl rfl)) rfl rfl hl.1 rfl (lv_room (Nat.le_of_ble_eq_true rfl)) dX2_sharing_14 ⟨Nat.zero_le _, Nat.zero_le _⟩) hP hD hS hA [0, 1, 2, 3, 4] [] rfl rfl (by decide) (by decide) (fun r_2 u_3 H locs hw hP hD hS => ?_)
      obtain ⟨er_2, eu_3⟩ := hw
      rw [eu_3] at hP hD
      rw [er_2]
      have hP : va_P (dC, dI) vwCl [(o0, .inr (2, [.int (nI gW), .int (nI gC), .int (nI gV), .int (nI gB), .ref om, .ref ow, .ref os, .ref og, .int hp, .int am, .int ar, .int dn, .int rd])), (om, .inl (z1, 24, .inl mp)), (ow, .inl (z2, 24, .inl wa)), (os, .inl (z3, 52, .inl sl)), (og, .inl (z4, 4, .inl sg))] H := hP
      have hD : va_D A [(o0, .inr (2, [.int (nI gW), .int (nI gC), .int (nI gV), .int (nI gB), .ref om, .ref ow, .ref os, .ref og, .int hp, .int am, .int ar, .int dn, .int rd])), (om, .inl (z1, 24, .inl mp)), (ow, .inl (z2, 24, .inl wa)), (os, .inl (z3, 52, .inl sl)), (og, .inl (z4, 4, .inl sg))] := hD
      refine lv_if_le (tgt := 32) hx hb dX2_sharing_17 (by decide) (fun c_4 => ?_) (fun c_4 => ?_)
      · have c_4 : cntC mp 0 (nI i + 1) 24 ≤ 0 := (nI_leI (a := cntC mp 0 (nI i + 1) 24) (b := 0) (by omega) (by omega)).mp c_4
        refine lv_iload_n hx hb dX2_sharing_32 rfl (lv_at hl 1 rfl) ?_
        refine lv_istore_n (lv' := [(1, .int (shrN mp sl sg gW i)), (0, .ref o0), (2, .int (nI i))]) hx hb dX2_sharing_33 rfl hl (by decide) rfl (fun ls hl => ?_)
        refine lv_iinc (v := nI (i + 1)) (lv' := [(2, .int (nI (i + 1))), (1, .int (shrN mp sl sg gW i)), (0, .ref o0)]) hx hb dX2_sharing_34 hl (k := 2) rfl (nI_1 i) (by decide) rfl (fun ls hl => ?_)
        have hl : lv_has ls 3 [(2, .int (nI (i + 1))), (1, .int (shrN mp sl sg gW (i + 1))), (0, .ref o0)] := by rw [show shrN mp sl sg gW (i + 1) = shrN mp sl sg gW i from shrN_u (usd_0 (show cntC mp 0 (nI i + 1) 24 = 0 by omega))]; exact hl
        refine lv_goto (tgt := 4) hx hb dX2_sharing_37 (by decide) ?_
        exact ih (i + 1) _ _ _ (by omega) (by omega) hP hD hS (lv_sub hl [2, 1, 0] rfl)
      · have c_4 : ¬ (cntC mp 0 (nI i + 1) 24 ≤ 0) := fun q9 => c_4 ((nI_leI (a := cntC mp 0 (nI i + 1) 24) (b := 0) (by omega) (by omega)).mpr q9)
        refine lv_aload_n hx hb dX2_sharing_20 rfl (lv_at hl 0 rfl) ?_
        refine lv_iload_n hx hb dX2_sharing_21 rfl (lv_at hl 2 rfl) ?_
        refine xr_i (D := (dC, dI)) (wf := (mo_w o0 om ow os og z1 z2 z3 z4 gW gC gV gB)) (u0 := (mp, wa, sl, sg, hp, am, ar, dn, rd)) (wr := []) (va_runV (As := [.int (nI i)]) (rest := []) ⟨hx, hb, hml, hown, hts⟩ (k_X2_hasStaged l dC dI o0 om ow os og z1 z2 z3 z4 gW gC gV gB hg H.size mp wa sl sg hp am ar dn rd i (by omega)) (cwV 1 hts gX2_66 rfl rfl rfl (by decide +kernel) ⟨Nat.le_of_ble_eq_true rfl, Nat.le_of_ble_eq_true rfl⟩) (xp_v nwL_ok hK hN hP hD [0, 1, 2, 3, 4] rfl rfl (va_recv hK hP (ci := 2) (q0 := 0) rfl rfl)) rfl rfl hl.1 rfl (lv_room (Nat.le_of_ble_eq_true rfl)) dX2_sharing_22 ⟨Nat.zero_le _, Nat.zero_le _⟩) hP hD hS hA [0, 1, 2, 3, 4] [] rfl rfl (by decide) (by decide) (fun r_5 u_6 H locs hw hP hD hS => ?_)
        obtain ⟨er_5, eu_6⟩ := hw
        rw [eu_6] at hP hD
        rw [er_5]
        have hP : va_P (dC, dI) vwCl [(o0, .inr (2, [.int (nI gW), .int (nI gC), .int (nI gV), .int (nI gB), .ref om, .ref ow, .ref os, .ref og, .int hp, .int am, .int ar, .int dn, .int rd])), (om, .inl (z1, 24, .inl mp)), (ow, .inl (z2, 24, .inl wa)), (os, .inl (z3, 52, .inl sl)), (og, .inl (z4, 4, .inl sg))] H := hP
        have hD : va_D A [(o0, .inr (2, [.int (nI gW), .int (nI gC), .int (nI gV), .int (nI gB), .ref om, .ref ow, .ref os, .ref og, .int hp, .int am, .int ar, .int dn, .int rd])), (om, .inl (z1, 24, .inl mp)), (ow, .inl (z2, 24, .inl wa)), (os, .inl (z3, 52, .inl sl)), (og, .inl (z4, 4, .inl sg))] := hD
        refine lv_if_eq (tgt := 32) hx hb dX2_sharing_25 (by decide) (fun c_7 => ?_) (fun c_7 => ?_)
        · refine lv_iload_n hx hb dX2_sharing_32 rfl (lv_at hl 1 rfl) ?_
          refine lv_istore_n (lv' := [(1, .int (shrN mp sl sg gW i)), (0, .ref o0), (2, .int (nI i))]) hx hb dX2_sharing_33 rfl hl (by decide) rfl (fun ls hl => ?_)
          refine lv_iinc (v := nI (i + 1)) (lv' := [(2, .int (nI (i + 1))), (1, .int (shrN mp sl sg gW i)), (0, .ref o0)]) hx hb dX2_sharing_34 hl (k := 2) rfl (nI_1 i) (by decide) rfl (fun ls hl => ?_)
          have hl : lv_has ls 3 [(2, .int (nI (i + 1))), (1, .int (shrN mp sl sg gW (i + 1))), (0, .ref o0)] := by rw [show shrN mp sl sg gW (i + 1) = shrN mp sl sg gW i from shrN_n c_7]; exact hl
          refine lv_goto (tgt := 4) hx hb dX2_sharing_37 (by decide) ?_
          exact ih (i + 1) _ _ _ (by omega) (by omega) hP hD hS (lv_sub hl [2, 1, 0] rfl)
        · refine lv_iload_n hx hb dX2_sharing_28 rfl (lv_at hl 2 rfl) ?_
          refine lv_goto (tgt := 33) hx hb dX2_sharing_29 (by decide) ?_
          refine lv_istore_n (lv' := [(1, .int (nI i)), (0, .ref o0), (2, .int (nI i))]) hx hb dX2_sharing_33 rfl hl (by decide) rfl (fun ls hl => ?_)
          refine lv_iinc (v := nI (i + 1)) (lv' := [(2, .int (nI (i + 1))), (1, .int (nI i)), (0, .ref o0)]) hx hb dX2_sharing_34 hl (k := 2) rfl (nI_1 i) (by decide) rfl (fun ls hl => ?_)
          have hl : lv_has ls 3 [(2, .int (nI (i + 1))), (1, .int (shrN mp sl sg gW (i + 1))), (0, .ref o0)] := by rw [show shrN mp sl sg gW (i + 1) = nI i from shrN_y (usd_1 (show ¬ cntC mp 0 (nI i + 1) 24 = 0 by omega)) c_7]; exact hl
          refine lv_goto (tgt := 4) hx hb dX2_sharing_37 (by decide) ?_
          exact ih (i + 1) _ _ _ (by omega) (by omega) hP hD hS (lv_sub hl [2, 1, 0] rfl)
set_option maxHeartbeats 4000000 in
set_option maxRecDepth 100000 in
theorem k_X2_sharing (l : Launch) (dC : Nat → ClassId) (dI : Nat → Nat → Nat) (o0 om ow os og : Nat) (z1 z2 z3 z4 : ClassId) (gW gC gV gB : Nat) (hg : mge gW gC gV gB) (sz : Nat) (mp wa sl sg : Nat → Int32) (hp am ar dn rd : Int32)  : ctI nwL l yX2_sharing wsX2_sharing ({ frames := 1, cells := 0, slots := 0, locals := 23 } : Room) (dC, dI) [(z1, .int), (z2, .int), (z3, .int), (z4, .int)] (mo_w o0 om ow os og z1 z2 z3 z4 gW gC gV gB) (mp, wa, sl, sg, hp, am, ar, dn, rd) sz [.ref o0] (fun (r : Int32) (u : MS) => r = shrN mp sl sg gW (gC + 1) ∧ u = (mp, wa, sl, sg, hp, am, ar, dn, rd)) := by
  refine Met.ofW (cc := cX2_sharing) (maxL := 3) (ret := (some .int)) (by decide) rfl ?_
  intro p e s m args below meth c s₁ B hml hv
  obtain ⟨rfl, hsz, hP, hK, hD0, hN⟩ := hv
  have hx := B.exec
  have hb := B.bytes
  have hr := B.returns
  have hts := fun w h => atoms_spec (ws := wsX2_sharing) B.pre w (List.mem_cons_of_mem _ h)
  have hown : s.vm.findClass RX2 = some m.cls := findClass_of_methodNamed B.named
  have hlocks := B.notSynchronized
  subst hsz
  have hD := hD0.self (sz := s.heap.size)
  generalize hAe : va_A ((mo_w o0 om ow os og z1 z2 z3 z4 gW gC gV gB) (mp, wa, sl, sg, hp, am, ar, dn, rd)) s.heap.size = A at hD ⊢
  have hA : ∀ q : Nat, s.heap.size ≤ q → A q := fun q h => by rw [← hAe]; exact Or.inr h
  have hS : va_S A s.heap s.heap [] := va_S.rf
  have hl := lv_entry ([.ref o0]) (n := 3) (Nat.le_of_ble_eq_true rfl)
  rw [lg_entry_eq]
  generalize (lg_sl ([.ref o0]) ++ List.replicate (3 - (lg_sl ([.ref o0])).length) Slot.unset).toArray = ls at hl ⊢
  have hP : va_P (dC, dI) vwCl [(o0, .inr (2, [.int (nI gW), .int (nI gC), .int (nI gV), .int (nI gB), .ref om, .ref ow, .ref os, .ref og, .int hp, .int am, .int ar, .int dn, .int rd])), (om, .inl (z1, 24, .inl mp)), (ow, .inl (z2, 24, .inl wa)), (os, .inl (z3, 52, .inl sl)), (og, .inl (z4, 4, .inl sg))] s.heap := hP
  have hD : va_D A [(o0, .inr (2, [.int (nI gW), .int (nI gC), .int (nI gV), .int (nI gB), .ref om, .ref ow, .ref os, .ref og, .int hp, .int am, .int ar, .int dn, .int rd])), (om, .inl (z1, 24, .inl mp)), (ow, .inl (z2, 24, .inl wa)), (os, .inl (z3, 52, .inl sl)), (og, .inl (z4, 4, .inl sg))] := hD
  have hl : lv_has ls 3 [(0, .ref o0)] := hl
  obtain ⟨⟨hW1, hW2⟩, ⟨hC1, hC2⟩, ⟨hV1, hV2⟩, ⟨hB1, hB2⟩⟩ := id hg
  refine lv_iconst (v := (-1)) hx hb dX2_sharing_0 (by decide) ?_
  refine lv_istore_n (lv' := [(1, .int (-1)), (0, .ref o0)]) hx hb dX2_sharing_1 rfl hl (by decide) rfl (fun ls hl => ?_)
  refine lv_iconst (v := 0) hx hb dX2_sharing_2 (by decide) ?_
  refine lv_istore_n (lv' := [(2, .int 0), (1, .int (-1)), (0, .ref o0)]) hx hb dX2_sharing_3 rfl hl (by decide) rfl (fun ls hl => ?_)
  have hl : lv_has ls 3 [(2, .int (nI 0)), (1, .int (shrN mp sl sg gW 0)), (0, .ref o0)] := hl
  refine lp_X2_sharing_4 o0 om ow os og z1 z2 z3 z4 gW gC gV gB hg mp wa sl sg hp am ar dn rd hx hb hml hown hts hK hN hA (fun  H locs ls  hP hD hS hl => ?_) (gC + 2) 0 _ _ _ (by omega) (by omega) hP hD hS (lv_sub hl [2, 1, 0] rfl)
  have hP : va_P (dC, dI) vwCl [(o0, .inr (2, [.int (nI gW), .int (nI gC), .int (nI gV), .int (nI gB), .ref om, .ref ow, .ref os, .ref og, .int hp, .int am, .int ar, .int dn, .int rd])), (om, .inl (z1, 24, .inl mp)), (ow, .inl (z2, 24, .inl wa)), (os, .inl (z3, 52, .inl sl)), (og, .inl (z4, 4, .inl sg))] H := hP
  have hD : va_D A [(o0, .inr (2, [.int (nI gW), .int (nI gC), .int (nI gV), .int (nI gB), .ref om, .ref ow, .ref os, .ref og, .int hp, .int am, .int ar, .int dn, .int rd])), (om, .inl (z1, 24, .inl mp)), (ow, .inl (z2, 24, .inl wa)), (os, .inl (z3, 52, .inl sl)), (og, .inl (z4, 4, .inl sg))] := hD
  refine lv_iload_n hx hb dX2_sharing_40 rfl (lv_at hl 1 rfl) ?_
  exact W.iret (v := shrN mp sl sg gW (gC + 1)) hx hb hr (fun t ht hW => ⟨⟨shrN mp sl sg gW (gC + 1), (mp, wa, sl, sg, hp, am, ar, dn, rd), rfl, ⟨rfl, rfl⟩, by rw [ht]; exact hP, hD⟩, hS.F ht⟩) hS.2.2 dX2_sharing_41
set_option maxHeartbeats 4000000 in
set_option maxRecDepth 100000 in
theorem lp_X2_lowestUnused_2 {p : Program} {l : Launch} {e : Env} {s : State} {m : MethodId} {args : Array Value} {below : List Frame} {meth : Method} {c : Code} {Q : State → Prop} {A : Nat → Prop} {dC : Nat → ClassId} {dI : Nat → Nat → Nat} (o0 om ow os og : Nat) (z1 z2 z3 z4 : ClassId) (gW gC gV gB : Nat) (hg : mge gW gC gV gB) (mp wa sl sg : Nat → Int32) (hp am ar dn rd : Int32) (N : Nat) (hN9 : N < 100) (hlow : usd mp 0 24 (nI N) = 0) (hx : p.tables.exec = Jvm.exec) (hb : c.code = cX2_lowestUnused) (hml : c.maxLocals = 2) (hown : s.vm.findClass RX2 = some m.cls) (hts : ∀ w ∈ TBG, w.before args s = true) (hK : va_K (dC, dI) vwCl [(z1, .int), (z2, .int), (z3, .int), (z4, .int)] s) (hN : nwOk nwL s) (hA : ∀ q : Nat, s.heap.size ≤ q → A q)  (K : ∀ (i : Nat) (H : Heap) (locs : List Loc) (ls : Array Slot), (i ≤ N) → (∀ j, j < i → ¬ usd mp 0 24 (nI j) = 0) → (usd mp 0 24 (nI i) = 0) → va_P (dC, dI) vwCl (mo_w o0 om ow os og z1 z2 z3 z4 gW gC gV gB (mp, wa, sl, sg, hp, am, ar, dn, rd)) H → va_D A (mo_w o0 om ow os og z1 z2 z3 z4 gW gC gV gB (mp, wa, sl, sg, hp, am, ar, dn, rd)) → va_S A s.heap H locs → lv_has ls 2 [(0, .ref o0), (1, .int (nI i))] → W p l e ({ frames := 1, cells := 0, slots := 0, locals := 23 } : Room) s m args below meth c H locs 0 0 Q (F0 m 16 ls [])) : ∀ (n : Nat) (i : Nat) (H : Heap) (locs : List Loc) (ls : Array Slot), N - i < n → (i ≤ N) → (∀ j, j < i → ¬ usd mp 0 24 (nI j) = 0) → va_P (dC, dI) vwCl (mo_w o0 om ow os og z1 z2 z3 z4 gW gC gV gB (mp, wa, sl, sg, hp, am, ar, dn, rd)) H → va_D A (mo_w o0 om ow os og z1 z2 z3 z4 gW gC gV gB (mp, wa, sl, sg, hp, am, ar, dn, rd)) → va_S A s.heap H locs → lv_has ls 2 [(0, .ref o0), (1, .int (nI i))] → W p l e ({ frames := 1, cells := 0, slots := 0, locals := 23 } : Room) s m args below meth c H locs 0 0 Q (F0 m 2 ls []) := by
  obtain ⟨⟨hW1, hW2⟩, ⟨hC1, hC2⟩, ⟨hV1, hV2⟩, ⟨hB1, hB2⟩⟩ := id hg
  intro n
  induction n with
  | zero => intro i H locs ls hfu; exact absurd hfu (by omega)
  | succ n ih =>
    intro i H locs ls hfu hi hj hP hD hS hl
    have hP : va_P (dC, dI) vwCl [(o0, .inr (2, [.int (nI gW), .int (nI gC), .int (nI gV), .int (nI gB), .ref om, .ref ow, .ref os, .ref og, .int hp, .int am, .int ar, .int dn, .int rd])), (om, .inl (z1, 24, .inl mp)), (ow, .inl (z2, 24, .inl wa)), (os, .inl (z3, 52, .inl sl)), (og, .inl (z4, 4, .inl sg))] H := hP
    have hD : va_D A [(o0, .inr (2, [.int (nI gW), .int (nI gC), .int (nI gV), .int (nI gB), .ref om, .ref ow, .ref os, .ref og, .int hp, .int am, .int ar, .int dn, .int rd])), (om, .inl (z1, 24, .inl mp)), (ow, .inl (z2, 24, .inl wa)), (os, .inl (z3, 52, .inl sl)), (og, .inl (z4, 4, .inl sg))] := hD
    refine lv_aload_n hx hb dX2_lowestUnused_2 rfl (lv_at hl 0 rfl) ?_
    refine lv_iload_n hx hb dX2_lowestUnused_3 rfl (lv_at hl 1 rfl) ?_
    have hcl := cntC_le mp 0 (nI i + 1) 24
    refine xr_i (D := (dC, dI)) (wf := (mo_w o0 om ow os og z1 z2 z3 z4 gW gC gV gB)) (u0 := (mp, wa, sl, sg, hp, am, ar, dn, rd)) (wr := []) (va_runV (As := [.int (nI i)]) (rest := []) ⟨hx, hb, hml, hown, hts⟩ (k_X2_refs l dC dI o0 om ow os og z1 z2 z3 z4 gW gC gV gB hg H.size mp wa sl sg hp am ar dn rd (nI i)) (cwV 1 hts gX2_63 rfl rfl rfl (by decide +kernel) ⟨Nat.le_of_ble_eq_true rfl, Nat.le_of_ble_eq_true rfl⟩) (xp_v nwL_ok hK hN hP hD [0, 1, 2, 3, 4] rfl rfl (va_recv hK hP (ci := 2) (q0 := 0) rfl rfl)) rfl rfl hl.1 rfl (lv_room (Nat.le_of_ble_eq_true rfl)) dX2_lowestUnused_4 ⟨Nat.zero_le _, Nat.zero_le _⟩) hP hD hS hA [0, 1, 2, 3, 4] [] rfl rfl (by decide) (by decide) (fun r_1 u_2 H locs hw hP hD hS => ?_)
    obtain ⟨er_1, eu_2⟩ := hw
    rw [eu_2] at hP hD
    rw [er_1]
    have hP : va_P (dC, dI) vwCl [(o0, .inr (2, [.int (nI gW), .int (nI gC), .int (nI gV), .int (nI gB), .ref om, .ref ow, .ref os, .ref og, .int hp, .int am, .int ar, .int dn, .int rd])), (om, .inl (z1, 24, .inl mp)), (ow, .inl (z2, 24, .inl wa)), (os, .inl (z3, 52, .inl sl)), (og, .inl (z4, 4, .inl sg))] H := hP
    have hD : va_D A [(o0, .inr (2, [.int (nI gW), .int (nI gC), .int (nI gV), .int (nI gB), .ref om, .ref ow, .ref os, .ref og, .int hp, .int am, .int ar, .int dn, .int rd])), (om, .inl (z1, 24, .inl mp)), (ow, .inl (z2, 24, .inl wa)), (os, .inl (z3, 52, .inl sl)), (og, .inl (z4, 4, .inl sg))] := hD
    refine lv_if_le (tgt := 16) hx hb dX2_lowestUnused_7 (by decide) (fun c_3 => ?_) (fun c_3 => ?_)
    · have c_3 : cntC mp 0 (nI i + 1) 24 ≤ 0 := (nI_leI (a := cntC mp 0 (nI i + 1) 24) (b := 0) (by omega) (by omega)).mp c_3
      exact K i _ _ _ (hi) (hj) (usd_0 (by omega)) hP hD hS (lv_sub hl [0, 1] rfl)
    · have c_3 : ¬ (cntC mp 0 (nI i + 1) 24 ≤ 0) := fun q9 => c_3 ((nI_leI (a := cntC mp 0 (nI i + 1) 24) (b := 0) (by omega) (by omega)).mpr q9)
      refine lv_iinc (v := nI (i + 1)) (lv' := [(1, .int (nI (i + 1))), (0, .ref o0)]) hx hb dX2_lowestUnused_10 hl (k := 1) rfl (nI_1 i) (by decide) rfl (fun ls hl => ?_)
      have hus := usd_1 (f := mp) (lo := 0) (q := 24) (k := nI i) (by omega)
      have hiN : ¬ i = N := fun q9 => hus (by rw [q9]; exact hlow)
      refine lv_goto (tgt := 2) hx hb dX2_lowestUnused_13 (by decide) ?_
      exact ih (i + 1) _ _ _ (by omega) (by omega) (lt_s hj hus) hP hD hS (lv_sub hl [1, 0] rfl)
set_option maxHeartbeats 4000000 in
set_option maxRecDepth 100000 in
theorem k_X2_lowestUnused (l : Launch) (dC : Nat → ClassId) (dI : Nat → Nat → Nat) (o0 om ow os og : Nat) (z1 z2 z3 z4 : ClassId) (gW gC gV gB : Nat) (hg : mge gW gC gV gB) (sz : Nat) (mp wa sl sg : Nat → Int32) (hp am ar dn rd : Int32) (N : Nat) (hN9 : N < 100) (hlow : usd mp 0 24 (nI N) = 0) : ctI nwL l yX2_lowestUnused wsX2_lowestUnused ({ frames := 1, cells := 0, slots := 0, locals := 23 } : Room) (dC, dI) [(z1, .int), (z2, .int), (z3, .int), (z4, .int)] (mo_w o0 om ow os og z1 z2 z3 z4 gW gC gV gB) (mp, wa, sl, sg, hp, am, ar, dn, rd) sz [.ref o0] (fun (r : Int32) (u : MS) => (∃ i : Nat, r = nI i ∧ i ≤ N ∧ (∀ j, j < i → ¬ usd mp 0 24 (nI j) = 0) ∧ usd mp 0 24 (nI i) = 0) ∧ u = (mp, wa, sl, sg, hp, am, ar, dn, rd)) := by
  refine Met.ofW (cc := cX2_lowestUnused) (maxL := 2) (ret := (some .int)) (by decide) rfl ?_
  intro p e s m args below meth c s₁ B hml hv
  obtain ⟨rfl, hsz, hP, hK, hD0, hN⟩ := hv
  have hx := B.exec
  have hb := B.bytes
  have hr := B.returns
  have hts := fun w h => atoms_spec (ws := wsX2_lowestUnused) B.pre w (List.mem_cons_of_mem _ h)
  have hown : s.vm.findClass RX2 = some m.cls := findClass_of_methodNamed B.named
  have hlocks := B.notSynchronized
  subst hsz
  have hD := hD0.self (sz := s.heap.size)
  generalize hAe : va_A ((mo_w o0 om ow os og z1 z2 z3 z4 gW gC gV gB) (mp, wa, sl, sg, hp, am, ar, dn, rd)) s.heap.size = A at hD ⊢
  have hA : ∀ q : Nat, s.heap.size ≤ q → A q := fun q h => by rw [← hAe]; exact Or.inr h
  have hS : va_S A s.heap s.heap [] := va_S.rf
  have hl := lv_entry ([.ref o0]) (n := 2) (Nat.le_of_ble_eq_true rfl)
  rw [lg_entry_eq]
  generalize (lg_sl ([.ref o0]) ++ List.replicate (2 - (lg_sl ([.ref o0])).length) Slot.unset).toArray = ls at hl ⊢
  have hP : va_P (dC, dI) vwCl [(o0, .inr (2, [.int (nI gW), .int (nI gC), .int (nI gV), .int (nI gB), .ref om, .ref ow, .ref os, .ref og, .int hp, .int am, .int ar, .int dn, .int rd])), (om, .inl (z1, 24, .inl mp)), (ow, .inl (z2, 24, .inl wa)), (os, .inl (z3, 52, .inl sl)), (og, .inl (z4, 4, .inl sg))] s.heap := hP
  have hD : va_D A [(o0, .inr (2, [.int (nI gW), .int (nI gC), .int (nI gV), .int (nI gB), .ref om, .ref ow, .ref os, .ref og, .int hp, .int am, .int ar, .int dn, .int rd])), (om, .inl (z1, 24, .inl mp)), (ow, .inl (z2, 24, .inl wa)), (os, .inl (z3, 52, .inl sl)), (og, .inl (z4, 4, .inl sg))] := hD
  have hl : lv_has ls 2 [(0, .ref o0)] := hl
  obtain ⟨⟨hW1, hW2⟩, ⟨hC1, hC2⟩, ⟨hV1, hV2⟩, ⟨hB1, hB2⟩⟩ := id hg
  refine lv_iconst (v := 0) hx hb dX2_lowestUnused_0 (by decide) ?_
  refine lv_istore_n (lv' := [(1, .int 0), (0, .ref o0)]) hx hb dX2_lowestUnused_1 rfl hl (by decide) rfl (fun ls hl => ?_)
  have hl : lv_has ls 2 [(1, .int (nI 0)), (0, .ref o0)] := hl
  refine lp_X2_lowestUnused_2 o0 om ow os og z1 z2 z3 z4 gW gC gV gB hg mp wa sl sg hp am ar dn rd N hN9 hlow hx hb hml hown hts hK hN hA (fun i H locs ls hi hj hk hP hD hS hl => ?_) (N + 1) 0 _ _ _ (by omega) (by omega) (lt_0) hP hD hS (lv_sub hl [1, 0] rfl)
  have hP : va_P (dC, dI) vwCl [(o0, .inr (2, [.int (nI gW), .int (nI gC), .int (nI gV), .int (nI gB), .ref om, .ref ow, .ref os, .ref og, .int hp, .int am, .int ar, .int dn, .int rd])), (om, .inl (z1, 24, .inl mp)), (ow, .inl (z2, 24, .inl wa)), (os, .inl (z3, 52, .inl sl)), (og, .inl (z4, 4, .inl sg))] H := hP
  have hD : va_D A [(o0, .inr (2, [.int (nI gW), .int (nI gC), .int (nI gV), .int (nI gB), .ref om, .ref ow, .ref os, .ref og, .int hp, .int am, .int ar, .int dn, .int rd])), (om, .inl (z1, 24, .inl mp)), (ow, .inl (z2, 24, .inl wa)), (os, .inl (z3, 52, .inl sl)), (og, .inl (z4, 4, .inl sg))] := hD
  refine lv_iload_n hx hb dX2_lowestUnused_16 rfl (lv_at hl 1 rfl) ?_
  exact W.iret (v := nI i) hx hb hr (fun t ht hW => ⟨⟨nI i, (mp, wa, sl, sg, hp, am, ar, dn, rd), rfl, ⟨⟨i, rfl, hi, hj, hk⟩, rfl⟩, by rw [ht]; exact hP, hD⟩, hS.F ht⟩) hS.2.2 dX2_lowestUnused_17
