set_option maxHeartbeats 4000000 in
set_option maxRecDepth 100000 in
theorem lp_X2_clearStage_2 {p : Program} {l : Launch} {e : Env} {s : State} {m : MethodId} {args : Array Value} {below : List Frame} {meth : Method} {c : Code} {Q : State → Prop} {A : Nat → Prop} {dC : Nat → ClassId} {dI : Nat → Nat → Nat} (o0 om ow os og : Nat) (z1 z2 z3 z4 : ClassId) (gW gC gV gB : Nat) (hg : mge gW gC gV gB) (mp wa sl sg : Nat → Int32) (hp am ar dn rd : Int32) (hx : p.tables.exec = Jvm.exec) (hb : c.code = cX2_clearStage) (hml : c.maxLocals = 2) (hown : s.vm.findClass RX2 = some m.cls) (hts : ∀ w ∈ TBG, w.before args s = true) (hK : va_K (dC, dI) vwCl [(z1, .int), (z2, .int), (z3, .int), (z4, .int)] s) (hN : nwOk nwL s) (hA : ∀ q : Nat, s.heap.size ≤ q → A q)  (K : ∀  (H : Heap) (locs : List Loc) (ls : Array Slot), va_P (dC, dI) vwCl (mo_w o0 om ow os og z1 z2 z3 z4 gW gC gV gB (mp, wa, sl, fillN sg 4 0, hp, am, ar, dn, rd)) H → va_D A (mo_w o0 om ow os og z1 z2 z3 z4 gW gC gV gB (mp, wa, sl, fillN sg 4 0, hp, am, ar, dn, rd)) → va_S A s.heap H locs → lv_has ls 2 [(0, .ref o0)] → W p l e ({ frames := 0, cells := 0, slots := 0, locals := 0 } : Room) s m args below meth c H locs 0 0 Q (F0 m 20 ls [])) : ∀ (n : Nat) (i : Nat) (H : Heap) (locs : List Loc) (ls : Array Slot), 4 - i < n → (i ≤ 4) → va_P (dC, dI) vwCl (mo_w o0 om ow os og z1 z2 z3 z4 gW gC gV gB (mp, wa, sl, fillN sg i 0, hp, am, ar, dn, rd)) H → va_D A (mo_w o0 om ow os og z1 z2 z3 z4 gW gC gV gB (mp, wa, sl, fillN sg i 0, hp, am, ar, dn, rd)) → va_S A s.heap H locs → lv_has ls 2 [(0, .ref o0), (1, .int (nI i))] → W p l e ({ frames := 0, cells := 0, slots := 0, locals := 0 } : Room) s m args below meth c H locs 0 0 Q (F0 m 2 ls []) := by
  obtain ⟨⟨hW1, hW2⟩, ⟨hC1, hC2⟩, ⟨hV1, hV2⟩, ⟨hB1, hB2⟩⟩ := id hg
  intro n
  induction n with
  | zero => intro i H locs ls hfu; exact absurd hfu (by omega)
  | succ n ih =>
    intro i H locs ls hfu hi hP hD hS hl
    have hP : va_P (dC, dI) vwCl [(o0, .inr (2, [.int (nI gW), .int (nI gC), .int (nI gV), .int (nI gB), .ref om, .ref ow, .ref os, .ref og, .int hp, .int am, .int ar, .int dn, .int rd])), (om, .inl (z1, 24, .inl mp)), (ow, .inl (z2, 24, .inl wa)), (os, .inl (z3, 52, .inl sl)), (og, .inl (z4, 4, .inl (fillN sg i 0)))] H := hP
    have hD : va_D A [(o0, .inr (2, [.int (nI gW), .int (nI gC), .int (nI gV), .int (nI gB), .ref om, .ref ow, .ref os, .ref og, .int hp, .int am, .int ar, .int dn, .int rd])), (om, .inl (z1, 24, .inl mp)), (ow, .inl (z2, 24, .inl wa)), (os, .inl (z3, 52, .inl sl)), (og, .inl (z4, 4, .inl (fillN sg i 0)))] := hD
    refine lv_iload_n hx hb dX2_clearStage_2 rfl (lv_at hl 1 rfl) ?_
    refine lv_iconst (v := 4) hx hb dX2_clearStage_3 (by decide) ?_
    refine lv_icmp_ge (tgt := 20) hx hb dX2_clearStage_4 (by decide) (fun c_1 => ?_) (fun c_1 => ?_)
    · have c_1 : 4 ≤ i := (nI_leI (a := 4) (b := i) (by omega) (by omega)).mp c_1
      have hie : i = 4 := by omega
      rw [hie] at hP hD
      exact K  _ _ _  hP hD hS (lv_sub hl [0] rfl)
    · have c_1 : ¬ (4 ≤ i) := fun q9 => c_1 ((nI_leI (a := 4) (b := i) (by omega) (by omega)).mpr q9)
      refine lv_aload_n hx hb dX2_clearStage_7 rfl (lv_at hl 0 rfl) ?_
      refine va_get (D := (dC, dI)) (ci := 2) (v := .ref og) (C := RX2) (T := TX2) (N := 13) hx hb hts inX2 hown hK hP 0 rfl rfl 7 (by decide) (hts _ tb_262) (fun _ h9 => h9) rfl dX2_clearStage_8 ?_
      refine lv_iload_n hx hb dX2_clearStage_11 rfl (lv_at hl 1 rfl) ?_
      refine lv_iconst (v := 0) hx hb dX2_clearStage_12 (by decide) ?_
      refine va_iast hx hb hK hP hD hS 4 3 rfl rfl (vp_in_nI (n := i) (by omega) (by omega)) dX2_clearStage_13 (fun H locs hP hD hS => ?_)
      have hP : va_P (dC, dI) vwCl [(o0, .inr (2, [.int (nI gW), .int (nI gC), .int (nI gV), .int (nI gB), .ref om, .ref ow, .ref os, .ref og, .int hp, .int am, .int ar, .int dn, .int rd])), (om, .inl (z1, 24, .inl mp)), (ow, .inl (z2, 24, .inl wa)), (os, .inl (z3, 52, .inl sl)), (og, .inl (z4, 4, .inl (upd (fillN sg i 0) (nI i).toNatClampNeg 0)))] H := hP
      have hD : va_D A [(o0, .inr (2, [.int (nI gW), .int (nI gC), .int (nI gV), .int (nI gB), .ref om, .ref ow, .ref os, .ref og, .int hp, .int am, .int ar, .int dn, .int rd])), (om, .inl (z1, 24, .inl mp)), (ow, .inl (z2, 24, .inl wa)), (os, .inl (z3, 52, .inl sl)), (og, .inl (z4, 4, .inl (upd (fillN sg i 0) (nI i).toNatClampNeg 0)))] := hD
      rw [nI_clamp (n := i) (by omega)] at hP hD
      refine lv_iinc (v := nI (i + 1)) (lv' := [(1, .int (nI (i + 1))), (0, .ref o0)]) hx hb dX2_clearStage_14 hl (k := 1) rfl (nI_1 i) (by decide) rfl (fun ls hl => ?_)
      rw [fillN_s] at hP hD
      refine lv_goto (tgt := 2) hx hb dX2_clearStage_17 (by decide) ?_
      exact ih (i + 1) _ _ _ (by omega) (by omega) hP hD hS (lv_sub hl [1, 0] rfl)
set_option maxHeartbeats 4000000 in
set_option maxRecDepth 100000 in
theorem k_X2_clearStage (l : Launch) (dC : Nat → ClassId) (dI : Nat → Nat → Nat) (o0 om ow os og : Nat) (z1 z2 z3 z4 : ClassId) (gW gC gV gB : Nat) (hg : mge gW gC gV gB) (sz : Nat) (mp wa sl sg : Nat → Int32) (hp am ar dn rd : Int32)  : ctV nwL l yX2_clearStage wsX2_clearStage ({ frames := 0, cells := 0, slots := 0, locals := 0 } : Room) (dC, dI) [(z1, .int), (z2, .int), (z3, .int), (z4, .int)] (mo_w o0 om ow os og z1 z2 z3 z4 gW gC gV gB) (mp, wa, sl, sg, hp, am, ar, dn, rd) sz [.ref o0] (fun (u : MS) => u = (mp, wa, sl, fillN sg 4 0, hp, am, ar, dn, rd)) := by
  refine Met.ofW (cc := cX2_clearStage) (maxL := 2) (ret := none) (by decide) rfl ?_
  intro p e s m args below meth c s₁ B hml hv
  obtain ⟨rfl, hsz, hP, hK, hD0, hN⟩ := hv
  have hx := B.exec
  have hb := B.bytes
  have hr := B.returns
  have hts := fun w h => atoms_spec (ws := wsX2_clearStage) B.pre w (List.mem_cons_of_mem _ h)
  have hown : s.vm.findClass RX2 = some m.cls := findClass_of_methodNamed B.named
  have hlocks := B.notSynchronized
  subst hsz
  have hD := hD0.self (sz := s.heap.size)
  generalize hAe : va_A ((mo_w o0 om ow os og z1 z2 z3 z4 gW gC gV gB) (mp, wa, sl, sg, hp, am, ar, dn, rd)) s.heap.size = A at hD ⊢
  have hA : ∀ q : Nat, s.heap.size ≤ q → A q := fun q h => by rw [← hAe]; exact Or.inr h
  have hS : va_S A s.heap s.heap [] := va_S.rf
  have hl := lv_entry ([.ref o0]) (n := 2) (Nat.le_of_ble_eq_true rfl)
  rw [lg_entry_eq]
  generalize (lg_sl ([.ref o0]) ++ List.replicate (2 - (lg_sl ([.ref o0])).length) Slot.unset).toArray = ls at hl ⊢
  have hP : va_P (dC, dI) vwCl [(o0, .inr (2, [.int (nI gW), .int (nI gC), .int (nI gV), .int (nI gB), .ref om, .ref ow, .ref os, .ref og, .int hp, .int am, .int ar, .int dn, .int rd])), (om, .inl (z1, 24, .inl mp)), (ow, .inl (z2, 24, .inl wa)), (os, .inl (z3, 52, .inl sl)), (og, .inl (z4, 4, .inl sg))] s.heap := hP
  have hD : va_D A [(o0, .inr (2, [.int (nI gW), .int (nI gC), .int (nI gV), .int (nI gB), .ref om, .ref ow, .ref os, .ref og, .int hp, .int am, .int ar, .int dn, .int rd])), (om, .inl (z1, 24, .inl mp)), (ow, .inl (z2, 24, .inl wa)), (os, .inl (z3, 52, .inl sl)), (og, .inl (z4, 4, .inl sg))] := hD
  have hl : lv_has ls 2 [(0, .ref o0)] := hl
  obtain ⟨⟨hW1, hW2⟩, ⟨hC1, hC2⟩, ⟨hV1, hV2⟩, ⟨hB1, hB2⟩⟩ := id hg
  refine lv_iconst (v := 0) hx hb dX2_clearStage_0 (by decide) ?_
  refine lv_istore_n (lv' := [(1, .int 0), (0, .ref o0)]) hx hb dX2_clearStage_1 rfl hl (by decide) rfl (fun ls hl => ?_)
  have hl : lv_has ls 2 [(1, .int (nI 0)), (0, .ref o0)] := hl
  have e0 : sg = fillN sg 0 0 := fillN_0
  refine lp_X2_clearStage_2 o0 om ow os og z1 z2 z3 z4 gW gC gV gB hg mp wa sl sg hp am ar dn rd hx hb hml hown hts hK hN hA (fun H locs ls hP hD hS hl => ?_) 5 0 _ _ _ (by omega) (by omega) (by rw [← e0]; exact hP) (by rw [← e0]; exact hD) hS (lv_sub hl [1, 0] rfl)
  have hP : va_P (dC, dI) vwCl [(o0, .inr (2, [.int (nI gW), .int (nI gC), .int (nI gV), .int (nI gB), .ref om, .ref ow, .ref os, .ref og, .int hp, .int am, .int ar, .int dn, .int rd])), (om, .inl (z1, 24, .inl mp)), (ow, .inl (z2, 24, .inl wa)), (os, .inl (z3, 52, .inl sl)), (og, .inl (z4, 4, .inl (fillN sg 4 0)))] H := hP
  have hD : va_D A [(o0, .inr (2, [.int (nI gW), .int (nI gC), .int (nI gV), .int (nI gB), .ref om, .ref ow, .ref os, .ref og, .int hp, .int am, .int ar, .int dn, .int rd])), (om, .inl (z1, 24, .inl mp)), (ow, .inl (z2, 24, .inl wa)), (os, .inl (z3, 52, .inl sl)), (og, .inl (z4, 4, .inl (fillN sg 4 0)))] := hD
  exact W.vret hx hb hr (fun t ht hW => ⟨⟨(mp, wa, sl, fillN sg 4 0, hp, am, ar, dn, rd), rfl, rfl, by rw [ht]; exact hP, hD⟩, hS.F ht⟩) hS.2.2 dX2_clearStage_20
set_option maxHeartbeats 4000000 in
set_option maxRecDepth 100000 in
theorem lp_X2_format_2 {p : Program} {l : Launch} {e : Env} {s : State} {m : MethodId} {args : Array Value} {below : List Frame} {meth : Method} {c : Code} {Q : State → Prop} {A : Nat → Prop} {dC : Nat → ClassId} {dI : Nat → Nat → Nat} (o0 om ow os og : Nat) (z1 z2 z3 z4 : ClassId) (gW gC gV gB : Nat) (hg : mge gW gC gV gB) (mp wa sl sg : Nat → Int32) (hp am ar dn rd : Int32) (hx : p.tables.exec = Jvm.exec) (hb : c.code = cX2_format) (hml : c.maxLocals = 2) (hown : s.vm.findClass RX2 = some m.cls) (hts : ∀ w ∈ TBG, w.before args s = true) (hK : va_K (dC, dI) vwCl [(z1, .int), (z2, .int), (z3, .int), (z4, .int)] s) (hN : nwOk nwL s) (hA : ∀ q : Nat, s.heap.size ≤ q → A q)  (K : ∀  (H : Heap) (locs : List Loc) (ls : Array Slot), va_P (dC, dI) vwCl (mo_w o0 om ow os og z1 z2 z3 z4 gW gC gV gB (fillN mp 24 0, wa, sl, sg, hp, am, ar, dn, rd)) H → va_D A (mo_w o0 om ow os og z1 z2 z3 z4 gW gC gV gB (fillN mp 24 0, wa, sl, sg, hp, am, ar, dn, rd)) → va_S A s.heap H locs → lv_has ls 2 [(0, .ref o0)] → W p l e ({ frames := 1, cells := 0, slots := 0, locals := 21 } : Room) s m args below meth c H locs 0 0 Q (F0 m 21 ls [])) : ∀ (n : Nat) (i : Nat) (H : Heap) (locs : List Loc) (ls : Array Slot), 24 - i < n → (i ≤ 24) → va_P (dC, dI) vwCl (mo_w o0 om ow os og z1 z2 z3 z4 gW gC gV gB (fillN mp i 0, wa, sl, sg, hp, am, ar, dn, rd)) H → va_D A (mo_w o0 om ow os og z1 z2 z3 z4 gW gC gV gB (fillN mp i 0, wa, sl, sg, hp, am, ar, dn, rd)) → va_S A s.heap H locs → lv_has ls 2 [(0, .ref o0), (1, .int (nI i))] → W p l e ({ frames := 1, cells := 0, slots := 0, locals := 21 } : Room) s m args below meth c H locs 0 0 Q (F0 m 2 ls []) := by
  obtain ⟨⟨hW1, hW2⟩, ⟨hC1, hC2⟩, ⟨hV1, hV2⟩, ⟨hB1, hB2⟩⟩ := id hg
  intro n
  induction n with
  | zero => intro i H locs ls hfu; exact absurd hfu (by omega)
  | succ n ih =>
    intro i H locs ls hfu hi hP hD hS hl
    have hP : va_P (dC, dI) vwCl [(o0, .inr (2, [.int (nI gW), .int (nI gC), .int (nI gV), .int (nI gB), .ref om, .ref ow, .ref os, .ref og, .int hp, .int am, .int ar, .int dn, .int rd])), (om, .inl (z1, 24, .inl (fillN mp i 0))), (ow, .inl (z2, 24, .inl wa)), (os, .inl (z3, 52, .inl sl)), (og, .inl (z4, 4, .inl sg))] H := hP
    have hD : va_D A [(o0, .inr (2, [.int (nI gW), .int (nI gC), .int (nI gV), .int (nI gB), .ref om, .ref ow, .ref os, .ref og, .int hp, .int am, .int ar, .int dn, .int rd])), (om, .inl (z1, 24, .inl (fillN mp i 0))), (ow, .inl (z2, 24, .inl wa)), (os, .inl (z3, 52, .inl sl)), (og, .inl (z4, 4, .inl sg))] := hD
    refine lv_iload_n hx hb dX2_format_2 rfl (lv_at hl 1 rfl) ?_
    refine lv_bipush (v := 24) hx hb dX2_format_3 (by decide) ?_
    refine lv_icmp_ge (tgt := 21) hx hb dX2_format_5 (by decide) (fun c_1 => ?_) (fun c_1 => ?_)
    · have c_1 : 24 ≤ i := (nI_leI (a := 24) (b := i) (by omega) (by omega)).mp c_1
      have hie : i = 24 := by omega
      rw [hie] at hP hD
      exact K  _ _ _  hP hD hS (lv_sub hl [0] rfl)
    · have c_1 : ¬ (24 ≤ i) := fun q9 => c_1 ((nI_leI (a := 24) (b := i) (by omega) (by omega)).mpr q9)
      refine lv_aload_n hx hb dX2_format_8 rfl (lv_at hl 0 rfl) ?_
      refine va_get (D := (dC, dI)) (ci := 2) (v := .ref om) (C := RX2) (T := TX2) (N := 13) hx hb hts inX2 hown hK hP 0 rfl rfl 4 (by decide) (hts _ tb_259) (fun _ h9 => h9) rfl dX2_format_9 ?_
      refine lv_iload_n hx hb dX2_format_12 rfl (lv_at hl 1 rfl) ?_
      refine lv_iconst (v := 0) hx hb dX2_format_13 (by decide) ?_
      refine va_iast hx hb hK hP hD hS 1 0 rfl rfl (vp_in_nI (n := i) (by omega) (by omega)) dX2_format_14 (fun H locs hP hD hS => ?_)
      have hP : va_P (dC, dI) vwCl [(o0, .inr (2, [.int (nI gW), .int (nI gC), .int (nI gV), .int (nI gB), .ref om, .ref ow, .ref os, .ref og, .int hp, .int am, .int ar, .int dn, .int rd])), (om, .inl (z1, 24, .inl (upd (fillN mp i 0) (nI i).toNatClampNeg 0))), (ow, .inl (z2, 24, .inl wa)), (os, .inl (z3, 52, .inl sl)), (og, .inl (z4, 4, .inl sg))] H := hP
      have hD : va_D A [(o0, .inr (2, [.int (nI gW), .int (nI gC), .int (nI gV), .int (nI gB), .ref om, .ref ow, .ref os, .ref og, .int hp, .int am, .int ar, .int dn, .int rd])), (om, .inl (z1, 24, .inl (upd (fillN mp i 0) (nI i).toNatClampNeg 0))), (ow, .inl (z2, 24, .inl wa)), (os, .inl (z3, 52, .inl sl)), (og, .inl (z4, 4, .inl sg))] := hD
      rw [nI_clamp (n := i) (by omega)] at hP hD
      refine lv_iinc (v := nI (i + 1)) (lv' := [(1, .int (nI (i + 1))), (0, .ref o0)]) hx hb dX2_format_15 hl (k := 1) rfl (nI_1 i) (by decide) rfl (fun ls hl => ?_)
      rw [fillN_s] at hP hD
      refine lv_goto (tgt := 2) hx hb dX2_format_18 (by decide) ?_
      exact ih (i + 1) _ _ _ (by omega) (by omega) hP hD hS (lv_sub hl [1, 0] rfl)
set_option maxHeartbeats 4000000 in
set_option maxRecDepth 100000 in
theorem lp_X2_format_23 {p : Program} {l : Launch} {e : Env} {s : State} {m : MethodId} {args : Array Value} {below : List Frame} {meth : Method} {c : Code} {Q : State → Prop} {A : Nat → Prop} {dC : Nat → ClassId} {dI : Nat → Nat → Nat} (o0 om ow os og : Nat) (z1 z2 z3 z4 : ClassId) (gW gC gV gB : Nat) (hg : mge gW gC gV gB) (mp wa sl sg : Nat → Int32) (hp am ar dn rd : Int32) (hx : p.tables.exec = Jvm.exec) (hb : c.code = cX2_format) (hml : c.maxLocals = 2) (hown : s.vm.findClass RX2 = some m.cls) (hts : ∀ w ∈ TBG, w.before args s = true) (hK : va_K (dC, dI) vwCl [(z1, .int), (z2, .int), (z3, .int), (z4, .int)] s) (hN : nwOk nwL s) (hA : ∀ q : Nat, s.heap.size ≤ q → A q)  (K : ∀  (H : Heap) (locs : List Loc) (ls : Array Slot), va_P (dC, dI) vwCl (mo_w o0 om ow os og z1 z2 z3 z4 gW gC gV gB (mp, wa, fillN sl 52 0, sg, hp, am, ar, dn, rd)) H → va_D A (mo_w o0 om ow os og z1 z2 z3 z4 gW gC gV gB (mp, wa, fillN sl 52 0, sg, hp, am, ar, dn, rd)) → va_S A s.heap H locs → lv_has ls 2 [(0, .ref o0)] → W p l e ({ frames := 1, cells := 0, slots := 0, locals := 21 } : Room) s m args below meth c H locs 0 0 Q (F0 m 42 ls [])) : ∀ (n : Nat) (i : Nat) (H : Heap) (locs : List Loc) (ls : Array Slot), 52 - i < n → (i ≤ 52) → va_P (dC, dI) vwCl (mo_w o0 om ow os og z1 z2 z3 z4 gW gC gV gB (mp, wa, fillN sl i 0, sg, hp, am, ar, dn, rd)) H → va_D A (mo_w o0 om ow os og z1 z2 z3 z4 gW gC gV gB (mp, wa, fillN sl i 0, sg, hp, am, ar, dn, rd)) → va_S A s.heap H locs → lv_has ls 2 [(0, .ref o0), (1, .int (nI i))] → W p l e ({ frames := 1, cells := 0, slots := 0, locals := 21 } : Room) s m args below meth c H locs 0 0 Q (F0 m 23 ls []) := by
  obtain ⟨⟨hW1, hW2⟩, ⟨hC1, hC2⟩, ⟨hV1, hV2⟩, ⟨hB1, hB2⟩⟩ := id hg
  intro n
  induction n with
  | zero => intro i H locs ls hfu; exact absurd hfu (by omega)
  | succ n ih =>
    intro i H locs ls hfu hi hP hD hS hl
    have hP : va_P (dC, dI) vwCl [(o0, .inr (2, [.int (nI gW), .int (nI gC), .int (nI gV), .int (nI gB), .ref om, .ref ow, .ref os, .ref og, .int hp, .int am, .int ar, .int dn, .int rd])), (om, .inl (z1, 24, .inl mp)), (ow, .inl (z2, 24, .inl wa)), (os, .inl (z3, 52, .inl (fillN sl i 0))), (og, .inl (z4, 4, .inl sg))] H := hP
    have hD : va_D A [(o0, .inr (2, [.int (nI gW), .int (nI gC), .int (nI gV), .int (nI gB), .ref om, .ref ow, .ref os, .ref og, .int hp, .int am, .int ar, .int dn, .int rd])), (om, .inl (z1, 24, .inl mp)), (ow, .inl (z2, 24, .inl wa)), (os, .inl (z3, 52, .inl (fillN sl i 0))), (og, .inl (z4, 4, .inl sg))] := hD
    refine lv_iload_n hx hb dX2_format_23 rfl (lv_at hl 1 rfl) ?_
    refine lv_bipush (v := 52) hx hb dX2_format_24 (by decide) ?_
    refine lv_icmp_ge (tgt := 42) hx hb dX2_format_26 (by decide) (fun c_1 => ?_) (fun c_1 => ?_)
    · have c_1 : 52 ≤ i := (nI_leI (a := 52) (b := i) (by omega) (by omega)).mp c_1
      have hie : i = 52 := by omega
      rw [hie] at hP hD
      exact K  _ _ _  hP hD hS (lv_sub hl [0] rfl)
    · have c_1 : ¬ (52 ≤ i) := fun q9 => c_1 ((nI_leI (a := 52) (b := i) (by omega) (by omega)).mpr q9)
      refine lv_aload_n hx hb dX2_format_29 rfl (lv_at hl 0 rfl) ?_
      refine va_get (D := (dC, dI)) (ci := 2) (v := .ref os) (C := RX2) (T := TX2) (N := 13) hx hb hts inX2 hown hK hP 0 rfl rfl 6 (by decide) (hts _ tb_261) (fun _ h9 => h9) rfl dX2_format_30 ?_
      refine lv_iload_n hx hb dX2_format_33 rfl (lv_at hl 1 rfl) ?_
      refine lv_iconst (v := 0) hx hb dX2_format_34 (by decide) ?_
      refine va_iast hx hb hK hP hD hS 3 2 rfl rfl (vp_in_nI (n := i) (by omega) (by omega)) dX2_format_35 (fun H locs hP hD hS => ?_)
      have hP : va_P (dC, dI) vwCl [(o0, .inr (2, [.int (nI gW), .int (nI gC), .int (nI gV), .int (nI gB), .ref om, .ref ow, .ref os, .ref og, .int hp, .int am, .int ar, .int dn, .int rd])), (om, .inl (z1, 24, .inl mp)), (ow, .inl (z2, 24, .inl wa)), (os, .inl (z3, 52, .inl (upd (fillN sl i 0) (nI i).toNatClampNeg 0))), (og, .inl (z4, 4, .inl sg))] H := hP
      have hD : va_D A [(o0, .inr (2, [.int (nI gW), .int (nI gC), .int (nI gV), .int (nI gB), .ref om, .ref ow, .ref os, .ref og, .int hp, .int am, .int ar, .int dn, .int rd])), (om, .inl (z1, 24, .inl mp)), (ow, .inl (z2, 24, .inl wa)), (os, .inl (z3, 52, .inl (upd (fillN sl i 0) (nI i).toNatClampNeg 0))), (og, .inl (z4, 4, .inl sg))] := hD
      rw [nI_clamp (n := i) (by omega)] at hP hD
      refine lv_iinc (v := nI (i + 1)) (lv' := [(1, .int (nI (i + 1))), (0, .ref o0)]) hx hb dX2_format_36 hl (k := 1) rfl (nI_1 i) (by decide) rfl (fun ls hl => ?_)
      rw [fillN_s] at hP hD
      refine lv_goto (tgt := 23) hx hb dX2_format_39 (by decide) ?_
      exact ih (i + 1) _ _ _ (by omega) (by omega) hP hD hS (lv_sub hl [1, 0] rfl)
set_option maxHeartbeats 4000000 in
set_option maxRecDepth 100000 in
theorem k_X2_format (l : Launch) (dC : Nat → ClassId) (dI : Nat → Nat → Nat) (o0 om ow os og : Nat) (z1 z2 z3 z4 : ClassId) (gW gC gV gB : Nat) (hg : mge gW gC gV gB) (sz : Nat) (mp wa sl sg : Nat → Int32) (hp am ar dn rd : Int32)  : ctI nwL l yX2_format wsX2_format ({ frames := 1, cells := 0, slots := 0, locals := 21 } : Room) (dC, dI) [(z1, .int), (z2, .int), (z3, .int), (z4, .int)] (mo_w o0 om ow os og z1 z2 z3 z4 gW gC gV gB) (mp, wa, sl, sg, hp, am, ar, dn, rd) sz [.ref o0] (fun (r : Int32) (u : MS) => r = (m_format mp wa sl sg hp am ar dn rd gW gC gV gB ).1 ∧ u = (m_format mp wa sl sg hp am ar dn rd gW gC gV gB ).2) := by
  refine Met.ofW (cc := cX2_format) (maxL := 2) (ret := (some .int)) (by decide) rfl ?_
  intro p e s m args below meth c s₁ B hml hv
  obtain ⟨rfl, hsz, hP, hK, hD0, hN⟩ := hv
  have hx := B.exec
  have hb := B.bytes
  have hr := B.returns
  have hts := fun w h => atoms_spec (ws := wsX2_format) B.pre w (List.mem_cons_of_mem _ h)
  have hown : s.vm.findClass RX2 = some m.cls := findClass_of_methodNamed B.named
  have hlocks := B.notSynchronized
  subst hsz
  have hD := hD0.self (sz := s.heap.size)
  generalize hAe : va_A ((mo_w o0 om ow os og z1 z2 z3 z4 gW gC gV gB) (mp, wa, sl, sg, hp, am, ar, dn, rd)) s.heap.size = A at hD ⊢
  have hA : ∀ q : Nat, s.heap.size ≤ q → A q := fun q h => by rw [← hAe]; exact Or.inr h
  have hS : va_S A s.heap s.heap [] := va_S.rf
  have hl := lv_entry ([.ref o0]) (n := 2) (Nat.le_of_ble_eq_true rfl)
  rw [lg_entry_eq]
  generalize (lg_sl ([.ref o0]) ++ List.replicate (2 - (lg_sl ([.ref o0])).length) Slot.unset).toArray = ls at hl ⊢
  have hP : va_P (dC, dI) vwCl [(o0, .inr (2, [.int (nI gW), .int (nI gC), .int (nI gV), .int (nI gB), .ref om, .ref ow, .ref os, .ref og, .int hp, .int am, .int ar, .int dn, .int rd])), (om, .inl (z1, 24, .inl mp)), (ow, .inl (z2, 24, .inl wa)), (os, .inl (z3, 52, .inl sl)), (og, .inl (z4, 4, .inl sg))] s.heap := hP
  have hD : va_D A [(o0, .inr (2, [.int (nI gW), .int (nI gC), .int (nI gV), .int (nI gB), .ref om, .ref ow, .ref os, .ref og, .int hp, .int am, .int ar, .int dn, .int rd])), (om, .inl (z1, 24, .inl mp)), (ow, .inl (z2, 24, .inl wa)), (os, .inl (z3, 52, .inl sl)), (og, .inl (z4, 4, .inl sg))] := hD
  have hl : lv_has ls 2 [(0, .ref o0)] := hl
  obtain ⟨⟨hW1, hW2⟩, ⟨hC1, hC2⟩, ⟨hV1, hV2⟩, ⟨hB1, hB2⟩⟩ := id hg
  refine lv_iconst (v := 0) hx hb dX2_format_0 (by decide) ?_
  refine lv_istore_n (lv' := [(1, .int 0), (0, .ref o0)]) hx hb dX2_format_1 rfl hl (by decide) rfl (fun ls hl => ?_)
  have hl : lv_has ls 2 [(1, .int (nI 0)), (0, .ref o0)] := hl
  have e0 : mp = fillN mp 0 0 := fillN_0
  refine lp_X2_format_2 o0 om ow os og z1 z2 z3 z4 gW gC gV gB hg mp wa sl sg hp am ar dn rd hx hb hml hown hts hK hN hA (fun H locs ls hP hD hS hl => ?_) 25 0 _ _ _ (by omega) (by omega) (by rw [← e0]; exact hP) (by rw [← e0]; exact hD) hS (lv_sub hl [1, 0] rfl)
  have hP : va_P (dC, dI) vwCl [(o0, .inr (2, [.int (nI gW), .int (nI gC), .int (nI gV), .int (nI gB), .ref om, .ref ow, .ref os, .ref og, .int hp, .int am, .int ar, .int dn, .int rd])), (om, .inl (z1, 24, .inl (fillN mp 24 0))), (ow, .inl (z2, 24, .inl wa)), (os, .inl (z3, 52, .inl sl)), (og, .inl (z4, 4, .inl sg))] H := hP
  have hD : va_D A [(o0, .inr (2, [.int (nI gW), .int (nI gC), .int (nI gV), .int (nI gB), .ref om, .ref ow, .ref os, .ref og, .int hp, .int am, .int ar, .int dn, .int rd])), (om, .inl (z1, 24, .inl (fillN mp 24 0))), (ow, .inl (z2, 24, .inl wa)), (os, .inl (z3, 52, .inl sl)), (og, .inl (z4, 4, .inl sg))] := hD
  refine lv_iconst (v := 0) hx hb dX2_format_21 (by decide) ?_
  refine lv_istore_n (lv' := [(1, .int 0), (0, .ref o0)]) hx hb dX2_format_22 rfl hl (by decide) rfl (fun ls hl => ?_)
  have hl : lv_has ls 2 [(1, .int (nI 0)), (0, .ref o0)] := hl
  have e0 : sl = fillN sl 0 0 := fillN_0
  refine lp_X2_format_23 o0 om ow os og z1 z2 z3 z4 gW gC gV gB hg (fillN mp 24 0) wa sl sg hp am ar dn rd hx hb hml hown hts hK hN hA (fun H locs ls hP hD hS hl => ?_) 53 0 _ _ _ (by omega) (by omega) (by rw [← e0]; exact hP) (by rw [← e0]; exact hD) hS (lv_sub hl [1, 0] rfl)
  have hP : va_P (dC, dI) vwCl [(o0, .inr (2, [.int (nI gW), .int (nI gC), .int (nI gV), .int (nI gB), .ref om, .ref ow, .ref os, .ref og, .int hp, .int am, .int ar, .int dn, .int rd])), (om, .inl (z1, 24, .inl (fillN mp 24 0))), (ow, .inl (z2, 24, .inl wa)), (os, .inl (z3, 52, .inl (fillN sl 52 0))), (og, .inl (z4, 4, .inl sg))] H := hP
  have hD : va_D A [(o0, .inr (2, [.int (nI gW), .int (nI gC), .int (nI gV), .int (nI gB), .ref om, .ref ow, .ref os, .ref og, .int hp, .int am, .int ar, .int dn, .int rd])), (om, .inl (z1, 24, .inl (fillN mp 24 0))), (ow, .inl (z2, 24, .inl wa)), (os, .inl (z3, 52, .inl (fillN sl 52 0))), (og, .inl (z4, 4, .inl sg))] := hD
  refine lv_aload_n hx hb dX2_format_42 rfl (lv_at hl 0 rfl) ?_
  refine xr_v (D := (dC, dI)) (wf := (mo_w o0 om ow os og z1 z2 z3 z4 gW gC gV gB)) (u0 := (fillN mp 24 0, wa, fillN sl 52 0, sg, hp, am, ar, dn, rd)) (wr := []) (va_runV (As := []) (rest := []) ⟨hx, hb, hml, hown, hts⟩ (k_X2_clearStage l dC dI o0 om ow os og z1 z2 z3 z4 gW gC gV gB hg H.size (fillN mp 24 0) wa (fillN sl 52 0) sg hp am ar dn rd ) (cwV 0 hts gX2_39 rfl rfl rfl (by decide +kernel) ⟨Nat.le_of_ble_eq_true rfl, Nat.le_of_ble_eq_true rfl⟩) (xp_v nwL_ok hK hN hP hD [0, 1, 2, 3, 4] rfl rfl (va_recv hK hP (ci := 2) (q0 := 0) rfl rfl)) rfl rfl hl.1 rfl (lv_room (Nat.le_of_ble_eq_true rfl)) dX2_format_43 ⟨Nat.zero_le _, Nat.zero_le _⟩) hP hD hS hA [0, 1, 2, 3, 4] [] rfl rfl (by decide) (by decide) (fun u_2 H locs hw hP hD hS => ?_)
  rw [hw] at hP hD
  have hP : va_P (dC, dI) vwCl [(o0, .inr (2, [.int (nI gW), .int (nI gC), .int (nI gV), .int (nI gB), .ref om, .ref ow, .ref os, .ref og, .int hp, .int am, .int ar, .int dn, .int rd])), (om, .inl (z1, 24, .inl (fillN mp 24 0))), (ow, .inl (z2, 24, .inl wa)), (os, .inl (z3, 52, .inl (fillN sl 52 0))), (og, .inl (z4, 4, .inl (fillN sg 4 0)))] H := hP
  have hD : va_D A [(o0, .inr (2, [.int (nI gW), .int (nI gC), .int (nI gV), .int (nI gB), .ref om, .ref ow, .ref os, .ref og, .int hp, .int am, .int ar, .int dn, .int rd])), (om, .inl (z1, 24, .inl (fillN mp 24 0))), (ow, .inl (z2, 24, .inl wa)), (os, .inl (z3, 52, .inl (fillN sl 52 0))), (og, .inl (z4, 4, .inl (fillN sg 4 0)))] := hD
  refine lv_aload_n hx hb dX2_format_46 rfl (lv_at hl 0 rfl) ?_
  refine lv_iconst (v := 0) hx hb dX2_format_47 (by decide) ?_
  refine va_put (D := (dC, dI)) (ci := 2) (v := .int 0) (ty := .boolean) (C := RX2) (T := TX2) (N := 13) hx hb hts inX2 tyX2 okX2 nmX2 hown hK hP hD hS 0 rfl rfl 11 (by decide) (hts _ tb_266) (fun _ h9 => h9) rfl (by decide +kernel) rfl rfl (Nat.le_of_ble_eq_true rfl) dX2_format_48 (fun H locs hP hD hS => ?_)
  have hP : va_P (dC, dI) vwCl [(o0, .inr (2, [.int (nI gW), .int (nI gC), .int (nI gV), .int (nI gB), .ref om, .ref ow, .ref os, .ref og, .int hp, .int am, .int ar, .int 0, .int rd])), (om, .inl (z1, 24, .inl (fillN mp 24 0))), (ow, .inl (z2, 24, .inl wa)), (os, .inl (z3, 52, .inl (fillN sl 52 0))), (og, .inl (z4, 4, .inl (fillN sg 4 0)))] H := hP
  have hD : va_D A [(o0, .inr (2, [.int (nI gW), .int (nI gC), .int (nI gV), .int (nI gB), .ref om, .ref ow, .ref os, .ref og, .int hp, .int am, .int ar, .int 0, .int rd])), (om, .inl (z1, 24, .inl (fillN mp 24 0))), (ow, .inl (z2, 24, .inl wa)), (os, .inl (z3, 52, .inl (fillN sl 52 0))), (og, .inl (z4, 4, .inl (fillN sg 4 0)))] := hD
  refine lv_aload_n hx hb dX2_format_51 rfl (lv_at hl 0 rfl) ?_
  refine lv_iconst (v := 0) hx hb dX2_format_52 (by decide) ?_
  refine va_put (D := (dC, dI)) (ci := 2) (v := .int 0) (ty := .int) (C := RX2) (T := TX2) (N := 13) hx hb hts inX2 tyX2 okX2 nmX2 hown hK hP hD hS 0 rfl rfl 9 (by decide) (hts _ tb_264) (fun _ h9 => h9) rfl (by decide +kernel) rfl rfl (Nat.le_of_ble_eq_true rfl) dX2_format_53 (fun H locs hP hD hS => ?_)
  have hP : va_P (dC, dI) vwCl [(o0, .inr (2, [.int (nI gW), .int (nI gC), .int (nI gV), .int (nI gB), .ref om, .ref ow, .ref os, .ref og, .int hp, .int 0, .int ar, .int 0, .int rd])), (om, .inl (z1, 24, .inl (fillN mp 24 0))), (ow, .inl (z2, 24, .inl wa)), (os, .inl (z3, 52, .inl (fillN sl 52 0))), (og, .inl (z4, 4, .inl (fillN sg 4 0)))] H := hP
  have hD : va_D A [(o0, .inr (2, [.int (nI gW), .int (nI gC), .int (nI gV), .int (nI gB), .ref om, .ref ow, .ref os, .ref og, .int hp, .int 0, .int ar, .int 0, .int rd])), (om, .inl (z1, 24, .inl (fillN mp 24 0))), (ow, .inl (z2, 24, .inl wa)), (os, .inl (z3, 52, .inl (fillN sl 52 0))), (og, .inl (z4, 4, .inl (fillN sg 4 0)))] := hD
  refine lv_aload_n hx hb dX2_format_56 rfl (lv_at hl 0 rfl) ?_
  refine lv_iconst (v := 0) hx hb dX2_format_57 (by decide) ?_
  refine va_put (D := (dC, dI)) (ci := 2) (v := .int 0) (ty := .int) (C := RX2) (T := TX2) (N := 13) hx hb hts inX2 tyX2 okX2 nmX2 hown hK hP hD hS 0 rfl rfl 12 (by decide) (hts _ tb_267) (fun _ h9 => h9) rfl (by decide +kernel) rfl rfl (Nat.le_of_ble_eq_true rfl) dX2_format_58 (fun H locs hP hD hS => ?_)
  have hP : va_P (dC, dI) vwCl [(o0, .inr (2, [.int (nI gW), .int (nI gC), .int (nI gV), .int (nI gB), .ref om, .ref ow, .ref os, .ref og, .int hp, .int 0, .int ar, .int 0, .int 0])), (om, .inl (z1, 24, .inl (fillN mp 24 0))), (ow, .inl (z2, 24, .inl wa)), (os, .inl (z3, 52, .inl (fillN sl 52 0))), (og, .inl (z4, 4, .inl (fillN sg 4 0)))] H := hP
  have hD : va_D A [(o0, .inr (2, [.int (nI gW), .int (nI gC), .int (nI gV), .int (nI gB), .ref om, .ref ow, .ref os, .ref og, .int hp, .int 0, .int ar, .int 0, .int 0])), (om, .inl (z1, 24, .inl (fillN mp 24 0))), (ow, .inl (z2, 24, .inl wa)), (os, .inl (z3, 52, .inl (fillN sl 52 0))), (og, .inl (z4, 4, .inl (fillN sg 4 0)))] := hD
  refine lv_iconst (v := 0) hx hb dX2_format_61 (by decide) ?_
  exact W.iret (v := 0) hx hb hr (fun t ht hW => ⟨⟨0, (fillN mp 24 0, wa, fillN sl 52 0, fillN sg 4 0, hp, 0, ar, 0, 0), rfl, ⟨rfl, rfl⟩, by rw [ht]; exact hP, hD⟩, hS.F ht⟩) hS.2.2 dX2_format_62
set_option maxHeartbeats 4000000 in
set_option maxRecDepth 100000 in
theorem lp_X2_wantAsIs_2 {p : Program} {l : Launch} {e : Env} {s : State} {m : MethodId} {args : Array Value} {below : List Frame} {meth : Method} {c : Code} {Q : State → Prop} {A : Nat → Prop} {dC : Nat → ClassId} {dI : Nat → Nat → Nat} (o0 om ow os og : Nat) (z1 z2 z3 z4 : ClassId) (gW gC gV gB : Nat) (hg : mge gW gC gV gB) (mp wa sl sg : Nat → Int32) (hp am ar dn rd : Int32) (hx : p.tables.exec = Jvm.exec) (hb : c.code = cX2_wantAsIs) (hml : c.maxLocals = 2) (hown : s.vm.findClass RX2 = some m.cls) (hts : ∀ w ∈ TBG, w.before args s = true) (hK : va_K (dC, dI) vwCl [(z1, .int), (z2, .int), (z3, .int), (z4, .int)] s) (hN : nwOk nwL s) (hA : ∀ q : Nat, s.heap.size ≤ q → A q)  (K : ∀  (H : Heap) (locs : List Loc) (ls : Array Slot), va_P (dC, dI) vwCl (mo_w o0 om ow os og z1 z2 z3 z4 gW gC gV gB (mp, cpyN wa mp 24, sl, sg, hp, am, ar, dn, rd)) H → va_D A (mo_w o0 om ow os og z1 z2 z3 z4 gW gC gV gB (mp, cpyN wa mp 24, sl, sg, hp, am, ar, dn, rd)) → va_S A s.heap H locs → lv_has ls 2 [(0, .ref o0)] → W p l e ({ frames := 0, cells := 0, slots := 0, locals := 0 } : Room) s m args below meth c H locs 0 0 Q (F0 m 26 ls [])) : ∀ (n : Nat) (i : Nat) (H : Heap) (locs : List Loc) (ls : Array Slot), 24 - i < n → (i ≤ 24) → va_P (dC, dI) vwCl (mo_w o0 om ow os og z1 z2 z3 z4 gW gC gV gB (mp, cpyN wa mp i, sl, sg, hp, am, ar, dn, rd)) H → va_D A (mo_w o0 om ow os og z1 z2 z3 z4 gW gC gV gB (mp, cpyN wa mp i, sl, sg, hp, am, ar, dn, rd)) → va_S A s.heap H locs → lv_has ls 2 [(0, .ref o0), (1, .int (nI i))] → W p l e ({ frames := 0, cells := 0, slots := 0, locals := 0 } : Room) s m args below meth c H locs 0 0 Q (F0 m 2 ls []) := by
  obtain ⟨⟨hW1, hW2⟩, ⟨hC1, hC2⟩, ⟨hV1, hV2⟩, ⟨hB1, hB2⟩⟩ := id hg
  intro n
  induction n with
  | zero => intro i H locs ls hfu; exact absurd hfu (by omega)
  | succ n ih =>
    intro i H locs ls hfu hi hP hD hS hl
    have hP : va_P (dC, dI) vwCl [(o0, .inr (2, [.int (nI gW), .int (nI gC), .int (nI gV), .int (nI gB), .ref om, .ref ow, .ref os, .ref og, .int hp, .int am, .int ar, .int dn, .int rd])), (om, .inl (z1, 24, .inl mp)), (ow, .inl (z2, 24, .inl (cpyN wa mp i))), (os, .inl (z3, 52, .inl sl)), (og, .inl (z4, 4, .inl sg))] H := hP
    have hD : va_D A [(o0, .inr (2, [.int (nI gW), .int (nI gC), .int (nI gV), .int (nI gB), .ref om, .ref ow, .ref os, .ref og, .int hp, .int am, .int ar, .int dn, .int rd])), (om, .inl (z1, 24, .inl mp)), (ow, .inl (z2, 24, .inl (cpyN wa mp i))), (os, .inl (z3, 52, .inl sl)), (og, .inl (z4, 4, .inl sg))] := hD
    refine lv_iload_n hx hb dX2_wantAsIs_2 rfl (lv_at hl 1 rfl) ?_
    refine lv_bipush (v := 24) hx hb dX2_wantAsIs_3 (by decide) ?_
    refine lv_icmp_ge (tgt := 26) hx hb dX2_wantAsIs_5 (by decide) (fun c_1 => ?_) (fun c_1 => ?_)
    · have c_1 : 24 ≤ i := (nI_leI (a := 24) (b := i) (by omega) (by omega)).mp c_1
      have hie : i = 24 := by omega
      rw [hie] at hP hD
      exact K  _ _ _  hP hD hS (lv_sub hl [0] rfl)
    · have c_1 : ¬ (24 ≤ i) := fun q9 => c_1 ((nI_leI (a := 24) (b := i) (by omega) (by omega)).mpr q9)
      refine lv_aload_n hx hb dX2_wantAsIs_8 rfl (lv_at hl 0 rfl) ?_
      refine va_get (D := (dC, dI)) (ci := 2) (v := .ref ow) (C := RX2) (T := TX2) (N := 13) hx hb hts inX2 hown hK hP 0 rfl rfl 5 (by decide) (hts _ tb_260) (fun _ h9 => h9) rfl dX2_wantAsIs_9 ?_
      refine lv_iload_n hx hb dX2_wantAsIs_12 rfl (lv_at hl 1 rfl) ?_
      refine lv_aload_n hx hb dX2_wantAsIs_13 rfl (lv_at hl 0 rfl) ?_
      refine va_get (D := (dC, dI)) (ci := 2) (v := .ref om) (C := RX2) (T := TX2) (N := 13) hx hb hts inX2 hown hK hP 0 rfl rfl 4 (by decide) (hts _ tb_259) (fun _ h9 => h9) rfl dX2_wantAsIs_14 ?_
      refine lv_iload_n hx hb dX2_wantAsIs_17 rfl (lv_at hl 1 rfl) ?_
      refine va_iald hx hb hK hP 1 0 rfl rfl (vp_in_nI (n := i) (by omega) (by omega)) dX2_wantAsIs_18 ?_
      refine lv_topi (fun z_2 ez_2 => ?_)
      obtain rfl : z_2 = mp i := ez_2.trans (by rw [nI_clamp (n := i) (by omega)])
      refine va_iast hx hb hK hP hD hS 2 1 rfl rfl (vp_in_nI (n := i) (by omega) (by omega)) dX2_wantAsIs_19 (fun H locs hP hD hS => ?_)
      have hP : va_P (dC, dI) vwCl [(o0, .inr (2, [.int (nI gW), .int (nI gC), .int (nI gV), .int (nI gB), .ref om, .ref ow, .ref os, .ref og, .int hp, .int am, .int ar, .int dn, .int rd])), (om, .inl (z1, 24, .inl mp)), (ow, .inl (z2, 24, .inl (upd (cpyN wa mp i) (nI i).toNatClampNeg (mp i)))), (os, .inl (z3, 52, .inl sl)), (og, .inl (z4, 4, .inl sg))] H := hP
      have hD : va_D A [(o0, .inr (2, [.int (nI gW), .int (nI gC), .int (nI gV), .int (nI gB), .ref om, .ref ow, .ref os, .ref og, .int hp, .int am, .int ar, .int dn, .int rd])), (om, .inl (z1, 24, .inl mp)), (ow, .inl (z2, 24, .inl (upd (cpyN wa mp i) (nI i).toNatClampNeg (mp i)))), (os, .inl (z3, 52, .inl sl)), (og, .inl (z4, 4, .inl sg))] := hD
      rw [nI_clamp (n := i) (by omega)] at hP hD
      refine lv_iinc (v := nI (i + 1)) (lv' := [(1, .int (nI (i + 1))), (0, .ref o0)]) hx hb dX2_wantAsIs_20 hl (k := 1) rfl (nI_1 i) (by decide) rfl (fun ls hl => ?_)
      rw [cpyN_s] at hP hD
      refine lv_goto (tgt := 2) hx hb dX2_wantAsIs_23 (by decide) ?_
      exact ih (i + 1) _ _ _ (by omega) (by omega) hP hD hS (lv_sub hl [1, 0] rfl)
set_option maxHeartbeats 4000000 in
set_option maxRecDepth 100000 in
theorem k_X2_wantAsIs (l : Launch) (dC : Nat → ClassId) (dI : Nat → Nat → Nat) (o0 om ow os og : Nat) (z1 z2 z3 z4 : ClassId) (gW gC gV gB : Nat) (hg : mge gW gC gV gB) (sz : Nat) (mp wa sl sg : Nat → Int32) (hp am ar dn rd : Int32)  : ctV nwL l yX2_wantAsIs wsX2_wantAsIs ({ frames := 0, cells := 0, slots := 0, locals := 0 } : Room) (dC, dI) [(z1, .int), (z2, .int), (z3, .int), (z4, .int)] (mo_w o0 om ow os og z1 z2 z3 z4 gW gC gV gB) (mp, wa, sl, sg, hp, am, ar, dn, rd) sz [.ref o0] (fun (u : MS) => u = (mp, cpyN wa mp 24, sl, sg, hp, am, ar, dn, rd)) := by
  refine Met.ofW (cc := cX2_wantAsIs) (maxL := 2) (ret := none) (by decide) rfl ?_
  intro p e s m args below meth c s₁ B hml hv
  obtain ⟨rfl, hsz, hP, hK, hD0, hN⟩ := hv
  have hx := B.exec
  have hb := B.bytes
  have hr := B.returns
  have hts := fun w h => atoms_spec (ws := wsX2_wantAsIs) B.pre w (List.mem_cons_of_mem _ h)
  have hown : s.vm.findClass RX2 = some m.cls := findClass_of_methodNamed B.named
  have hlocks := B.notSynchronized
  subst hsz
  have hD := hD0.self (sz := s.heap.size)
  generalize hAe : va_A ((mo_w o0 om ow os og z1 z2 z3 z4 gW gC gV gB) (mp, wa, sl, sg, hp, am, ar, dn, rd)) s.heap.size = A at hD ⊢
  have hA : ∀ q : Nat, s.heap.size ≤ q → A q := fun q h => by rw [← hAe]; exact Or.inr h
  have hS : va_S A s.heap s.heap [] := va_S.rf
  have hl := lv_entry ([.ref o0]) (n := 2) (Nat.le_of_ble_eq_true rfl)
  rw [lg_entry_eq]
  generalize (lg_sl ([.ref o0]) ++ List.replicate (2 - (lg_sl ([.ref o0])).length) Slot.unset).toArray = ls at hl ⊢
  have hP : va_P (dC, dI) vwCl [(o0, .inr (2, [.int (nI gW), .int (nI gC), .int (nI gV), .int (nI gB), .ref om, .ref ow, .ref os, .ref og, .int hp, .int am, .int ar, .int dn, .int rd])), (om, .inl (z1, 24, .inl mp)), (ow, .inl (z2, 24, .inl wa)), (os, .inl (z3, 52, .inl sl)), (og, .inl (z4, 4, .inl sg))] s.heap := hP
  have hD : va_D A [(o0, .inr (2, [.int (nI gW), .int (nI gC), .int (nI gV), .int (nI gB), .ref om, .ref ow, .ref os, .ref og, .int hp, .int am, .int ar, .int dn, .int rd])), (om, .inl (z1, 24, .inl mp)), (ow, .inl (z2, 24, .inl wa)), (os, .inl (z3, 52, .inl sl)), (og, .inl (z4, 4, .inl sg))] := hD
  have hl : lv_has ls 2 [(0, .ref o0)] := hl
  obtain ⟨⟨hW1, hW2⟩, ⟨hC1, hC2⟩, ⟨hV1, hV2⟩, ⟨hB1, hB2⟩⟩ := id hg
  refine lv_iconst (v := 0) hx hb dX2_wantAsIs_0 (by decide) ?_
  refine lv_istore_n (lv' := [(1, .int 0), (0, .ref o0)]) hx hb dX2_wantAsIs_1 rfl hl (by decide) rfl (fun ls hl => ?_)
  have hl : lv_has ls 2 [(1, .int (nI 0)), (0, .ref o0)] := hl
  have e0 : wa = cpyN wa mp 0 := cpyN_0
  refine lp_X2_wantAsIs_2 o0 om ow os og z1 z2 z3 z4 gW gC gV gB hg mp wa sl sg hp am ar dn rd hx hb hml hown hts hK hN hA (fun H locs ls hP hD hS hl => ?_) 25 0 _ _ _ (by omega) (by omega) (by rw [← e0]; exact hP) (by rw [← e0]; exact hD) hS (lv_sub hl [1, 0] rfl)
  have hP : va_P (dC, dI) vwCl [(o0, .inr (2, [.int (nI gW), .int (nI gC), .int (nI gV), .int (nI gB), .ref om, .ref ow, .ref os, .ref og, .int hp, .int am, .int ar, .int dn, .int rd])), (om, .inl (z1, 24, .inl mp)), (ow, .inl (z2, 24, .inl (cpyN wa mp 24))), (os, .inl (z3, 52, .inl sl)), (og, .inl (z4, 4, .inl sg))] H := hP
  have hD : va_D A [(o0, .inr (2, [.int (nI gW), .int (nI gC), .int (nI gV), .int (nI gB), .ref om, .ref ow, .ref os, .ref og, .int hp, .int am, .int ar, .int dn, .int rd])), (om, .inl (z1, 24, .inl mp)), (ow, .inl (z2, 24, .inl (cpyN wa mp 24))), (os, .inl (z3, 52, .inl sl)), (og, .inl (z4, 4, .inl sg))] := hD
  exact W.vret hx hb hr (fun t ht hW => ⟨⟨(mp, cpyN wa mp 24, sl, sg, hp, am, ar, dn, rd), rfl, rfl, by rw [ht]; exact hP, hD⟩, hS.F ht⟩) hS.2.2 dX2_wantAsIs_26
set_option maxHeartbeats 4000000 in
set_option maxRecDepth 100000 in
theorem k_X2_isWord (l : Launch) (dC : Nat → ClassId) (dI : Nat → Nat → Nat) (o0 om ow os og : Nat) (z1 z2 z3 z4 : ClassId) (gW gC gV gB : Nat) (hg : mge gW gC gV gB) (sz : Nat) (mp wa sl sg : Nat → Int32) (hp am ar dn rd : Int32) (i : Int32) : ctI nwL l yX2_isWord wsX2_isWord ({ frames := 0, cells := 0, slots := 0, locals := 0 } : Room) (dC, dI) [(z1, .int), (z2, .int), (z3, .int), (z4, .int)] (mo_w o0 om ow os og z1 z2 z3 z4 gW gC gV gB) (mp, wa, sl, sg, hp, am, ar, dn, rd) sz [.ref o0, .int i] (fun (r : Int32) (u : MS) => r = inR i gW ∧ u = (mp, wa, sl, sg, hp, am, ar, dn, rd)) := by
  refine Met.ofW (cc := cX2_isWord) (maxL := 2) (ret := (some .boolean)) (by decide) rfl ?_
  intro p e s m args below meth c s₁ B hml hv
  obtain ⟨rfl, hsz, hP, hK, hD0, hN⟩ := hv
  have hx := B.exec
  have hb := B.bytes
  have hr := B.returns
  have hts := fun w h => atoms_spec (ws := wsX2_isWord) B.pre w (List.mem_cons_of_mem _ h)
  have hown : s.vm.findClass RX2 = some m.cls := findClass_of_methodNamed B.named
  have hlocks := B.notSynchronized
  subst hsz
  have hD := hD0.self (sz := s.heap.size)
  generalize hAe : va_A ((mo_w o0 om ow os og z1 z2 z3 z4 gW gC gV gB) (mp, wa, sl, sg, hp, am, ar, dn, rd)) s.heap.size = A at hD ⊢
  have hA : ∀ q : Nat, s.heap.size ≤ q → A q := fun q h => by rw [← hAe]; exact Or.inr h
  have hS : va_S A s.heap s.heap [] := va_S.rf
  have hl := lv_entry ([.ref o0, .int i]) (n := 2) (Nat.le_of_ble_eq_true rfl)
  rw [lg_entry_eq]
  generalize (lg_sl ([.ref o0, .int i]) ++ List.replicate (2 - (lg_sl ([.ref o0, .int i])).length) Slot.unset).toArray = ls at hl ⊢
  have hP : va_P (dC, dI) vwCl [(o0, .inr (2, [.int (nI gW), .int (nI gC), .int (nI gV), .int (nI gB), .ref om, .ref ow, .ref os, .ref og, .int hp, .int am, .int ar, .int dn, .int rd])), (om, .inl (z1, 24, .inl mp)), (ow, .inl (z2, 24, .inl wa)), (os, .inl (z3, 52, .inl sl)), (og, .inl (z4, 4, .inl sg))] s.heap := hP
  have hD : va_D A [(o0, .inr (2, [.int (nI gW), .int (nI gC), .int (nI gV), .int (nI gB), .ref om, .ref ow, .ref os, .ref og, .int hp, .int am, .int ar, .int dn, .int rd])), (om, .inl (z1, 24, .inl mp)), (ow, .inl (z2, 24, .inl wa)), (os, .inl (z3, 52, .inl sl)), (og, .inl (z4, 4, .inl sg))] := hD
  have hl : lv_has ls 2 [(0, .ref o0), (1, .int i)] := hl
  obtain ⟨⟨hW1, hW2⟩, ⟨hC1, hC2⟩, ⟨hV1, hV2⟩, ⟨hB1, hB2⟩⟩ := id hg
  refine lv_iload_n hx hb dX2_isWord_0 rfl (lv_at hl 1 rfl) ?_
  refine lv_if_lt (tgt := 16) hx hb dX2_isWord_1 (by decide) (fun c_1 => ?_) (fun c_1 => ?_)
  · refine lv_iconst (v := 0) hx hb dX2_isWord_16 (by decide) ?_
    exact W.zret (v := 0) hx hb hr rfl (fun t ht hW => ⟨⟨0, (mp, wa, sl, sg, hp, am, ar, dn, rd), rfl, ⟨by unfold inR; rw [if_pos c_1], rfl⟩, by rw [ht]; exact hP, hD⟩, hS.F ht⟩) hS.2.2 dX2_isWord_17
  · refine lv_iload_n hx hb dX2_isWord_4 rfl (lv_at hl 1 rfl) ?_
    refine lv_aload_n hx hb dX2_isWord_5 rfl (lv_at hl 0 rfl) ?_
    refine va_get (D := (dC, dI)) (ci := 2) (v := .int (nI gW)) (C := RX2) (T := TX2) (N := 13) hx hb hts inX2 hown hK hP 0 rfl rfl 0 (by decide) (hts _ tb_255) (fun _ h9 => h9) rfl dX2_isWord_6 ?_
    refine lv_icmp_ge (tgt := 16) hx hb dX2_isWord_9 (by decide) (fun c_2 => ?_) (fun c_2 => ?_)
    · refine lv_iconst (v := 0) hx hb dX2_isWord_16 (by decide) ?_
      exact W.zret (v := 0) hx hb hr rfl (fun t ht hW => ⟨⟨0, (mp, wa, sl, sg, hp, am, ar, dn, rd), rfl, ⟨by unfold inR; rw [if_neg c_1, if_pos c_2], rfl⟩, by rw [ht]; exact hP, hD⟩, hS.F ht⟩) hS.2.2 dX2_isWord_17
    · refine lv_iconst (v := 1) hx hb dX2_isWord_12 (by decide) ?_
      refine lv_goto (tgt := 17) hx hb dX2_isWord_13 (by decide) ?_
      exact W.zret (v := 1) hx hb hr rfl (fun t ht hW => ⟨⟨1, (mp, wa, sl, sg, hp, am, ar, dn, rd), rfl, ⟨by unfold inR; rw [if_neg c_1, if_neg c_2], rfl⟩, by rw [ht]; exact hP, hD⟩, hS.F ht⟩) hS.2.2 dX2_isWord_17
set_option maxHeartbeats 4000000 in
set_option maxRecDepth 100000 in
theorem k_X2_volume (l : Launch) (dC : Nat → ClassId) (dI : Nat → Nat → Nat) (o0 om ow os og : Nat) (z1 z2 z3 z4 : ClassId) (gW gC gV gB : Nat) (hg : mge gW gC gV gB) (sz : Nat) (mp wa sl sg : Nat → Int32) (hp am ar dn rd : Int32) (i : Int32) : ctI nwL l yX2_volume wsX2_volume ({ frames := 0, cells := 0, slots := 0, locals := 0 } : Room) (dC, dI) [(z1, .int), (z2, .int), (z3, .int), (z4, .int)] (mo_w o0 om ow os og z1 z2 z3 z4 gW gC gV gB) (mp, wa, sl, sg, hp, am, ar, dn, rd) sz [.ref o0, .int i] (fun (r : Int32) (u : MS) => r = inR i gV ∧ u = (mp, wa, sl, sg, hp, am, ar, dn, rd)) := by
  refine Met.ofW (cc := cX2_volume) (maxL := 2) (ret := (some .boolean)) (by decide) rfl ?_
  intro p e s m args below meth c s₁ B hml hv
  obtain ⟨rfl, hsz, hP, hK, hD0, hN⟩ := hv
  have hx := B.exec
  have hb := B.bytes
  have hr := B.returns
  have hts := fun w h => atoms_spec (ws := wsX2_volume) B.pre w (List.mem_cons_of_mem _ h)
  have hown : s.vm.findClass RX2 = some m.cls := findClass_of_methodNamed B.named
  have hlocks := B.notSynchronized
  subst hsz
  have hD := hD0.self (sz := s.heap.size)
  generalize hAe : va_A ((mo_w o0 om ow os og z1 z2 z3 z4 gW gC gV gB) (mp, wa, sl, sg, hp, am, ar, dn, rd)) s.heap.size = A at hD ⊢
  have hA : ∀ q : Nat, s.heap.size ≤ q → A q := fun q h => by rw [← hAe]; exact Or.inr h
  have hS : va_S A s.heap s.heap [] := va_S.rf
  have hl := lv_entry ([.ref o0, .int i]) (n := 2) (Nat.le_of_ble_eq_true rfl)
  rw [lg_entry_eq]
  generalize (lg_sl ([.ref o0, .int i]) ++ List.replicate (2 - (lg_sl ([.ref o0, .int i])).length) Slot.unset).toArray = ls at hl ⊢
  have hP : va_P (dC, dI) vwCl [(o0, .inr (2, [.int (nI gW), .int (nI gC), .int (nI gV), .int (nI gB), .ref om, .ref ow, .ref os, .ref og, .int hp, .int am, .int ar, .int dn, .int rd])), (om, .inl (z1, 24, .inl mp)), (ow, .inl (z2, 24, .inl wa)), (os, .inl (z3, 52, .inl sl)), (og, .inl (z4, 4, .inl sg))] s.heap := hP
  have hD : va_D A [(o0, .inr (2, [.int (nI gW), .int (nI gC), .int (nI gV), .int (nI gB), .ref om, .ref ow, .ref os, .ref og, .int hp, .int am, .int ar, .int dn, .int rd])), (om, .inl (z1, 24, .inl mp)), (ow, .inl (z2, 24, .inl wa)), (os, .inl (z3, 52, .inl sl)), (og, .inl (z4, 4, .inl sg))] := hD
  have hl : lv_has ls 2 [(0, .ref o0), (1, .int i)] := hl
  obtain ⟨⟨hW1, hW2⟩, ⟨hC1, hC2⟩, ⟨hV1, hV2⟩, ⟨hB1, hB2⟩⟩ := id hg
  refine lv_iload_n hx hb dX2_volume_0 rfl (lv_at hl 1 rfl) ?_
  refine lv_if_lt (tgt := 16) hx hb dX2_volume_1 (by decide) (fun c_1 => ?_) (fun c_1 => ?_)
  · refine lv_iconst (v := 0) hx hb dX2_volume_16 (by decide) ?_
    exact W.zret (v := 0) hx hb hr rfl (fun t ht hW => ⟨⟨0, (mp, wa, sl, sg, hp, am, ar, dn, rd), rfl, ⟨by unfold inR; rw [if_pos c_1], rfl⟩, by rw [ht]; exact hP, hD⟩, hS.F ht⟩) hS.2.2 dX2_volume_17
  · refine lv_iload_n hx hb dX2_volume_4 rfl (lv_at hl 1 rfl) ?_
    refine lv_aload_n hx hb dX2_volume_5 rfl (lv_at hl 0 rfl) ?_
    refine va_get (D := (dC, dI)) (ci := 2) (v := .int (nI gV)) (C := RX2) (T := TX2) (N := 13) hx hb hts inX2 hown hK hP 0 rfl rfl 2 (by decide) (hts _ tb_257) (fun _ h9 => h9) rfl dX2_volume_6 ?_
    refine lv_icmp_ge (tgt := 16) hx hb dX2_volume_9 (by decide) (fun c_2 => ?_) (fun c_2 => ?_)
    · refine lv_iconst (v := 0) hx hb dX2_volume_16 (by decide) ?_
      exact W.zret (v := 0) hx hb hr rfl (fun t ht hW => ⟨⟨0, (mp, wa, sl, sg, hp, am, ar, dn, rd), rfl, ⟨by unfold inR; rw [if_neg c_1, if_pos c_2], rfl⟩, by rw [ht]; exact hP, hD⟩, hS.F ht⟩) hS.2.2 dX2_volume_17
    · refine lv_iconst (v := 1) hx hb dX2_volume_12 (by decide) ?_
      refine lv_goto (tgt := 17) hx hb dX2_volume_13 (by decide) ?_
      exact W.zret (v := 1) hx hb hr rfl (fun t ht hW => ⟨⟨1, (mp, wa, sl, sg, hp, am, ar, dn, rd), rfl, ⟨by unfold inR; rw [if_neg c_1, if_neg c_2], rfl⟩, by rw [ht]; exact hP, hD⟩, hS.F ht⟩) hS.2.2 dX2_volume_17
set_option maxHeartbeats 4000000 in
set_option maxRecDepth 100000 in
theorem k_X2_block (l : Launch) (dC : Nat → ClassId) (dI : Nat → Nat → Nat) (o0 om ow os og : Nat) (z1 z2 z3 z4 : ClassId) (gW gC gV gB : Nat) (hg : mge gW gC gV gB) (sz : Nat) (mp wa sl sg : Nat → Int32) (hp am ar dn rd : Int32) (v b : Int32) : ctI nwL l yX2_block wsX2_block ({ frames := 1, cells := 0, slots := 0, locals := 21 } : Room) (dC, dI) [(z1, .int), (z2, .int), (z3, .int), (z4, .int)] (mo_w o0 om ow os og z1 z2 z3 z4 gW gC gV gB) (mp, wa, sl, sg, hp, am, ar, dn, rd) sz [.ref o0, .int v, .int b] (fun (r : Int32) (u : MS) => r = inB v b gV gB ∧ u = (mp, wa, sl, sg, hp, am, ar, dn, rd)) := by
  refine Met.ofW (cc := cX2_block) (maxL := 3) (ret := (some .boolean)) (by decide) rfl ?_
  intro p e s m args below meth c s₁ B hml hv
  obtain ⟨rfl, hsz, hP, hK, hD0, hN⟩ := hv
  have hx := B.exec
  have hb := B.bytes
  have hr := B.returns
  have hts := fun w h => atoms_spec (ws := wsX2_block) B.pre w (List.mem_cons_of_mem _ h)
  have hown : s.vm.findClass RX2 = some m.cls := findClass_of_methodNamed B.named
  have hlocks := B.notSynchronized
  subst hsz
  have hD := hD0.self (sz := s.heap.size)
  generalize hAe : va_A ((mo_w o0 om ow os og z1 z2 z3 z4 gW gC gV gB) (mp, wa, sl, sg, hp, am, ar, dn, rd)) s.heap.size = A at hD ⊢
  have hA : ∀ q : Nat, s.heap.size ≤ q → A q := fun q h => by rw [← hAe]; exact Or.inr h
  have hS : va_S A s.heap s.heap [] := va_S.rf
  have hl := lv_entry ([.ref o0, .int v, .int b]) (n := 3) (Nat.le_of_ble_eq_true rfl)
  rw [lg_entry_eq]
  generalize (lg_sl ([.ref o0, .int v, .int b]) ++ List.replicate (3 - (lg_sl ([.ref o0, .int v, .int b])).length) Slot.unset).toArray = ls at hl ⊢
  have hP : va_P (dC, dI) vwCl [(o0, .inr (2, [.int (nI gW), .int (nI gC), .int (nI gV), .int (nI gB), .ref om, .ref ow, .ref os, .ref og, .int hp, .int am, .int ar, .int dn, .int rd])), (om, .inl (z1, 24, .inl mp)), (ow, .inl (z2, 24, .inl wa)), (os, .inl (z3, 52, .inl sl)), (og, .inl (z4, 4, .inl sg))] s.heap := hP
  have hD : va_D A [(o0, .inr (2, [.int (nI gW), .int (nI gC), .int (nI gV), .int (nI gB), .ref om, .ref ow, .ref os, .ref og, .int hp, .int am, .int ar, .int dn, .int rd])), (om, .inl (z1, 24, .inl mp)), (ow, .inl (z2, 24, .inl wa)), (os, .inl (z3, 52, .inl sl)), (og, .inl (z4, 4, .inl sg))] := hD
  have hl : lv_has ls 3 [(0, .ref o0), (1, .int v), (2, .int b)] := hl
  obtain ⟨⟨hW1, hW2⟩, ⟨hC1, hC2⟩, ⟨hV1, hV2⟩, ⟨hB1, hB2⟩⟩ := id hg
  refine lv_aload_n hx hb dX2_block_0 rfl (lv_at hl 0 rfl) ?_
  refine lv_iload_n hx hb dX2_block_1 rfl (lv_at hl 1 rfl) ?_
  refine xr_i (D := (dC, dI)) (wf := (mo_w o0 om ow os og z1 z2 z3 z4 gW gC gV gB)) (u0 := (mp, wa, sl, sg, hp, am, ar, dn, rd)) (wr := []) (va_runV (As := [.int v]) (rest := []) ⟨hx, hb, hml, hown, hts⟩ (k_X2_volume l dC dI o0 om ow os og z1 z2 z3 z4 gW gC gV gB hg s.heap.size mp wa sl sg hp am ar dn rd v) (cwV 1 hts gX2_59 rfl rfl rfl (by decide +kernel) ⟨Nat.le_of_ble_eq_true rfl, Nat.le_of_ble_eq_true rfl⟩) (xp_v nwL_ok hK hN hP hD [0, 1, 2, 3, 4] rfl rfl (va_recv hK hP (ci := 2) (q0 := 0) rfl rfl)) rfl rfl hl.1 rfl (lv_room (Nat.le_of_ble_eq_true rfl)) dX2_block_2 ⟨Nat.zero_le _, Nat.zero_le _⟩) hP hD hS hA [0, 1, 2, 3, 4] [] rfl rfl (by decide) (by decide) (fun r_1 u_2 H locs hw hP hD hS => ?_)
  obtain ⟨er_1, eu_2⟩ := hw
  rw [eu_2] at hP hD
  rw [er_1]
  have hP : va_P (dC, dI) vwCl [(o0, .inr (2, [.int (nI gW), .int (nI gC), .int (nI gV), .int (nI gB), .ref om, .ref ow, .ref os, .ref og, .int hp, .int am, .int ar, .int dn, .int rd])), (om, .inl (z1, 24, .inl mp)), (ow, .inl (z2, 24, .inl wa)), (os, .inl (z3, 52, .inl sl)), (og, .inl (z4, 4, .inl sg))] H := hP
  have hD : va_D A [(o0, .inr (2, [.int (nI gW), .int (nI gC), .int (nI gV), .int (nI gB), .ref om, .ref ow, .ref os, .ref og, .int hp, .int am, .int ar, .int dn, .int rd])), (om, .inl (z1, 24, .inl mp)), (ow, .inl (z2, 24, .inl wa)), (os, .inl (z3, 52, .inl sl)), (og, .inl (z4, 4, .inl sg))] := hD
  refine lv_if_eq (tgt := 24) hx hb dX2_block_5 (by decide) (fun c_3 => ?_) (fun c_3 => ?_)
  · refine lv_iconst (v := 0) hx hb dX2_block_24 (by decide) ?_
    exact W.zret (v := 0) hx hb hr rfl (fun t ht hW => ⟨⟨0, (mp, wa, sl, sg, hp, am, ar, dn, rd), rfl, ⟨by unfold inB; rw [if_pos c_3], rfl⟩, by rw [ht]; exact hP, hD⟩, hS.F ht⟩) hS.2.2 dX2_block_25
  · refine lv_iload_n hx hb dX2_block_8 rfl (lv_at hl 2 rfl) ?_
    refine lv_if_lt (tgt := 24) hx hb dX2_block_9 (by decide) (fun c_4 => ?_) (fun c_4 => ?_)
    · refine lv_iconst (v := 0) hx hb dX2_block_24 (by decide) ?_
      exact W.zret (v := 0) hx hb hr rfl (fun t ht hW => ⟨⟨0, (mp, wa, sl, sg, hp, am, ar, dn, rd), rfl, ⟨by unfold inB; rw [if_neg c_3]; unfold inR; rw [if_pos c_4], rfl⟩, by rw [ht]; exact hP, hD⟩, hS.F ht⟩) hS.2.2 dX2_block_25
    · refine lv_iload_n hx hb dX2_block_12 rfl (lv_at hl 2 rfl) ?_
      refine lv_aload_n hx hb dX2_block_13 rfl (lv_at hl 0 rfl) ?_
      refine va_get (D := (dC, dI)) (ci := 2) (v := .int (nI gB)) (C := RX2) (T := TX2) (N := 13) hx hb hts inX2 hown hK hP 0 rfl rfl 3 (by decide) (hts _ tb_258) (fun _ h9 => h9) rfl dX2_block_14 ?_
      refine lv_icmp_ge (tgt := 24) hx hb dX2_block_17 (by decide) (fun c_5 => ?_) (fun c_5 => ?_)
      · refine lv_iconst (v := 0) hx hb dX2_block_24 (by decide) ?_
        exact W.zret (v := 0) hx hb hr rfl (fun t ht hW => ⟨⟨0, (mp, wa, sl, sg, hp, am, ar, dn, rd), rfl, ⟨by unfold inB; rw [if_neg c_3]; unfold inR; rw [if_neg c_4, if_pos c_5], rfl⟩, by rw [ht]; exact hP, hD⟩, hS.F ht⟩) hS.2.2 dX2_block_25
      · refine lv_iconst (v := 1) hx hb dX2_block_20 (by decide) ?_
        refine lv_goto (tgt := 25) hx hb dX2_block_21 (by decide) ?_
        exact W.zret (v := 1) hx hb hr rfl (fun t ht hW => ⟨⟨1, (mp, wa, sl, sg, hp, am, ar, dn, rd), rfl, ⟨by unfold inB; rw [if_neg c_3]; unfold inR; rw [if_neg c_4, if_neg c_5], rfl⟩, by rw [ht]; exact hP, hD⟩, hS.F ht⟩) hS.2.2 dX2_block_25
set_option maxHeartbeats 4000000 in
set_option maxRecDepth 100000 in
theorem k_X2_spend (l : Launch) (dC : Nat → ClassId) (dI : Nat → Nat → Nat) (o0 om ow os og : Nat) (z1 z2 z3 z4 : ClassId) (gW gC gV gB : Nat) (hg : mge gW gC gV gB) (sz : Nat) (mp wa sl sg : Nat → Int32) (hp am ar dn rd : Int32) (n : Int32) : ctI nwL l yX2_spend wsX2_spend ({ frames := 0, cells := 0, slots := 0, locals := 0 } : Room) (dC, dI) [(z1, .int), (z2, .int), (z3, .int), (z4, .int)] (mo_w o0 om ow os og z1 z2 z3 z4 gW gC gV gB) (mp, wa, sl, sg, hp, am, ar, dn, rd) sz [.ref o0, .int n] (fun (r : Int32) (u : MS) => r = m_many am n ∧ u = (mp, wa, sl, sg, hp + m_many am n, m_left am n, ar, m_dn am n dn, rd)) := by
  refine Met.ofW (cc := cX2_spend) (maxL := 3) (ret := (some .int)) (by decide) rfl ?_
  intro p e s m args below meth c s₁ B hml hv
  obtain ⟨rfl, hsz, hP, hK, hD0, hN⟩ := hv
  have hx := B.exec
  have hb := B.bytes
  have hr := B.returns
  have hts := fun w h => atoms_spec (ws := wsX2_spend) B.pre w (List.mem_cons_of_mem _ h)
  have hown : s.vm.findClass RX2 = some m.cls := findClass_of_methodNamed B.named
  have hlocks := B.notSynchronized
  subst hsz
  have hD := hD0.self (sz := s.heap.size)
  generalize hAe : va_A ((mo_w o0 om ow os og z1 z2 z3 z4 gW gC gV gB) (mp, wa, sl, sg, hp, am, ar, dn, rd)) s.heap.size = A at hD ⊢
  have hA : ∀ q : Nat, s.heap.size ≤ q → A q := fun q h => by rw [← hAe]; exact Or.inr h
  have hS : va_S A s.heap s.heap [] := va_S.rf
  have hl := lv_entry ([.ref o0, .int n]) (n := 3) (Nat.le_of_ble_eq_true rfl)
  rw [lg_entry_eq]
  generalize (lg_sl ([.ref o0, .int n]) ++ List.replicate (3 - (lg_sl ([.ref o0, .int n])).length) Slot.unset).toArray = ls at hl ⊢
  have hP : va_P (dC, dI) vwCl [(o0, .inr (2, [.int (nI gW), .int (nI gC), .int (nI gV), .int (nI gB), .ref om, .ref ow, .ref os, .ref og, .int hp, .int am, .int ar, .int dn, .int rd])), (om, .inl (z1, 24, .inl mp)), (ow, .inl (z2, 24, .inl wa)), (os, .inl (z3, 52, .inl sl)), (og, .inl (z4, 4, .inl sg))] s.heap := hP
  have hD : va_D A [(o0, .inr (2, [.int (nI gW), .int (nI gC), .int (nI gV), .int (nI gB), .ref om, .ref ow, .ref os, .ref og, .int hp, .int am, .int ar, .int dn, .int rd])), (om, .inl (z1, 24, .inl mp)), (ow, .inl (z2, 24, .inl wa)), (os, .inl (z3, 52, .inl sl)), (og, .inl (z4, 4, .inl sg))] := hD
  have hl : lv_has ls 3 [(0, .ref o0), (1, .int n)] := hl
  obtain ⟨⟨hW1, hW2⟩, ⟨hC1, hC2⟩, ⟨hV1, hV2⟩, ⟨hB1, hB2⟩⟩ := id hg
  refine lv_iload_n hx hb dX2_spend_0 rfl (lv_at hl 1 rfl) ?_
  refine lv_istore_n (lv' := [(2, .int n), (0, .ref o0), (1, .int n)]) hx hb dX2_spend_1 rfl hl (by decide) rfl (fun ls hl => ?_)
  refine lv_aload_n hx hb dX2_spend_2 rfl (lv_at hl 1 rfl) ?_
  refine va_get (D := (dC, dI)) (ci := 2) (v := .int am) (C := RX2) (T := TX2) (N := 13) hx hb hts inX2 hown hK hP 0 rfl rfl 9 (by decide) (hts _ tb_264) (fun _ h9 => h9) rfl dX2_spend_3 ?_
  refine lv_if_le (tgt := 37) hx hb dX2_spend_6 (by decide) (fun c_1 => ?_) (fun c_1 => ?_)
  · refine lv_aload_n hx hb dX2_spend_37 rfl (lv_at hl 1 rfl) ?_
    refine lv_aload_n hx hb dX2_spend_38 rfl (lv_at hl 1 rfl) ?_
    refine va_get (D := (dC, dI)) (ci := 2) (v := .int am) (C := RX2) (T := TX2) (N := 13) hx hb hts inX2 hown hK hP 0 rfl rfl 9 (by decide) (hts _ tb_264) (fun _ h9 => h9) rfl dX2_spend_39 ?_
    refine lv_if_le (tgt := 54) hx hb dX2_spend_42 (by decide) (fun c_2 => ?_) (fun c_2 => ?_)
    · refine lv_iconst (v := 0) hx hb dX2_spend_54 (by decide) ?_
      refine va_put (D := (dC, dI)) (ci := 2) (v := .int 0) (ty := .int) (C := RX2) (T := TX2) (N := 13) hx hb hts inX2 tyX2 okX2 nmX2 hown hK hP hD hS 0 rfl rfl 9 (by decide) (hts _ tb_264) (fun _ h9 => h9) rfl (by decide +kernel) rfl rfl (Nat.le_of_ble_eq_true rfl) dX2_spend_55 (fun H locs hP hD hS => ?_)
      have hP : va_P (dC, dI) vwCl [(o0, .inr (2, [.int (nI gW), .int (nI gC), .int (nI gV), .int (nI gB), .ref om, .ref ow, .ref os, .ref og, .int hp, .int 0, .int ar, .int dn, .int rd])), (om, .inl (z1, 24, .inl mp)), (ow, .inl (z2, 24, .inl wa)), (os, .inl (z3, 52, .inl sl)), (og, .inl (z4, 4, .inl sg))] H := hP
      have hD : va_D A [(o0, .inr (2, [.int (nI gW), .int (nI gC), .int (nI gV), .int (nI gB), .ref om, .ref ow, .ref os, .ref og, .int hp, .int 0, .int ar, .int dn, .int rd])), (om, .inl (z1, 24, .inl mp)), (ow, .inl (z2, 24, .inl wa)), (os, .inl (z3, 52, .inl sl)), (og, .inl (z4, 4, .inl sg))] := hD
      refine lv_aload_n hx hb dX2_spend_58 rfl (lv_at hl 1 rfl) ?_
      refine lv_aload_n hx hb dX2_spend_59 rfl (lv_at hl 1 rfl) ?_
      refine va_get (D := (dC, dI)) (ci := 2) (v := .int hp) (C := RX2) (T := TX2) (N := 13) hx hb hts inX2 hown hK hP 0 rfl rfl 8 (by decide) (hts _ tb_263) (fun _ h9 => h9) rfl dX2_spend_60 ?_
      refine lv_iload_n hx hb dX2_spend_63 rfl (lv_at hl 0 rfl) ?_
      refine lv_iadd hx hb dX2_spend_64 ?_
      refine va_put (D := (dC, dI)) (ci := 2) (v := .int (hp + n)) (ty := .int) (C := RX2) (T := TX2) (N := 13) hx hb hts inX2 tyX2 okX2 nmX2 hown hK hP hD hS 0 rfl rfl 8 (by decide) (hts _ tb_263) (fun _ h9 => h9) rfl (by decide +kernel) rfl rfl (Nat.le_of_ble_eq_true rfl) dX2_spend_65 (fun H locs hP hD hS => ?_)
      have hP : va_P (dC, dI) vwCl [(o0, .inr (2, [.int (nI gW), .int (nI gC), .int (nI gV), .int (nI gB), .ref om, .ref ow, .ref os, .ref og, .int (hp + n), .int 0, .int ar, .int dn, .int rd])), (om, .inl (z1, 24, .inl mp)), (ow, .inl (z2, 24, .inl wa)), (os, .inl (z3, 52, .inl sl)), (og, .inl (z4, 4, .inl sg))] H := hP
      have hD : va_D A [(o0, .inr (2, [.int (nI gW), .int (nI gC), .int (nI gV), .int (nI gB), .ref om, .ref ow, .ref os, .ref og, .int (hp + n), .int 0, .int ar, .int dn, .int rd])), (om, .inl (z1, 24, .inl mp)), (ow, .inl (z2, 24, .inl wa)), (os, .inl (z3, 52, .inl sl)), (og, .inl (z4, 4, .inl sg))] := hD
      refine lv_iload_n hx hb dX2_spend_68 rfl (lv_at hl 0 rfl) ?_
      exact W.iret (v := n) hx hb hr (fun t ht hW => ⟨⟨n, (mp, wa, sl, sg, hp + n, 0, ar, dn, rd), rfl, ⟨by unfold m_many; simp only [if_pos c_1], by unfold m_many m_left m_dn; simp only [if_pos c_1]⟩, by rw [ht]; exact hP, hD⟩, hS.F ht⟩) hS.2.2 dX2_spend_69
    · exact absurd c_1 c_2
  · refine lv_aload_n hx hb dX2_spend_9 rfl (lv_at hl 1 rfl) ?_
    refine va_get (D := (dC, dI)) (ci := 2) (v := .int am) (C := RX2) (T := TX2) (N := 13) hx hb hts inX2 hown hK hP 0 rfl rfl 9 (by decide) (hts _ tb_264) (fun _ h9 => h9) rfl dX2_spend_10 ?_
    refine lv_iload_n hx hb dX2_spend_13 rfl (lv_at hl 2 rfl) ?_
    refine lv_icmp_gt (tgt := 37) hx hb dX2_spend_14 (by decide) (fun c_3 => ?_) (fun c_3 => ?_)
    · refine lv_aload_n hx hb dX2_spend_37 rfl (lv_at hl 1 rfl) ?_
      refine lv_aload_n hx hb dX2_spend_38 rfl (lv_at hl 1 rfl) ?_
      refine va_get (D := (dC, dI)) (ci := 2) (v := .int am) (C := RX2) (T := TX2) (N := 13) hx hb hts inX2 hown hK hP 0 rfl rfl 9 (by decide) (hts _ tb_264) (fun _ h9 => h9) rfl dX2_spend_39 ?_
      refine lv_if_le (tgt := 54) hx hb dX2_spend_42 (by decide) (fun c_4 => ?_) (fun c_4 => ?_)
      · exact absurd c_4 c_1
      · refine lv_aload_n hx hb dX2_spend_45 rfl (lv_at hl 1 rfl) ?_
        refine va_get (D := (dC, dI)) (ci := 2) (v := .int am) (C := RX2) (T := TX2) (N := 13) hx hb hts inX2 hown hK hP 0 rfl rfl 9 (by decide) (hts _ tb_264) (fun _ h9 => h9) rfl dX2_spend_46 ?_
        refine lv_iload_n hx hb dX2_spend_49 rfl (lv_at hl 2 rfl) ?_
        refine lv_isub hx hb dX2_spend_50 ?_
        refine lv_goto (tgt := 55) hx hb dX2_spend_51 (by decide) ?_
        refine va_put (D := (dC, dI)) (ci := 2) (v := .int (am - n)) (ty := .int) (C := RX2) (T := TX2) (N := 13) hx hb hts inX2 tyX2 okX2 nmX2 hown hK hP hD hS 0 rfl rfl 9 (by decide) (hts _ tb_264) (fun _ h9 => h9) rfl (by decide +kernel) rfl rfl (Nat.le_of_ble_eq_true rfl) dX2_spend_55 (fun H locs hP hD hS => ?_)
        have hP : va_P (dC, dI) vwCl [(o0, .inr (2, [.int (nI gW), .int (nI gC), .int (nI gV), .int (nI gB), .ref om, .ref ow, .ref os, .ref og, .int hp, .int (am - n), .int ar, .int dn, .int rd])), (om, .inl (z1, 24, .inl mp)), (ow, .inl (z2, 24, .inl wa)), (os, .inl (z3, 52, .inl sl)), (og, .inl (z4, 4, .inl sg))] H := hP
        have hD : va_D A [(o0, .inr (2, [.int (nI gW), .int (nI gC), .int (nI gV), .int (nI gB), .ref om, .ref ow, .ref os, .ref og, .int hp, .int (am - n), .int ar, .int dn, .int rd])), (om, .inl (z1, 24, .inl mp)), (ow, .inl (z2, 24, .inl wa)), (os, .inl (z3, 52, .inl sl)), (og, .inl (z4, 4, .inl sg))] := hD
        refine lv_aload_n hx hb dX2_spend_58 rfl (lv_at hl 1 rfl) ?_
        refine lv_aload_n hx hb dX2_spend_59 rfl (lv_at hl 1 rfl) ?_
        refine va_get (D := (dC, dI)) (ci := 2) (v := .int hp) (C := RX2) (T := TX2) (N := 13) hx hb hts inX2 hown hK hP 0 rfl rfl 8 (by decide) (hts _ tb_263) (fun _ h9 => h9) rfl dX2_spend_60 ?_
        refine lv_iload_n hx hb dX2_spend_63 rfl (lv_at hl 0 rfl) ?_
        refine lv_iadd hx hb dX2_spend_64 ?_
        refine va_put (D := (dC, dI)) (ci := 2) (v := .int (hp + n)) (ty := .int) (C := RX2) (T := TX2) (N := 13) hx hb hts inX2 tyX2 okX2 nmX2 hown hK hP hD hS 0 rfl rfl 8 (by decide) (hts _ tb_263) (fun _ h9 => h9) rfl (by decide +kernel) rfl rfl (Nat.le_of_ble_eq_true rfl) dX2_spend_65 (fun H locs hP hD hS => ?_)
        have hP : va_P (dC, dI) vwCl [(o0, .inr (2, [.int (nI gW), .int (nI gC), .int (nI gV), .int (nI gB), .ref om, .ref ow, .ref os, .ref og, .int (hp + n), .int (am - n), .int ar, .int dn, .int rd])), (om, .inl (z1, 24, .inl mp)), (ow, .inl (z2, 24, .inl wa)), (os, .inl (z3, 52, .inl sl)), (og, .inl (z4, 4, .inl sg))] H := hP
        have hD : va_D A [(o0, .inr (2, [.int (nI gW), .int (nI gC), .int (nI gV), .int (nI gB), .ref om, .ref ow, .ref os, .ref og, .int (hp + n), .int (am - n), .int ar, .int dn, .int rd])), (om, .inl (z1, 24, .inl mp)), (ow, .inl (z2, 24, .inl wa)), (os, .inl (z3, 52, .inl sl)), (og, .inl (z4, 4, .inl sg))] := hD
        refine lv_iload_n hx hb dX2_spend_68 rfl (lv_at hl 0 rfl) ?_
        exact W.iret (v := n) hx hb hr (fun t ht hW => ⟨⟨n, (mp, wa, sl, sg, hp + n, am - n, ar, dn, rd), rfl, ⟨by unfold m_many; simp only [if_neg c_1, if_pos c_3], by unfold m_many m_left m_dn; simp only [if_neg c_1, if_pos c_3]⟩, by rw [ht]; exact hP, hD⟩, hS.F ht⟩) hS.2.2 dX2_spend_69
    · refine lv_aload_n hx hb dX2_spend_17 rfl (lv_at hl 1 rfl) ?_
      refine va_get (D := (dC, dI)) (ci := 2) (v := .int am) (C := RX2) (T := TX2) (N := 13) hx hb hts inX2 hown hK hP 0 rfl rfl 9 (by decide) (hts _ tb_264) (fun _ h9 => h9) rfl dX2_spend_18 ?_
      refine lv_iconst (v := 1) hx hb dX2_spend_21 (by decide) ?_
      refine lv_isub hx hb dX2_spend_22 ?_
      refine lv_istore_n (lv' := [(2, .int (am - 1)), (0, .ref o0), (1, .int n)]) hx hb dX2_spend_23 rfl hl (by decide) rfl (fun ls hl => ?_)
      refine lv_aload_n hx hb dX2_spend_24 rfl (lv_at hl 1 rfl) ?_
      refine lv_iconst (v := 0) hx hb dX2_spend_25 (by decide) ?_
      refine va_put (D := (dC, dI)) (ci := 2) (v := .int 0) (ty := .int) (C := RX2) (T := TX2) (N := 13) hx hb hts inX2 tyX2 okX2 nmX2 hown hK hP hD hS 0 rfl rfl 9 (by decide) (hts _ tb_264) (fun _ h9 => h9) rfl (by decide +kernel) rfl rfl (Nat.le_of_ble_eq_true rfl) dX2_spend_26 (fun H locs hP hD hS => ?_)
      have hP : va_P (dC, dI) vwCl [(o0, .inr (2, [.int (nI gW), .int (nI gC), .int (nI gV), .int (nI gB), .ref om, .ref ow, .ref os, .ref og, .int hp, .int 0, .int ar, .int dn, .int rd])), (om, .inl (z1, 24, .inl mp)), (ow, .inl (z2, 24, .inl wa)), (os, .inl (z3, 52, .inl sl)), (og, .inl (z4, 4, .inl sg))] H := hP
      have hD : va_D A [(o0, .inr (2, [.int (nI gW), .int (nI gC), .int (nI gV), .int (nI gB), .ref om, .ref ow, .ref os, .ref og, .int hp, .int 0, .int ar, .int dn, .int rd])), (om, .inl (z1, 24, .inl mp)), (ow, .inl (z2, 24, .inl wa)), (os, .inl (z3, 52, .inl sl)), (og, .inl (z4, 4, .inl sg))] := hD
      refine lv_aload_n hx hb dX2_spend_29 rfl (lv_at hl 1 rfl) ?_
      refine lv_iconst (v := 1) hx hb dX2_spend_30 (by decide) ?_
      refine va_put (D := (dC, dI)) (ci := 2) (v := .int 1) (ty := .boolean) (C := RX2) (T := TX2) (N := 13) hx hb hts inX2 tyX2 okX2 nmX2 hown hK hP hD hS 0 rfl rfl 11 (by decide) (hts _ tb_266) (fun _ h9 => h9) rfl (by decide +kernel) rfl rfl (Nat.le_of_ble_eq_true rfl) dX2_spend_31 (fun H locs hP hD hS => ?_)
      have hP : va_P (dC, dI) vwCl [(o0, .inr (2, [.int (nI gW), .int (nI gC), .int (nI gV), .int (nI gB), .ref om, .ref ow, .ref os, .ref og, .int hp, .int 0, .int ar, .int 1, .int rd])), (om, .inl (z1, 24, .inl mp)), (ow, .inl (z2, 24, .inl wa)), (os, .inl (z3, 52, .inl sl)), (og, .inl (z4, 4, .inl sg))] H := hP
      have hD : va_D A [(o0, .inr (2, [.int (nI gW), .int (nI gC), .int (nI gV), .int (nI gB), .ref om, .ref ow, .ref os, .ref og, .int hp, .int 0, .int ar, .int 1, .int rd])), (om, .inl (z1, 24, .inl mp)), (ow, .inl (z2, 24, .inl wa)), (os, .inl (z3, 52, .inl sl)), (og, .inl (z4, 4, .inl sg))] := hD
      refine lv_goto (tgt := 58) hx hb dX2_spend_34 (by decide) ?_
      refine lv_aload_n hx hb dX2_spend_58 rfl (lv_at hl 1 rfl) ?_
      refine lv_aload_n hx hb dX2_spend_59 rfl (lv_at hl 1 rfl) ?_
      refine va_get (D := (dC, dI)) (ci := 2) (v := .int hp) (C := RX2) (T := TX2) (N := 13) hx hb hts inX2 hown hK hP 0 rfl rfl 8 (by decide) (hts _ tb_263) (fun _ h9 => h9) rfl dX2_spend_60 ?_
      refine lv_iload_n hx hb dX2_spend_63 rfl (lv_at hl 0 rfl) ?_
      refine lv_iadd hx hb dX2_spend_64 ?_
      refine va_put (D := (dC, dI)) (ci := 2) (v := .int (hp + (am - 1))) (ty := .int) (C := RX2) (T := TX2) (N := 13) hx hb hts inX2 tyX2 okX2 nmX2 hown hK hP hD hS 0 rfl rfl 8 (by decide) (hts _ tb_263) (fun _ h9 => h9) rfl (by decide +kernel) rfl rfl (Nat.le_of_ble_eq_true rfl) dX2_spend_65 (fun H locs hP hD hS => ?_)
      have hP : va_P (dC, dI) vwCl [(o0, .inr (2, [.int (nI gW), .int (nI gC), .int (nI gV), .int (nI gB), .ref om, .ref ow, .ref os, .ref og, .int (hp + (am - 1)), .int 0, .int ar, .int 1, .int rd])), (om, .inl (z1, 24, .inl mp)), (ow, .inl (z2, 24, .inl wa)), (os, .inl (z3, 52, .inl sl)), (og, .inl (z4, 4, .inl sg))] H := hP
      have hD : va_D A [(o0, .inr (2, [.int (nI gW), .int (nI gC), .int (nI gV), .int (nI gB), .ref om, .ref ow, .ref os, .ref og, .int (hp + (am - 1)), .int 0, .int ar, .int 1, .int rd])), (om, .inl (z1, 24, .inl mp)), (ow, .inl (z2, 24, .inl wa)), (os, .inl (z3, 52, .inl sl)), (og, .inl (z4, 4, .inl sg))] := hD
      refine lv_iload_n hx hb dX2_spend_68 rfl (lv_at hl 0 rfl) ?_
      exact W.iret (v := am - 1) hx hb hr (fun t ht hW => ⟨⟨am - 1, (mp, wa, sl, sg, hp + (am - 1), 0, ar, 1, rd), rfl, ⟨by unfold m_many; simp only [if_neg c_1, if_neg c_3], by unfold m_many m_left m_dn; simp only [if_neg c_1, if_neg c_3]⟩, by rw [ht]; exact hP, hD⟩, hS.F ht⟩) hS.2.2 dX2_spend_69
