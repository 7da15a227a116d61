set_option maxHeartbeats 4000000 in
set_option maxRecDepth 100000 in
theorem lp_X0_mapVolumeAs_2 {p : Program} {l : Launch} {e : Env} {s : State} {m : MethodId} {args : Array Value} {below : List Frame} {meth : Method} {c : Code} {Q : State → Prop} {A : Nat → Prop} {dC : Nat → ClassId} {dI : Nat → Nat → Nat} (h0 hs hd hc : Nat) (a1 a2 : ClassId) (gW gC gV gB gM gI : Nat) (hg : geo gW gC gV gB gM gI) (st : Nat → Int32) (d : DS) (v q : Nat) (hv : v < gV) (hq : q < gV) (hx : p.tables.exec = Jvm.exec) (hb : c.code = cX0_mapVolumeAs) (hml : c.maxLocals = 4) (hown : s.vm.findClass RX0 = some m.cls) (hts : ∀ w ∈ TBG, w.before args s = true) (hK : va_K (dC, dI) vwCl [(a1, .int), (a2, .int)] s) (hN : nwOk nwL s) (hA : ∀ q : Nat, s.heap.size ≤ q → A q)  (K : ∀  (H : Heap) (locs : List Loc) (ls : Array Slot), va_P (dC, dI) vwCl (xo_w h0 hs hd hc a1 a2 gW gC gV gB gM gI (st, (dk_as gM gB v q d gB))) H → va_D A (xo_w h0 hs hd hc a1 a2 gW gC gV gB gM gI (st, (dk_as gM gB v q d gB))) → va_S A s.heap H locs → lv_has ls 4 [(0, .ref h0)] → W p l e ({ frames := 2, cells := 0, slots := 0, locals := 45 } : Room) s m args below meth c H locs 0 0 Q (F0 m 28 ls [])) : ∀ (n : Nat) (i : Nat) (H : Heap) (locs : List Loc) (ls : Array Slot), gB - i < n → (i ≤ gB) → va_P (dC, dI) vwCl (xo_w h0 hs hd hc a1 a2 gW gC gV gB gM gI (st, (dk_as gM gB v q d i))) H → va_D A (xo_w h0 hs hd hc a1 a2 gW gC gV gB gM gI (st, (dk_as gM gB v q d i))) → va_S A s.heap H locs → lv_has ls 4 [(0, .ref h0), (1, .int (nI v)), (2, .int (nI q)), (3, .int (nI i))] → W p l e ({ frames := 2, cells := 0, slots := 0, locals := 45 } : Room) s m args below meth c H locs 0 0 Q (F0 m 2 ls []) := by
  obtain ⟨⟨hW1, hW2⟩, ⟨hC1, hC2⟩, ⟨hV1, hV2⟩, ⟨hB1, hB2⟩, eM, eI⟩ := id hg
  obtain ⟨hM2, hq2⟩ := geo_b hg
  intro n
  induction n with
  | zero => intro i H locs ls hfu; exact absurd hfu (by omega)
  | succ n ih =>
    intro i H locs ls hfu hi hP hD hS hl
    have hP : va_P (dC, dI) vwCl [(h0, .inr (0, [.int (nI gW), .int (nI gC), .int (nI gV), .int (nI gB), .ref hs, .int (nI gM), .int (nI gI), .ref hd])), (hs, .inl (a1, gW, .inl st)), (hd, .inr (1, [.ref hc, .int ((dk_as gM gB v q d i).2.1), .int ((dk_as gM gB v q d i).2.2.1), .int ((dk_as gM gB v q d i).2.2.2.1), .int ((dk_as gM gB v q d i).2.2.2.2)])), (hc, .inl (a2, (gI + 4), .inl ((dk_as gM gB v q d i).1)))] H := hP
    have hD : va_D A [(h0, .inr (0, [.int (nI gW), .int (nI gC), .int (nI gV), .int (nI gB), .ref hs, .int (nI gM), .int (nI gI), .ref hd])), (hs, .inl (a1, gW, .inl st)), (hd, .inr (1, [.ref hc, .int ((dk_as gM gB v q d i).2.1), .int ((dk_as gM gB v q d i).2.2.1), .int ((dk_as gM gB v q d i).2.2.2.1), .int ((dk_as gM gB v q d i).2.2.2.2)])), (hc, .inl (a2, (gI + 4), .inl ((dk_as gM gB v q d i).1)))] := hD
    refine lv_iload_n hx hb dX0_mapVolumeAs_2 rfl (lv_at hl 3 rfl) ?_
    refine lv_aload_n hx hb dX0_mapVolumeAs_3 rfl (lv_at hl 0 rfl) ?_
    refine va_get (D := (dC, dI)) (ci := 0) (v := .int (nI gB)) (C := RX0) (T := TX0) (N := 8) hx hb hts inX0 hown hK hP 0 rfl rfl 3 (by decide) (hts _ tb_49) (fun _ h9 => h9) rfl dX0_mapVolumeAs_4 ?_
    refine lv_icmp_ge (tgt := 28) hx hb dX0_mapVolumeAs_7 (by decide) (fun c_1 => ?_) (fun c_1 => ?_)
    · have c_1 : gB ≤ i := (nI_leI (a := gB) (b := i) (by omega) (by omega)).mp c_1
      have hie : i = gB := by omega
      rw [hie] at hP hD
      exact K  _ _ _  hP hD hS (lv_sub hl [0] rfl)
    · have c_1 : ¬ (gB ≤ i) := fun q9 => c_1 ((nI_leI (a := gB) (b := i) (by omega) (by omega)).mpr q9)
      refine lv_aload_n hx hb dX0_mapVolumeAs_10 rfl (lv_at hl 0 rfl) ?_
      refine lv_iload_n hx hb dX0_mapVolumeAs_11 rfl (lv_at hl 1 rfl) ?_
      refine lv_iload_n hx hb dX0_mapVolumeAs_12 rfl (lv_at hl 3 rfl) ?_
      refine lv_aload_n hx hb dX0_mapVolumeAs_13 rfl (lv_at hl 0 rfl) ?_
      refine lv_iload_n hx hb dX0_mapVolumeAs_14 rfl (lv_at hl 2 rfl) ?_
      refine lv_iload_n hx hb dX0_mapVolumeAs_15 rfl (lv_at hl 3 rfl) ?_
      refine xr_i (D := (dC, dI)) (wf := (xo_w h0 hs hd hc a1 a2 gW gC gV gB gM gI)) (u0 := (st, (dk_as gM gB v q d i))) (wr := []) (va_runV (As := [.int (nI q), .int (nI i)]) (rest := [.int (nI i), .int (nI v), .ref h0]) ⟨hx, hb, hml, hown, hts⟩ (k_X0_mappedSlot l dC dI h0 hs hd hc a1 a2 gW gC gV gB gM gI hg H.size st (dk_as gM gB v q d i) q i (by omega) (by omega)) (cwV 2 hts gX0_70 rfl rfl rfl (by decide +kernel) ⟨Nat.le_of_ble_eq_true rfl, Nat.le_of_ble_eq_true rfl⟩) (xp_v nwL_ok hK hN hP hD [0, 1, 2, 3] rfl rfl (va_recv hK hP (ci := 0) (q0 := 0) rfl rfl)) rfl rfl hl.1 rfl (lv_room (Nat.le_of_ble_eq_true rfl)) dX0_mapVolumeAs_16 ⟨Nat.zero_le _, Nat.zero_le _⟩) hP hD hS hA [0, 1, 2, 3] [] rfl rfl (by decide) (by decide) (fun r_2 u_3 H locs hw hP hD hS => ?_)
      obtain ⟨er_2, eu_3⟩ := hw
      rw [eu_3] at hP hD
      rw [er_2]
      have hP : va_P (dC, dI) vwCl [(h0, .inr (0, [.int (nI gW), .int (nI gC), .int (nI gV), .int (nI gB), .ref hs, .int (nI gM), .int (nI gI), .ref hd])), (hs, .inl (a1, gW, .inl st)), (hd, .inr (1, [.ref hc, .int ((dk_as gM gB v q d i).2.1), .int ((dk_as gM gB v q d i).2.2.1), .int ((dk_as gM gB v q d i).2.2.2.1), .int ((dk_as gM gB v q d i).2.2.2.2)])), (hc, .inl (a2, (gI + 4), .inl ((dk_as gM gB v q d i).1)))] H := hP
      have hD : va_D A [(h0, .inr (0, [.int (nI gW), .int (nI gC), .int (nI gV), .int (nI gB), .ref hs, .int (nI gM), .int (nI gI), .ref hd])), (hs, .inl (a1, gW, .inl st)), (hd, .inr (1, [.ref hc, .int ((dk_as gM gB v q d i).2.1), .int ((dk_as gM gB v q d i).2.2.1), .int ((dk_as gM gB v q d i).2.2.2.1), .int ((dk_as gM gB v q d i).2.2.2.2)])), (hc, .inl (a2, (gI + 4), .inl ((dk_as gM gB v q d i).1)))] := hD
      refine xr_v (D := (dC, dI)) (wf := (xo_w h0 hs hd hc a1 a2 gW gC gV gB gM gI)) (u0 := (st, (dk_as gM gB v q d i))) (wr := []) (va_runV (As := [.int (nI v), .int (nI i), .int ((dk_as gM gB v q d i).1 (gM + q * gB + i) - 1)]) (rest := []) ⟨hx, hb, hml, hown, hts⟩ (k_X0_mapBlock l dC dI h0 hs hd hc a1 a2 gW gC gV gB gM gI hg H.size st (dk_as gM gB v q d i) v i (by omega) (by omega) ((dk_as gM gB v q d i).1 (gM + q * gB + i) - 1)) (cwV 3 hts gX0_138 rfl rfl rfl (by decide +kernel) ⟨Nat.le_of_ble_eq_true rfl, Nat.le_of_ble_eq_true rfl⟩) (xp_v nwL_ok hK hN hP hD [0, 1, 2, 3] rfl rfl (va_recv hK hP (ci := 0) (q0 := 0) rfl rfl)) rfl rfl hl.1 rfl (lv_room (Nat.le_of_ble_eq_true rfl)) dX0_mapVolumeAs_19 ⟨Nat.zero_le _, Nat.zero_le _⟩) hP hD hS hA [0, 1, 2, 3] [] rfl rfl (by decide) (by decide) (fun u_5 H locs hw hP hD hS => ?_)
      obtain ⟨d_6, ed_6⟩ : ∃ z, z = dk_write (dk_as gM gB v q d i) (gM + v * gB + i) (((dk_as gM gB v q d i).1 (gM + q * gB + i) - 1) + 1) := ⟨_, rfl⟩
      rw [hw, ← ed_6] at hP hD
      have hP : va_P (dC, dI) vwCl [(h0, .inr (0, [.int (nI gW), .int (nI gC), .int (nI gV), .int (nI gB), .ref hs, .int (nI gM), .int (nI gI), .ref hd])), (hs, .inl (a1, gW, .inl st)), (hd, .inr (1, [.ref hc, .int d_6.2.1, .int d_6.2.2.1, .int d_6.2.2.2.1, .int d_6.2.2.2.2])), (hc, .inl (a2, (gI + 4), .inl d_6.1))] H := hP
      have hD : va_D A [(h0, .inr (0, [.int (nI gW), .int (nI gC), .int (nI gV), .int (nI gB), .ref hs, .int (nI gM), .int (nI gI), .ref hd])), (hs, .inl (a1, gW, .inl st)), (hd, .inr (1, [.ref hc, .int d_6.2.1, .int d_6.2.2.1, .int d_6.2.2.2.1, .int d_6.2.2.2.2])), (hc, .inl (a2, (gI + 4), .inl d_6.1))] := hD
      refine lv_iinc (v := nI (i + 1)) (lv' := [(3, .int (nI (i + 1))), (0, .ref h0), (1, .int (nI v)), (2, .int (nI q))]) hx hb dX0_mapVolumeAs_22 hl (k := 3) rfl (nI_1 i) (by decide) rfl (fun ls hl => ?_)
      have e9 : d_6 = dk_as gM gB v q d (i + 1) := ed_6
      rw [e9] at hP hD
      refine lv_goto (tgt := 2) hx hb dX0_mapVolumeAs_25 (by decide) ?_
      exact ih (i + 1) _ _ _ (by omega) (by omega) hP hD hS (lv_sub hl [1, 2, 3, 0] rfl)
set_option maxHeartbeats 4000000 in
set_option maxRecDepth 100000 in
theorem k_X0_mapVolumeAs (l : Launch) (dC : Nat → ClassId) (dI : Nat → Nat → Nat) (h0 hs hd hc : Nat) (a1 a2 : ClassId) (gW gC gV gB gM gI : Nat) (hg : geo gW gC gV gB gM gI) (sz : Nat) (st : Nat → Int32) (d : DS) (v q : Nat) (hv : v < gV) (hq : q < gV) : ctV nwL l yX0_mapVolumeAs wsX0_mapVolumeAs ({ frames := 2, cells := 0, slots := 0, locals := 45 } : Room) (dC, dI) [(a1, .int), (a2, .int)] (xo_w h0 hs hd hc a1 a2 gW gC gV gB gM gI) (st, d) sz [.ref h0, .int (nI v), .int (nI q)] (fun (u : XS) => u = (st, dk_as gM gB v q d gB)) := by
  refine Met.ofW (cc := cX0_mapVolumeAs) (maxL := 4) (ret := none) (by decide) rfl ?_
  intro p e s m args below meth c s₁ B hml hv
  obtain ⟨rfl, hsz, hP, hK, hD0, hN⟩ := hv
  have hx := B.exec
  have hb := B.bytes
  have hr := B.returns
  have hts := fun w h => atoms_spec (ws := wsX0_mapVolumeAs) B.pre w (List.mem_cons_of_mem _ h)
  have hown : s.vm.findClass RX0 = some m.cls := findClass_of_methodNamed B.named
  have hlocks := B.notSynchronized
  subst hsz
  have hD := hD0.self (sz := s.heap.size)
  generalize hAe : va_A ((xo_w h0 hs hd hc a1 a2 gW gC gV gB gM gI) (st, d)) s.heap.size = A at hD ⊢
  have hA : ∀ q : Nat, s.heap.size ≤ q → A q := fun q h => by rw [← hAe]; exact Or.inr h
  have hS : va_S A s.heap s.heap [] := va_S.rf
  have hl := lv_entry ([.ref h0, .int (nI v), .int (nI q)]) (n := 4) (Nat.le_of_ble_eq_true rfl)
  rw [lg_entry_eq]
  generalize (lg_sl ([.ref h0, .int (nI v), .int (nI q)]) ++ List.replicate (4 - (lg_sl ([.ref h0, .int (nI v), .int (nI q)])).length) Slot.unset).toArray = ls at hl ⊢
  have hP : va_P (dC, dI) vwCl [(h0, .inr (0, [.int (nI gW), .int (nI gC), .int (nI gV), .int (nI gB), .ref hs, .int (nI gM), .int (nI gI), .ref hd])), (hs, .inl (a1, gW, .inl st)), (hd, .inr (1, [.ref hc, .int d.2.1, .int d.2.2.1, .int d.2.2.2.1, .int d.2.2.2.2])), (hc, .inl (a2, (gI + 4), .inl d.1))] s.heap := hP
  have hD : va_D A [(h0, .inr (0, [.int (nI gW), .int (nI gC), .int (nI gV), .int (nI gB), .ref hs, .int (nI gM), .int (nI gI), .ref hd])), (hs, .inl (a1, gW, .inl st)), (hd, .inr (1, [.ref hc, .int d.2.1, .int d.2.2.1, .int d.2.2.2.1, .int d.2.2.2.2])), (hc, .inl (a2, (gI + 4), .inl d.1))] := hD
  have hl : lv_has ls 4 [(0, .ref h0), (1, .int (nI v)), (2, .int (nI q))] := hl
  obtain ⟨⟨hW1, hW2⟩, ⟨hC1, hC2⟩, ⟨hV1, hV2⟩, ⟨hB1, hB2⟩, eM, eI⟩ := id hg
  obtain ⟨hM2, hq2⟩ := geo_b hg
  refine lv_iconst (v := 0) hx hb dX0_mapVolumeAs_0 (by decide) ?_
  refine lv_istore_n (lv' := [(3, .int 0), (0, .ref h0), (1, .int (nI v)), (2, .int (nI q))]) hx hb dX0_mapVolumeAs_1 rfl hl (by decide) rfl (fun ls hl => ?_)
  have hl : lv_has ls 4 [(3, .int (nI 0)), (0, .ref h0), (1, .int (nI v)), (2, .int (nI q))] := hl
  refine lp_X0_mapVolumeAs_2 h0 hs hd hc a1 a2 gW gC gV gB gM gI hg st d v q hv hq hx hb hml hown hts hK hN hA  (fun  H locs ls  hP hD hS hl => ?_) (gB + 1) 0 _ _ _ (by omega) (by omega) hP hD hS (lv_sub hl [1, 2, 3, 0] rfl)
  · have hP : va_P (dC, dI) vwCl [(h0, .inr (0, [.int (nI gW), .int (nI gC), .int (nI gV), .int (nI gB), .ref hs, .int (nI gM), .int (nI gI), .ref hd])), (hs, .inl (a1, gW, .inl st)), (hd, .inr (1, [.ref hc, .int ((dk_as gM gB v q d gB).2.1), .int ((dk_as gM gB v q d gB).2.2.1), .int ((dk_as gM gB v q d gB).2.2.2.1), .int ((dk_as gM gB v q d gB).2.2.2.2)])), (hc, .inl (a2, (gI + 4), .inl ((dk_as gM gB v q d gB).1)))] H := hP
    have hD : va_D A [(h0, .inr (0, [.int (nI gW), .int (nI gC), .int (nI gV), .int (nI gB), .ref hs, .int (nI gM), .int (nI gI), .ref hd])), (hs, .inl (a1, gW, .inl st)), (hd, .inr (1, [.ref hc, .int ((dk_as gM gB v q d gB).2.1), .int ((dk_as gM gB v q d gB).2.2.1), .int ((dk_as gM gB v q d gB).2.2.2.1), .int ((dk_as gM gB v q d gB).2.2.2.2)])), (hc, .inl (a2, (gI + 4), .inl ((dk_as gM gB v q d gB).1)))] := hD
    exact W.vret hx hb hr (fun t ht hW => ⟨⟨(st, (dk_as gM gB v q d gB)), rfl, rfl, by rw [ht]; exact hP, hD⟩, hS.F ht⟩) hS.2.2 dX0_mapVolumeAs_28
set_option maxHeartbeats 4000000 in
set_option maxRecDepth 100000 in
theorem lp_X0_unmapVolume_2 {p : Program} {l : Launch} {e : Env} {s : State} {m : MethodId} {args : Array Value} {below : List Frame} {meth : Method} {c : Code} {Q : State → Prop} {A : Nat → Prop} {dC : Nat → ClassId} {dI : Nat → Nat → Nat} (h0 hs hd hc : Nat) (a1 a2 : ClassId) (gW gC gV gB gM gI : Nat) (hg : geo gW gC gV gB gM gI) (st : Nat → Int32) (d : DS) (v : Nat) (hv : v < gV) (hx : p.tables.exec = Jvm.exec) (hb : c.code = cX0_unmapVolume) (hml : c.maxLocals = 3) (hown : s.vm.findClass RX0 = some m.cls) (hts : ∀ w ∈ TBG, w.before args s = true) (hK : va_K (dC, dI) vwCl [(a1, .int), (a2, .int)] s) (hN : nwOk nwL s) (hA : ∀ q : Nat, s.heap.size ≤ q → A q)  (K : ∀  (H : Heap) (locs : List Loc) (ls : Array Slot), va_P (dC, dI) vwCl (xo_w h0 hs hd hc a1 a2 gW gC gV gB gM gI (st, (dk_un gM gB v d gB))) H → va_D A (xo_w h0 hs hd hc a1 a2 gW gC gV gB gM gI (st, (dk_un gM gB v d gB))) → va_S A s.heap H locs → lv_has ls 3 [(0, .ref h0)] → W p l e ({ frames := 2, cells := 0, slots := 0, locals := 45 } : Room) s m args below meth c H locs 0 0 Q (F0 m 23 ls [])) : ∀ (n : Nat) (i : Nat) (H : Heap) (locs : List Loc) (ls : Array Slot), gB - i < n → (i ≤ gB) → va_P (dC, dI) vwCl (xo_w h0 hs hd hc a1 a2 gW gC gV gB gM gI (st, (dk_un gM gB v d i))) H → va_D A (xo_w h0 hs hd hc a1 a2 gW gC gV gB gM gI (st, (dk_un gM gB v d i))) → va_S A s.heap H locs → lv_has ls 3 [(0, .ref h0), (1, .int (nI v)), (2, .int (nI i))] → W p l e ({ frames := 2, cells := 0, slots := 0, locals := 45 } : Room) s m args below meth c H locs 0 0 Q (F0 m 2 ls []) := by
  obtain ⟨⟨hW1, hW2⟩, ⟨hC1, hC2⟩, ⟨hV1, hV2⟩, ⟨hB1, hB2⟩, eM, eI⟩ := id hg
  obtain ⟨hM2, hq2⟩ := geo_b hg
  intro n
  induction n with
  | zero => intro i H locs ls hfu; exact absurd hfu (by omega)
  | succ n ih =>
    intro i H locs ls hfu hi hP hD hS hl
    have hP : va_P (dC, dI) vwCl [(h0, .inr (0, [.int (nI gW), .int (nI gC), .int (nI gV), .int (nI gB), .ref hs, .int (nI gM), .int (nI gI), .ref hd])), (hs, .inl (a1, gW, .inl st)), (hd, .inr (1, [.ref hc, .int ((dk_un gM gB v d i).2.1), .int ((dk_un gM gB v d i).2.2.1), .int ((dk_un gM gB v d i).2.2.2.1), .int ((dk_un gM gB v d i).2.2.2.2)])), (hc, .inl (a2, (gI + 4), .inl ((dk_un gM gB v d i).1)))] H := hP
    have hD : va_D A [(h0, .inr (0, [.int (nI gW), .int (nI gC), .int (nI gV), .int (nI gB), .ref hs, .int (nI gM), .int (nI gI), .ref hd])), (hs, .inl (a1, gW, .inl st)), (hd, .inr (1, [.ref hc, .int ((dk_un gM gB v d i).2.1), .int ((dk_un gM gB v d i).2.2.1), .int ((dk_un gM gB v d i).2.2.2.1), .int ((dk_un gM gB v d i).2.2.2.2)])), (hc, .inl (a2, (gI + 4), .inl ((dk_un gM gB v d i).1)))] := hD
    refine lv_iload_n hx hb dX0_unmapVolume_2 rfl (lv_at hl 2 rfl) ?_
    refine lv_aload_n hx hb dX0_unmapVolume_3 rfl (lv_at hl 0 rfl) ?_
    refine va_get (D := (dC, dI)) (ci := 0) (v := .int (nI gB)) (C := RX0) (T := TX0) (N := 8) hx hb hts inX0 hown hK hP 0 rfl rfl 3 (by decide) (hts _ tb_49) (fun _ h9 => h9) rfl dX0_unmapVolume_4 ?_
    refine lv_icmp_ge (tgt := 23) hx hb dX0_unmapVolume_7 (by decide) (fun c_1 => ?_) (fun c_1 => ?_)
    · have c_1 : gB ≤ i := (nI_leI (a := gB) (b := i) (by omega) (by omega)).mp c_1
      have hie : i = gB := by omega
      rw [hie] at hP hD
      exact K  _ _ _  hP hD hS (lv_sub hl [0] rfl)
    · have c_1 : ¬ (gB ≤ i) := fun q9 => c_1 ((nI_leI (a := gB) (b := i) (by omega) (by omega)).mpr q9)
      refine lv_aload_n hx hb dX0_unmapVolume_10 rfl (lv_at hl 0 rfl) ?_
      refine lv_iload_n hx hb dX0_unmapVolume_11 rfl (lv_at hl 1 rfl) ?_
      refine lv_iload_n hx hb dX0_unmapVolume_12 rfl (lv_at hl 2 rfl) ?_
      refine lv_iconst (v := (-1)) hx hb dX0_unmapVolume_13 (by decide) ?_
      refine xr_v (D := (dC, dI)) (wf := (xo_w h0 hs hd hc a1 a2 gW gC gV gB gM gI)) (u0 := (st, (dk_un gM gB v d i))) (wr := []) (va_runV (As := [.int (nI v), .int (nI i), .int (-1)]) (rest := []) ⟨hx, hb, hml, hown, hts⟩ (k_X0_mapBlock l dC dI h0 hs hd hc a1 a2 gW gC gV gB gM gI hg H.size st (dk_un gM gB v d i) v i (by omega) (by omega) (-1)) (cwV 3 hts gX0_138 rfl rfl rfl (by decide +kernel) ⟨Nat.le_of_ble_eq_true rfl, Nat.le_of_ble_eq_true rfl⟩) (xp_v nwL_ok hK hN hP hD [0, 1, 2, 3] rfl rfl (va_recv hK hP (ci := 0) (q0 := 0) rfl rfl)) rfl rfl hl.1 rfl (lv_room (Nat.le_of_ble_eq_true rfl)) dX0_unmapVolume_14 ⟨Nat.zero_le _, Nat.zero_le _⟩) hP hD hS hA [0, 1, 2, 3] [] rfl rfl (by decide) (by decide) (fun u_3 H locs hw hP hD hS => ?_)
      obtain ⟨d_4, ed_4⟩ : ∃ z, z = dk_write (dk_un gM gB v d i) (gM + v * gB + i) ((-1) + 1) := ⟨_, rfl⟩
      rw [hw, ← ed_4] at hP hD
      have hP : va_P (dC, dI) vwCl [(h0, .inr (0, [.int (nI gW), .int (nI gC), .int (nI gV), .int (nI gB), .ref hs, .int (nI gM), .int (nI gI), .ref hd])), (hs, .inl (a1, gW, .inl st)), (hd, .inr (1, [.ref hc, .int d_4.2.1, .int d_4.2.2.1, .int d_4.2.2.2.1, .int d_4.2.2.2.2])), (hc, .inl (a2, (gI + 4), .inl d_4.1))] H := hP
      have hD : va_D A [(h0, .inr (0, [.int (nI gW), .int (nI gC), .int (nI gV), .int (nI gB), .ref hs, .int (nI gM), .int (nI gI), .ref hd])), (hs, .inl (a1, gW, .inl st)), (hd, .inr (1, [.ref hc, .int d_4.2.1, .int d_4.2.2.1, .int d_4.2.2.2.1, .int d_4.2.2.2.2])), (hc, .inl (a2, (gI + 4), .inl d_4.1))] := hD
      refine lv_iinc (v := nI (i + 1)) (lv' := [(2, .int (nI (i + 1))), (0, .ref h0), (1, .int (nI v))]) hx hb dX0_unmapVolume_17 hl (k := 2) rfl (nI_1 i) (by decide) rfl (fun ls hl => ?_)
      have e9 : d_4 = dk_un gM gB v d (i + 1) := ed_4
      rw [e9] at hP hD
      refine lv_goto (tgt := 2) hx hb dX0_unmapVolume_20 (by decide) ?_
      exact ih (i + 1) _ _ _ (by omega) (by omega) hP hD hS (lv_sub hl [1, 2, 0] rfl)
set_option maxHeartbeats 4000000 in
set_option maxRecDepth 100000 in
theorem k_X0_unmapVolume (l : Launch) (dC : Nat → ClassId) (dI : Nat → Nat → Nat) (h0 hs hd hc : Nat) (a1 a2 : ClassId) (gW gC gV gB gM gI : Nat) (hg : geo gW gC gV gB gM gI) (sz : Nat) (st : Nat → Int32) (d : DS) (v : Nat) (hv : v < gV) : ctV nwL l yX0_unmapVolume wsX0_unmapVolume ({ frames := 2, cells := 0, slots := 0, locals := 45 } : Room) (dC, dI) [(a1, .int), (a2, .int)] (xo_w h0 hs hd hc a1 a2 gW gC gV gB gM gI) (st, d) sz [.ref h0, .int (nI v)] (fun (u : XS) => u = (st, dk_un gM gB v d gB)) := by
  refine Met.ofW (cc := cX0_unmapVolume) (maxL := 3) (ret := none) (by decide) rfl ?_
  intro p e s m args below meth c s₁ B hml hv
  obtain ⟨rfl, hsz, hP, hK, hD0, hN⟩ := hv
  have hx := B.exec
  have hb := B.bytes
  have hr := B.returns
  have hts := fun w h => atoms_spec (ws := wsX0_unmapVolume) B.pre w (List.mem_cons_of_mem _ h)
  have hown : s.vm.findClass RX0 = some m.cls := findClass_of_methodNamed B.named
  have hlocks := B.notSynchronized
  subst hsz
  have hD := hD0.self (sz := s.heap.size)
  generalize hAe : va_A ((xo_w h0 hs hd hc a1 a2 gW gC gV gB gM gI) (st, d)) s.heap.size = A at hD ⊢
  have hA : ∀ q : Nat, s.heap.size ≤ q → A q := fun q h => by rw [← hAe]; exact Or.inr h
  have hS : va_S A s.heap s.heap [] := va_S.rf
  have hl := lv_entry ([.ref h0, .int (nI v)]) (n := 3) (Nat.le_of_ble_eq_true rfl)
  rw [lg_entry_eq]
  generalize (lg_sl ([.ref h0, .int (nI v)]) ++ List.replicate (3 - (lg_sl ([.ref h0, .int (nI v)])).length) Slot.unset).toArray = ls at hl ⊢
  have hP : va_P (dC, dI) vwCl [(h0, .inr (0, [.int (nI gW), .int (nI gC), .int (nI gV), .int (nI gB), .ref hs, .int (nI gM), .int (nI gI), .ref hd])), (hs, .inl (a1, gW, .inl st)), (hd, .inr (1, [.ref hc, .int d.2.1, .int d.2.2.1, .int d.2.2.2.1, .int d.2.2.2.2])), (hc, .inl (a2, (gI + 4), .inl d.1))] s.heap := hP
  have hD : va_D A [(h0, .inr (0, [.int (nI gW), .int (nI gC), .int (nI gV), .int (nI gB), .ref hs, .int (nI gM), .int (nI gI), .ref hd])), (hs, .inl (a1, gW, .inl st)), (hd, .inr (1, [.ref hc, .int d.2.1, .int d.2.2.1, .int d.2.2.2.1, .int d.2.2.2.2])), (hc, .inl (a2, (gI + 4), .inl d.1))] := hD
  have hl : lv_has ls 3 [(0, .ref h0), (1, .int (nI v))] := hl
  obtain ⟨⟨hW1, hW2⟩, ⟨hC1, hC2⟩, ⟨hV1, hV2⟩, ⟨hB1, hB2⟩, eM, eI⟩ := id hg
  obtain ⟨hM2, hq2⟩ := geo_b hg
  refine lv_iconst (v := 0) hx hb dX0_unmapVolume_0 (by decide) ?_
  refine lv_istore_n (lv' := [(2, .int 0), (0, .ref h0), (1, .int (nI v))]) hx hb dX0_unmapVolume_1 rfl hl (by decide) rfl (fun ls hl => ?_)
  have hl : lv_has ls 3 [(2, .int (nI 0)), (0, .ref h0), (1, .int (nI v))] := hl
  refine lp_X0_unmapVolume_2 h0 hs hd hc a1 a2 gW gC gV gB gM gI hg st d v hv hx hb hml hown hts hK hN hA  (fun  H locs ls  hP hD hS hl => ?_) (gB + 1) 0 _ _ _ (by omega) (by omega) hP hD hS (lv_sub hl [1, 2, 0] rfl)
  · have hP : va_P (dC, dI) vwCl [(h0, .inr (0, [.int (nI gW), .int (nI gC), .int (nI gV), .int (nI gB), .ref hs, .int (nI gM), .int (nI gI), .ref hd])), (hs, .inl (a1, gW, .inl st)), (hd, .inr (1, [.ref hc, .int ((dk_un gM gB v d gB).2.1), .int ((dk_un gM gB v d gB).2.2.1), .int ((dk_un gM gB v d gB).2.2.2.1), .int ((dk_un gM gB v d gB).2.2.2.2)])), (hc, .inl (a2, (gI + 4), .inl ((dk_un gM gB v d gB).1)))] H := hP
    have hD : va_D A [(h0, .inr (0, [.int (nI gW), .int (nI gC), .int (nI gV), .int (nI gB), .ref hs, .int (nI gM), .int (nI gI), .ref hd])), (hs, .inl (a1, gW, .inl st)), (hd, .inr (1, [.ref hc, .int ((dk_un gM gB v d gB).2.1), .int ((dk_un gM gB v d gB).2.2.1), .int ((dk_un gM gB v d gB).2.2.2.1), .int ((dk_un gM gB v d gB).2.2.2.2)])), (hc, .inl (a2, (gI + 4), .inl ((dk_un gM gB v d gB).1)))] := hD
    exact W.vret hx hb hr (fun t ht hW => ⟨⟨(st, (dk_un gM gB v d gB)), rfl, rfl, by rw [ht]; exact hP, hD⟩, hS.F ht⟩) hS.2.2 dX0_unmapVolume_23
set_option maxHeartbeats 4000000 in
set_option maxRecDepth 100000 in
theorem k_X0_carryOutIntent (l : Launch) (dC : Nat → ClassId) (dI : Nat → Nat → Nat) (h0 hs hd hc : Nat) (a1 a2 : ClassId) (gW gC gV gB gM gI : Nat) (hg : geo gW gC gV gB gM gI) (sz : Nat) (st : Nat → Int32) (d : DS) (hok : okI d gV gB gI) : ctV nwL l yX0_carryOutIntent wsX0_carryOutIntent ({ frames := 3, cells := 0, slots := 0, locals := 68 } : Room) (dC, dI) [(a1, .int), (a2, .int)] (xo_w h0 hs hd hc a1 a2 gW gC gV gB gM gI) (st, d) sz [.ref h0] (fun (u : XS) => u = (st, carry d gM gB gI)) := by
  refine Met.ofW (cc := cX0_carryOutIntent) (maxL := 4) (ret := none) (by decide) rfl ?_
  intro p e s m args below meth c s₁ B hml hv
  obtain ⟨rfl, hsz, hP, hK, hD0, hN⟩ := hv
  have hx := B.exec
  have hb := B.bytes
  have hr := B.returns
  have hts := fun w h => atoms_spec (ws := wsX0_carryOutIntent) B.pre w (List.mem_cons_of_mem _ h)
  have hown : s.vm.findClass RX0 = some m.cls := findClass_of_methodNamed B.named
  have hlocks := B.notSynchronized
  subst hsz
  have hD := hD0.self (sz := s.heap.size)
  generalize hAe : va_A ((xo_w h0 hs hd hc a1 a2 gW gC gV gB gM gI) (st, d)) s.heap.size = A at hD ⊢
  have hA : ∀ q : Nat, s.heap.size ≤ q → A q := fun q h => by rw [← hAe]; exact Or.inr h
  have hS : va_S A s.heap s.heap [] := va_S.rf
  have hl := lv_entry ([.ref h0]) (n := 4) (Nat.le_of_ble_eq_true rfl)
  rw [lg_entry_eq]
  generalize (lg_sl ([.ref h0]) ++ List.replicate (4 - (lg_sl ([.ref h0])).length) Slot.unset).toArray = ls at hl ⊢
  have hP : va_P (dC, dI) vwCl [(h0, .inr (0, [.int (nI gW), .int (nI gC), .int (nI gV), .int (nI gB), .ref hs, .int (nI gM), .int (nI gI), .ref hd])), (hs, .inl (a1, gW, .inl st)), (hd, .inr (1, [.ref hc, .int d.2.1, .int d.2.2.1, .int d.2.2.2.1, .int d.2.2.2.2])), (hc, .inl (a2, (gI + 4), .inl d.1))] s.heap := hP
  have hD : va_D A [(h0, .inr (0, [.int (nI gW), .int (nI gC), .int (nI gV), .int (nI gB), .ref hs, .int (nI gM), .int (nI gI), .ref hd])), (hs, .inl (a1, gW, .inl st)), (hd, .inr (1, [.ref hc, .int d.2.1, .int d.2.2.1, .int d.2.2.2.1, .int d.2.2.2.2])), (hc, .inl (a2, (gI + 4), .inl d.1))] := hD
  have hl : lv_has ls 4 [(0, .ref h0)] := hl
  obtain ⟨⟨hW1, hW2⟩, ⟨hC1, hC2⟩, ⟨hV1, hV2⟩, ⟨hB1, hB2⟩, eM, eI⟩ := id hg
  obtain ⟨hM2, hq2⟩ := geo_b hg
  refine lv_aload_n hx hb dX0_carryOutIntent_0 rfl (lv_at hl 0 rfl) ?_
  refine va_get (D := (dC, dI)) (ci := 0) (v := .ref hd) (C := RX0) (T := TX0) (N := 8) hx hb hts inX0 hown hK hP 0 rfl rfl 7 (by decide) (hts _ tb_53) (fun _ h9 => h9) rfl dX0_carryOutIntent_1 ?_
  refine lv_aload_n hx hb dX0_carryOutIntent_4 rfl (lv_at hl 0 rfl) ?_
  refine va_get (D := (dC, dI)) (ci := 0) (v := .int (nI gI)) (C := RX0) (T := TX0) (N := 8) hx hb hts inX0 hown hK hP 0 rfl rfl 6 (by decide) (hts _ tb_52) (fun _ h9 => h9) rfl dX0_carryOutIntent_5 ?_
  refine lv_iconst (v := 3) hx hb dX0_carryOutIntent_8 (by decide) ?_
  refine lv_iadd hx hb dX0_carryOutIntent_9 ?_
  refine lv_topi (fun z_1 ez_1 => ?_)
  obtain rfl : z_1 = nI (gI + 3) := ez_1.trans (nI_add gI 3)
  refine xr_i (D := (dC, dI)) (wf := (dk_w hd hc a2 (gI + 4))) (u0 := d) (wr := [(h0, .inr (0, [.int (nI gW), .int (nI gC), .int (nI gV), .int (nI gB), .ref hs, .int (nI gM), .int (nI gI), .ref hd])), (hs, .inl (a1, gW, .inl st))]) (va_runVN (As := [.int (nI (gI + 3))]) (rest := []) ⟨hx, hb, hml, hown, hts⟩ (k_X1_read l dC dI hd hc a2 (gI + 4) (by omega) s.heap.size d (gI + 3) (by omega)) ⟨va_cnB 1 hts gX0_80 rfl rfl rfl (hN _ nn_80) (hts _ tb_3) (by decide +kernel) ⟨Nat.le_of_ble_eq_true rfl, Nat.le_of_ble_eq_true rfl⟩, hts _ tb_125, hts _ ts_9⟩ (xp_v nwL_ok (hK.sub (tys' := [(a2, .int)]) [1] rfl) hN hP hD [2, 3] rfl rfl (va_recv hK hP (ci := 1) (q0 := 2) rfl rfl)) rfl rfl hl.1 rfl (lv_room (Nat.le_of_ble_eq_true rfl)) dX0_carryOutIntent_10 ⟨Nat.zero_le _, Nat.zero_le _⟩) hP hD hS hA [2, 3] [0, 1] rfl rfl (by decide) (by decide) (fun r_2 u_3 H locs hw hP hD hS => ?_)
  obtain ⟨er_2, eu_3⟩ := hw
  rw [eu_3] at hP hD
  rw [er_2]
  have hP : va_P (dC, dI) vwCl [(h0, .inr (0, [.int (nI gW), .int (nI gC), .int (nI gV), .int (nI gB), .ref hs, .int (nI gM), .int (nI gI), .ref hd])), (hs, .inl (a1, gW, .inl st)), (hd, .inr (1, [.ref hc, .int d.2.1, .int d.2.2.1, .int d.2.2.2.1, .int d.2.2.2.2])), (hc, .inl (a2, (gI + 4), .inl d.1))] H := hP
  have hD : va_D A [(h0, .inr (0, [.int (nI gW), .int (nI gC), .int (nI gV), .int (nI gB), .ref hs, .int (nI gM), .int (nI gI), .ref hd])), (hs, .inl (a1, gW, .inl st)), (hd, .inr (1, [.ref hc, .int d.2.1, .int d.2.2.1, .int d.2.2.2.1, .int d.2.2.2.2])), (hc, .inl (a2, (gI + 4), .inl d.1))] := hD
  refine lv_istore_n (lv' := [(1, .int (d.1 (gI + 3))), (0, .ref h0)]) hx hb dX0_carryOutIntent_13 rfl hl (by decide) rfl (fun ls hl => ?_)
  refine lv_iload_n hx hb dX0_carryOutIntent_14 rfl (lv_at hl 0 rfl) ?_
  refine lv_if_ne (tgt := 19) hx hb dX0_carryOutIntent_15 (by decide) (fun c_4 => ?_) (fun c_4 => ?_)
  · refine lv_aload_n hx hb dX0_carryOutIntent_19 rfl (lv_at hl 1 rfl) ?_
    refine va_get (D := (dC, dI)) (ci := 0) (v := .ref hd) (C := RX0) (T := TX0) (N := 8) hx hb hts inX0 hown hK hP 0 rfl rfl 7 (by decide) (hts _ tb_53) (fun _ h9 => h9) rfl dX0_carryOutIntent_20 ?_
    refine lv_aload_n hx hb dX0_carryOutIntent_23 rfl (lv_at hl 1 rfl) ?_
    refine va_get (D := (dC, dI)) (ci := 0) (v := .int (nI gI)) (C := RX0) (T := TX0) (N := 8) hx hb hts inX0 hown hK hP 0 rfl rfl 6 (by decide) (hts _ tb_52) (fun _ h9 => h9) rfl dX0_carryOutIntent_24 ?_
    refine xr_i (D := (dC, dI)) (wf := (dk_w hd hc a2 (gI + 4))) (u0 := d) (wr := [(h0, .inr (0, [.int (nI gW), .int (nI gC), .int (nI gV), .int (nI gB), .ref hs, .int (nI gM), .int (nI gI), .ref hd])), (hs, .inl (a1, gW, .inl st))]) (va_runVN (As := [.int (nI gI)]) (rest := []) ⟨hx, hb, hml, hown, hts⟩ (k_X1_read l dC dI hd hc a2 (gI + 4) (by omega) H.size d (gI) (by omega)) ⟨va_cnB 1 hts gX0_80 rfl rfl rfl (hN _ nn_80) (hts _ tb_3) (by decide +kernel) ⟨Nat.le_of_ble_eq_true rfl, Nat.le_of_ble_eq_true rfl⟩, hts _ tb_125, hts _ ts_9⟩ (xp_v nwL_ok (hK.sub (tys' := [(a2, .int)]) [1] rfl) hN hP hD [2, 3] rfl rfl (va_recv hK hP (ci := 1) (q0 := 2) rfl rfl)) rfl rfl hl.1 rfl (lv_room (Nat.le_of_ble_eq_true rfl)) dX0_carryOutIntent_27 ⟨Nat.zero_le _, Nat.zero_le _⟩) hP hD hS hA [2, 3] [0, 1] rfl rfl (by decide) (by decide) (fun r_5 u_6 H locs hw hP hD hS => ?_)
    obtain ⟨er_5, eu_6⟩ := hw
    rw [eu_6] at hP hD
    rw [er_5]
    have hP : va_P (dC, dI) vwCl [(h0, .inr (0, [.int (nI gW), .int (nI gC), .int (nI gV), .int (nI gB), .ref hs, .int (nI gM), .int (nI gI), .ref hd])), (hs, .inl (a1, gW, .inl st)), (hd, .inr (1, [.ref hc, .int d.2.1, .int d.2.2.1, .int d.2.2.2.1, .int d.2.2.2.2])), (hc, .inl (a2, (gI + 4), .inl d.1))] H := hP
    have hD : va_D A [(h0, .inr (0, [.int (nI gW), .int (nI gC), .int (nI gV), .int (nI gB), .ref hs, .int (nI gM), .int (nI gI), .ref hd])), (hs, .inl (a1, gW, .inl st)), (hd, .inr (1, [.ref hc, .int d.2.1, .int d.2.2.1, .int d.2.2.2.1, .int d.2.2.2.2])), (hc, .inl (a2, (gI + 4), .inl d.1))] := hD
    refine lv_istore_n (lv' := [(2, .int (d.1 (gI))), (1, .int (d.1 (gI + 3))), (0, .ref h0)]) hx hb dX0_carryOutIntent_30 rfl hl (by decide) rfl (fun ls hl => ?_)
    refine lv_aload_n hx hb dX0_carryOutIntent_31 rfl (lv_at hl 2 rfl) ?_
    refine va_get (D := (dC, dI)) (ci := 0) (v := .ref hd) (C := RX0) (T := TX0) (N := 8) hx hb hts inX0 hown hK hP 0 rfl rfl 7 (by decide) (hts _ tb_53) (fun _ h9 => h9) rfl dX0_carryOutIntent_32 ?_
    refine lv_aload_n hx hb dX0_carryOutIntent_35 rfl (lv_at hl 2 rfl) ?_
    refine va_get (D := (dC, dI)) (ci := 0) (v := .int (nI gI)) (C := RX0) (T := TX0) (N := 8) hx hb hts inX0 hown hK hP 0 rfl rfl 6 (by decide) (hts _ tb_52) (fun _ h9 => h9) rfl dX0_carryOutIntent_36 ?_
    refine lv_iconst (v := 1) hx hb dX0_carryOutIntent_39 (by decide) ?_
    refine lv_iadd hx hb dX0_carryOutIntent_40 ?_
    refine lv_topi (fun z_7 ez_7 => ?_)
    obtain rfl : z_7 = nI (gI + 1) := ez_7.trans (nI_1 gI)
    refine xr_i (D := (dC, dI)) (wf := (dk_w hd hc a2 (gI + 4))) (u0 := d) (wr := [(h0, .inr (0, [.int (nI gW), .int (nI gC), .int (nI gV), .int (nI gB), .ref hs, .int (nI gM), .int (nI gI), .ref hd])), (hs, .inl (a1, gW, .inl st))]) (va_runVN (As := [.int (nI (gI + 1))]) (rest := []) ⟨hx, hb, hml, hown, hts⟩ (k_X1_read l dC dI hd hc a2 (gI + 4) (by omega) H.size d (gI + 1) (by omega)) ⟨va_cnB 1 hts gX0_80 rfl rfl rfl (hN _ nn_80) (hts _ tb_3) (by decide +kernel) ⟨Nat.le_of_ble_eq_true rfl, Nat.le_of_ble_eq_true rfl⟩, hts _ tb_125, hts _ ts_9⟩ (xp_v nwL_ok (hK.sub (tys' := [(a2, .int)]) [1] rfl) hN hP hD [2, 3] rfl rfl (va_recv hK hP (ci := 1) (q0 := 2) rfl rfl)) rfl rfl hl.1 rfl (lv_room (Nat.le_of_ble_eq_true rfl)) dX0_carryOutIntent_41 ⟨Nat.zero_le _, Nat.zero_le _⟩) hP hD hS hA [2, 3] [0, 1] rfl rfl (by decide) (by decide) (fun r_8 u_9 H locs hw hP hD hS => ?_)
    obtain ⟨er_8, eu_9⟩ := hw
    rw [eu_9] at hP hD
    rw [er_8]
    have hP : va_P (dC, dI) vwCl [(h0, .inr (0, [.int (nI gW), .int (nI gC), .int (nI gV), .int (nI gB), .ref hs, .int (nI gM), .int (nI gI), .ref hd])), (hs, .inl (a1, gW, .inl st)), (hd, .inr (1, [.ref hc, .int d.2.1, .int d.2.2.1, .int d.2.2.2.1, .int d.2.2.2.2])), (hc, .inl (a2, (gI + 4), .inl d.1))] H := hP
    have hD : va_D A [(h0, .inr (0, [.int (nI gW), .int (nI gC), .int (nI gV), .int (nI gB), .ref hs, .int (nI gM), .int (nI gI), .ref hd])), (hs, .inl (a1, gW, .inl st)), (hd, .inr (1, [.ref hc, .int d.2.1, .int d.2.2.1, .int d.2.2.2.1, .int d.2.2.2.2])), (hc, .inl (a2, (gI + 4), .inl d.1))] := hD
    refine lv_istore_n (lv' := [(3, .int (d.1 (gI + 1))), (2, .int (d.1 (gI))), (1, .int (d.1 (gI + 3))), (0, .ref h0)]) hx hb dX0_carryOutIntent_44 rfl hl (by decide) rfl (fun ls hl => ?_)
    obtain ⟨v, hv, ev⟩ := (hok c_4).1
    have hl : lv_has ls 4 [(3, .int (d.1 (gI + 1))), (2, .int (nI v)), (1, .int (d.1 (gI + 3))), (0, .ref h0)] := by have q9 := hl; rw [ev] at q9; exact q9
    refine lv_iload_n hx hb dX0_carryOutIntent_45 rfl (lv_at hl 2 rfl) ?_
    refine lv_iconst (v := 1) hx hb dX0_carryOutIntent_46 (by decide) ?_
    refine lv_icmp_ne (tgt := 72) hx hb dX0_carryOutIntent_47 (by decide) (fun c_10 => ?_) (fun c_10 => ?_)
    · refine lv_iload_n hx hb dX0_carryOutIntent_72 rfl (lv_at hl 2 rfl) ?_
      refine lv_iconst (v := 2) hx hb dX0_carryOutIntent_73 (by decide) ?_
      refine lv_icmp_ne (tgt := 86) hx hb dX0_carryOutIntent_74 (by decide) (fun c_11 => ?_) (fun c_11 => ?_)
      · refine lv_aload_n hx hb dX0_carryOutIntent_86 rfl (lv_at hl 3 rfl) ?_
        refine lv_iload_n hx hb dX0_carryOutIntent_87 rfl (lv_at hl 1 rfl) ?_
        refine xr_v (D := (dC, dI)) (wf := (xo_w h0 hs hd hc a1 a2 gW gC gV gB gM gI)) (u0 := (st, d)) (wr := []) (va_runV (As := [.int (nI v)]) (rest := []) ⟨hx, hb, hml, hown, hts⟩ (k_X0_unmapVolume l dC dI h0 hs hd hc a1 a2 gW gC gV gB gM gI hg H.size st d v hv) (cwV 1 hts gX0_145 rfl rfl rfl (by decide +kernel) ⟨Nat.le_of_ble_eq_true rfl, Nat.le_of_ble_eq_true rfl⟩) (xp_v nwL_ok hK hN hP hD [0, 1, 2, 3] rfl rfl (va_recv hK hP (ci := 0) (q0 := 0) rfl rfl)) rfl rfl hl.1 rfl (lv_room (Nat.le_of_ble_eq_true rfl)) dX0_carryOutIntent_88 ⟨Nat.zero_le _, Nat.zero_le _⟩) hP hD hS hA [0, 1, 2, 3] [] rfl rfl (by decide) (by decide) (fun u_13 H locs hw hP hD hS => ?_)
        obtain ⟨d_14, ed_14⟩ : ∃ z, z = dk_un gM gB v d gB := ⟨_, rfl⟩
        rw [hw, ← ed_14] at hP hD
        have hP : va_P (dC, dI) vwCl [(h0, .inr (0, [.int (nI gW), .int (nI gC), .int (nI gV), .int (nI gB), .ref hs, .int (nI gM), .int (nI gI), .ref hd])), (hs, .inl (a1, gW, .inl st)), (hd, .inr (1, [.ref hc, .int d_14.2.1, .int d_14.2.2.1, .int d_14.2.2.2.1, .int d_14.2.2.2.2])), (hc, .inl (a2, (gI + 4), .inl d_14.1))] H := hP
        have hD : va_D A [(h0, .inr (0, [.int (nI gW), .int (nI gC), .int (nI gV), .int (nI gB), .ref hs, .int (nI gM), .int (nI gI), .ref hd])), (hs, .inl (a1, gW, .inl st)), (hd, .inr (1, [.ref hc, .int d_14.2.1, .int d_14.2.2.1, .int d_14.2.2.2.1, .int d_14.2.2.2.2])), (hc, .inl (a2, (gI + 4), .inl d_14.1))] := hD
        refine lv_aload_n hx hb dX0_carryOutIntent_91 rfl (lv_at hl 3 rfl) ?_
        refine va_get (D := (dC, dI)) (ci := 0) (v := .ref hd) (C := RX0) (T := TX0) (N := 8) hx hb hts inX0 hown hK hP 0 rfl rfl 7 (by decide) (hts _ tb_53) (fun _ h9 => h9) rfl dX0_carryOutIntent_92 ?_
        refine lv_aload_n hx hb dX0_carryOutIntent_95 rfl (lv_at hl 3 rfl) ?_
        refine va_get (D := (dC, dI)) (ci := 0) (v := .int (nI gI)) (C := RX0) (T := TX0) (N := 8) hx hb hts inX0 hown hK hP 0 rfl rfl 6 (by decide) (hts _ tb_52) (fun _ h9 => h9) rfl dX0_carryOutIntent_96 ?_
        refine lv_iconst (v := 3) hx hb dX0_carryOutIntent_99 (by decide) ?_
        refine lv_iadd hx hb dX0_carryOutIntent_100 ?_
        refine lv_topi (fun z_15 ez_15 => ?_)
        obtain rfl : z_15 = nI (gI + 3) := ez_15.trans (nI_add gI 3)
        refine lv_iconst (v := 0) hx hb dX0_carryOutIntent_101 (by decide) ?_
        refine xr_v (D := (dC, dI)) (wf := (dk_w hd hc a2 (gI + 4))) (u0 := d_14) (wr := [(h0, .inr (0, [.int (nI gW), .int (nI gC), .int (nI gV), .int (nI gB), .ref hs, .int (nI gM), .int (nI gI), .ref hd])), (hs, .inl (a1, gW, .inl st))]) (va_runVN (As := [.int (nI (gI + 3)), .int 0]) (rest := []) ⟨hx, hb, hml, hown, hts⟩ (k_X1_write l dC dI hd hc a2 (gI + 4) (by omega) H.size d_14 (gI + 3) (by omega) 0) ⟨va_cnB 2 hts gX0_116 rfl rfl rfl (hN _ nn_116) (hts _ tb_3) (by decide +kernel) ⟨Nat.le_of_ble_eq_true rfl, Nat.le_of_ble_eq_true rfl⟩, hts _ tb_161, hts _ ts_18⟩ (xp_v nwL_ok (hK.sub (tys' := [(a2, .int)]) [1] rfl) hN hP hD [2, 3] rfl rfl (va_recv hK hP (ci := 1) (q0 := 2) rfl rfl)) rfl rfl hl.1 rfl (lv_room (Nat.le_of_ble_eq_true rfl)) dX0_carryOutIntent_102 ⟨Nat.zero_le _, Nat.zero_le _⟩) hP hD hS hA [2, 3] [0, 1] rfl rfl (by decide) (by decide) (fun u_17 H locs hw hP hD hS => ?_)
        obtain ⟨d_18, ed_18⟩ : ∃ z, z = dk_write d_14 (gI + 3) 0 := ⟨_, rfl⟩
        rw [hw, ← ed_18] at hP hD
        have hP : va_P (dC, dI) vwCl [(h0, .inr (0, [.int (nI gW), .int (nI gC), .int (nI gV), .int (nI gB), .ref hs, .int (nI gM), .int (nI gI), .ref hd])), (hs, .inl (a1, gW, .inl st)), (hd, .inr (1, [.ref hc, .int d_18.2.1, .int d_18.2.2.1, .int d_18.2.2.2.1, .int d_18.2.2.2.2])), (hc, .inl (a2, (gI + 4), .inl d_18.1))] H := hP
        have hD : va_D A [(h0, .inr (0, [.int (nI gW), .int (nI gC), .int (nI gV), .int (nI gB), .ref hs, .int (nI gM), .int (nI gI), .ref hd])), (hs, .inl (a1, gW, .inl st)), (hd, .inr (1, [.ref hc, .int d_18.2.1, .int d_18.2.2.1, .int d_18.2.2.2.1, .int d_18.2.2.2.2])), (hc, .inl (a2, (gI + 4), .inl d_18.1))] := hD
        exact W.vret hx hb hr (fun t ht hW => ⟨⟨(st, d_18), rfl, by unfold carry; rw [if_neg c_4, if_neg c_10, if_neg c_11, ev, nI_clamp (n := v) (by omega), ed_18, ed_14], by rw [ht]; exact hP, hD⟩, hS.F ht⟩) hS.2.2 dX0_carryOutIntent_105
      · obtain ⟨q, hq, eq9⟩ := (hok c_4).2.2 c_11
        have hl : lv_has ls 4 [(3, .int (nI q)), (2, .int (nI v)), (1, .int (d.1 (gI + 3))), (0, .ref h0)] := by have q9 := hl; rw [eq9] at q9; exact q9
        refine lv_aload_n hx hb dX0_carryOutIntent_77 rfl (lv_at hl 3 rfl) ?_
        refine lv_iload_n hx hb dX0_carryOutIntent_78 rfl (lv_at hl 1 rfl) ?_
        refine lv_iload_n hx hb dX0_carryOutIntent_79 rfl (lv_at hl 0 rfl) ?_
        refine xr_v (D := (dC, dI)) (wf := (xo_w h0 hs hd hc a1 a2 gW gC gV gB gM gI)) (u0 := (st, d)) (wr := []) (va_runV (As := [.int (nI v), .int (nI q)]) (rest := []) ⟨hx, hb, hml, hown, hts⟩ (k_X0_mapVolumeAs l dC dI h0 hs hd hc a1 a2 gW gC gV gB gM gI hg H.size st d v q hv hq) (cwV 2 hts gX0_142 rfl rfl rfl (by decide +kernel) ⟨Nat.le_of_ble_eq_true rfl, Nat.le_of_ble_eq_true rfl⟩) (xp_v nwL_ok hK hN hP hD [0, 1, 2, 3] rfl rfl (va_recv hK hP (ci := 0) (q0 := 0) rfl rfl)) rfl rfl hl.1 rfl (lv_room (Nat.le_of_ble_eq_true rfl)) dX0_carryOutIntent_80 ⟨Nat.zero_le _, Nat.zero_le _⟩) hP hD hS hA [0, 1, 2, 3] [] rfl rfl (by decide) (by decide) (fun u_20 H locs hw hP hD hS => ?_)
        obtain ⟨d_21, ed_21⟩ : ∃ z, z = dk_as gM gB v q d gB := ⟨_, rfl⟩
        rw [hw, ← ed_21] at hP hD
        have hP : va_P (dC, dI) vwCl [(h0, .inr (0, [.int (nI gW), .int (nI gC), .int (nI gV), .int (nI gB), .ref hs, .int (nI gM), .int (nI gI), .ref hd])), (hs, .inl (a1, gW, .inl st)), (hd, .inr (1, [.ref hc, .int d_21.2.1, .int d_21.2.2.1, .int d_21.2.2.2.1, .int d_21.2.2.2.2])), (hc, .inl (a2, (gI + 4), .inl d_21.1))] H := hP
        have hD : va_D A [(h0, .inr (0, [.int (nI gW), .int (nI gC), .int (nI gV), .int (nI gB), .ref hs, .int (nI gM), .int (nI gI), .ref hd])), (hs, .inl (a1, gW, .inl st)), (hd, .inr (1, [.ref hc, .int d_21.2.1, .int d_21.2.2.1, .int d_21.2.2.2.1, .int d_21.2.2.2.2])), (hc, .inl (a2, (gI + 4), .inl d_21.1))] := hD
        refine lv_goto (tgt := 91) hx hb dX0_carryOutIntent_83 (by decide) ?_
        refine lv_aload_n hx hb dX0_carryOutIntent_91 rfl (lv_at hl 3 rfl) ?_
        refine va_get (D := (dC, dI)) (ci := 0) (v := .ref hd) (C := RX0) (T := TX0) (N := 8) hx hb hts inX0 hown hK hP 0 rfl rfl 7 (by decide) (hts _ tb_53) (fun _ h9 => h9) rfl dX0_carryOutIntent_92 ?_
        refine lv_aload_n hx hb dX0_carryOutIntent_95 rfl (lv_at hl 3 rfl) ?_
        refine va_get (D := (dC, dI)) (ci := 0) (v := .int (nI gI)) (C := RX0) (T := TX0) (N := 8) hx hb hts inX0 hown hK hP 0 rfl rfl 6 (by decide) (hts _ tb_52) (fun _ h9 => h9) rfl dX0_carryOutIntent_96 ?_
        refine lv_iconst (v := 3) hx hb dX0_carryOutIntent_99 (by decide) ?_
        refine lv_iadd hx hb dX0_carryOutIntent_100 ?_
        refine lv_topi (fun z_22 ez_22 => ?_)
        obtain rfl : z_22 = nI (gI + 3) := ez_22.trans (nI_add gI 3)
        refine lv_iconst (v := 0) hx hb dX0_carryOutIntent_101 (by decide) ?_
        refine xr_v (D := (dC, dI)) (wf := (dk_w hd hc a2 (gI + 4))) (u0 := d_21) (wr := [(h0, .inr (0, [.int (nI gW), .int (nI gC), .int (nI gV), .int (nI gB), .ref hs, .int (nI gM), .int (nI gI), .ref hd])), (hs, .inl (a1, gW, .inl st))]) (va_runVN (As := [.int (nI (gI + 3)), .int 0]) (rest := []) ⟨hx, hb, hml, hown, hts⟩ (k_X1_write l dC dI hd hc a2 (gI + 4) (by omega) H.size d_21 (gI + 3) (by omega) 0) ⟨va_cnB 2 hts gX0_116 rfl rfl rfl (hN _ nn_116) (hts _ tb_3) (by decide +kernel) ⟨Nat.le_of_ble_eq_true rfl, Nat.le_of_ble_eq_true rfl⟩, hts _ tb_161, hts _ ts_18⟩ (xp_v nwL_ok (hK.sub (tys' := [(a2, .int)]) [1] rfl) hN hP hD [2, 3] rfl rfl (va_recv hK hP (ci := 1) (q0 := 2) rfl rfl)) rfl rfl hl.1 rfl (lv_room (Nat.le_of_ble_eq_true rfl)) dX0_carryOutIntent_102 ⟨Nat.zero_le _, Nat.zero_le _⟩) hP hD hS hA [2, 3] [0, 1] rfl rfl (by decide) (by decide) (fun u_24 H locs hw hP hD hS => ?_)
        obtain ⟨d_25, ed_25⟩ : ∃ z, z = dk_write d_21 (gI + 3) 0 := ⟨_, rfl⟩
        rw [hw, ← ed_25] at hP hD
        have hP : va_P (dC, dI) vwCl [(h0, .inr (0, [.int (nI gW), .int (nI gC), .int (nI gV), .int (nI gB), .ref hs, .int (nI gM), .int (nI gI), .ref hd])), (hs, .inl (a1, gW, .inl st)), (hd, .inr (1, [.ref hc, .int d_25.2.1, .int d_25.2.2.1, .int d_25.2.2.2.1, .int d_25.2.2.2.2])), (hc, .inl (a2, (gI + 4), .inl d_25.1))] H := hP
        have hD : va_D A [(h0, .inr (0, [.int (nI gW), .int (nI gC), .int (nI gV), .int (nI gB), .ref hs, .int (nI gM), .int (nI gI), .ref hd])), (hs, .inl (a1, gW, .inl st)), (hd, .inr (1, [.ref hc, .int d_25.2.1, .int d_25.2.2.1, .int d_25.2.2.2.1, .int d_25.2.2.2.2])), (hc, .inl (a2, (gI + 4), .inl d_25.1))] := hD
        exact W.vret hx hb hr (fun t ht hW => ⟨⟨(st, d_25), rfl, by unfold carry; rw [if_neg c_4, if_neg c_10, if_pos c_11, ev, eq9, nI_clamp (n := v) (by omega), nI_clamp (n := q) (by omega), ed_25, ed_21], by rw [ht]; exact hP, hD⟩, hS.F ht⟩) hS.2.2 dX0_carryOutIntent_105
    · obtain ⟨b, hb9, eb⟩ := (hok c_4).2.1 c_10
      have hl : lv_has ls 4 [(3, .int (nI b)), (2, .int (nI v)), (1, .int (d.1 (gI + 3))), (0, .ref h0)] := by have q9 := hl; rw [eb] at q9; exact q9
      refine lv_aload_n hx hb dX0_carryOutIntent_50 rfl (lv_at hl 3 rfl) ?_
      refine lv_iload_n hx hb dX0_carryOutIntent_51 rfl (lv_at hl 1 rfl) ?_
      refine lv_iload_n hx hb dX0_carryOutIntent_52 rfl (lv_at hl 0 rfl) ?_
      refine lv_aload_n hx hb dX0_carryOutIntent_53 rfl (lv_at hl 3 rfl) ?_
      refine va_get (D := (dC, dI)) (ci := 0) (v := .ref hd) (C := RX0) (T := TX0) (N := 8) hx hb hts inX0 hown hK hP 0 rfl rfl 7 (by decide) (hts _ tb_53) (fun _ h9 => h9) rfl dX0_carryOutIntent_54 ?_
      refine lv_aload_n hx hb dX0_carryOutIntent_57 rfl (lv_at hl 3 rfl) ?_
      refine va_get (D := (dC, dI)) (ci := 0) (v := .int (nI gI)) (C := RX0) (T := TX0) (N := 8) hx hb hts inX0 hown hK hP 0 rfl rfl 6 (by decide) (hts _ tb_52) (fun _ h9 => h9) rfl dX0_carryOutIntent_58 ?_
      refine lv_iconst (v := 2) hx hb dX0_carryOutIntent_61 (by decide) ?_
      refine lv_iadd hx hb dX0_carryOutIntent_62 ?_
      refine lv_topi (fun z_26 ez_26 => ?_)
      obtain rfl : z_26 = nI (gI + 2) := ez_26.trans (nI_add gI 2)
      refine xr_i (D := (dC, dI)) (wf := (dk_w hd hc a2 (gI + 4))) (u0 := d) (wr := [(h0, .inr (0, [.int (nI gW), .int (nI gC), .int (nI gV), .int (nI gB), .ref hs, .int (nI gM), .int (nI gI), .ref hd])), (hs, .inl (a1, gW, .inl st))]) (va_runVN (As := [.int (nI (gI + 2))]) (rest := [.int (nI b), .int (nI v), .ref h0]) ⟨hx, hb, hml, hown, hts⟩ (k_X1_read l dC dI hd hc a2 (gI + 4) (by omega) H.size d (gI + 2) (by omega)) ⟨va_cnB 1 hts gX0_80 rfl rfl rfl (hN _ nn_80) (hts _ tb_3) (by decide +kernel) ⟨Nat.le_of_ble_eq_true rfl, Nat.le_of_ble_eq_true rfl⟩, hts _ tb_125, hts _ ts_9⟩ (xp_v nwL_ok (hK.sub (tys' := [(a2, .int)]) [1] rfl) hN hP hD [2, 3] rfl rfl (va_recv hK hP (ci := 1) (q0 := 2) rfl rfl)) rfl rfl hl.1 rfl (lv_room (Nat.le_of_ble_eq_true rfl)) dX0_carryOutIntent_63 ⟨Nat.zero_le _, Nat.zero_le _⟩) hP hD hS hA [2, 3] [0, 1] rfl rfl (by decide) (by decide) (fun r_27 u_28 H locs hw hP hD hS => ?_)
      obtain ⟨er_27, eu_28⟩ := hw
      rw [eu_28] at hP hD
      rw [er_27]
      have hP : va_P (dC, dI) vwCl [(h0, .inr (0, [.int (nI gW), .int (nI gC), .int (nI gV), .int (nI gB), .ref hs, .int (nI gM), .int (nI gI), .ref hd])), (hs, .inl (a1, gW, .inl st)), (hd, .inr (1, [.ref hc, .int d.2.1, .int d.2.2.1, .int d.2.2.2.1, .int d.2.2.2.2])), (hc, .inl (a2, (gI + 4), .inl d.1))] H := hP
      have hD : va_D A [(h0, .inr (0, [.int (nI gW), .int (nI gC), .int (nI gV), .int (nI gB), .ref hs, .int (nI gM), .int (nI gI), .ref hd])), (hs, .inl (a1, gW, .inl st)), (hd, .inr (1, [.ref hc, .int d.2.1, .int d.2.2.1, .int d.2.2.2.1, .int d.2.2.2.2])), (hc, .inl (a2, (gI + 4), .inl d.1))] := hD
      refine xr_v (D := (dC, dI)) (wf := (xo_w h0 hs hd hc a1 a2 gW gC gV gB gM gI)) (u0 := (st, d)) (wr := []) (va_runV (As := [.int (nI v), .int (nI b), .int (d.1 (gI + 2))]) (rest := []) ⟨hx, hb, hml, hown, hts⟩ (k_X0_mapBlock l dC dI h0 hs hd hc a1 a2 gW gC gV gB gM gI hg H.size st d v b hv hb9 (d.1 (gI + 2))) (cwV 3 hts gX0_138 rfl rfl rfl (by decide +kernel) ⟨Nat.le_of_ble_eq_true rfl, Nat.le_of_ble_eq_true rfl⟩) (xp_v nwL_ok hK hN hP hD [0, 1, 2, 3] rfl rfl (va_recv hK hP (ci := 0) (q0 := 0) rfl rfl)) rfl rfl hl.1 rfl (lv_room (Nat.le_of_ble_eq_true rfl)) dX0_carryOutIntent_66 ⟨Nat.zero_le _, Nat.zero_le _⟩) hP hD hS hA [0, 1, 2, 3] [] rfl rfl (by decide) (by decide) (fun u_30 H locs hw hP hD hS => ?_)
      obtain ⟨d_31, ed_31⟩ : ∃ z, z = dk_write d (gM + v * gB + b) (d.1 (gI + 2) + 1) := ⟨_, rfl⟩
      rw [hw, ← ed_31] at hP hD
      have hP : va_P (dC, dI) vwCl [(h0, .inr (0, [.int (nI gW), .int (nI gC), .int (nI gV), .int (nI gB), .ref hs, .int (nI gM), .int (nI gI), .ref hd])), (hs, .inl (a1, gW, .inl st)), (hd, .inr (1, [.ref hc, .int d_31.2.1, .int d_31.2.2.1, .int d_31.2.2.2.1, .int d_31.2.2.2.2])), (hc, .inl (a2, (gI + 4), .inl d_31.1))] H := hP
      have hD : va_D A [(h0, .inr (0, [.int (nI gW), .int (nI gC), .int (nI gV), .int (nI gB), .ref hs, .int (nI gM), .int (nI gI), .ref hd])), (hs, .inl (a1, gW, .inl st)), (hd, .inr (1, [.ref hc, .int d_31.2.1, .int d_31.2.2.1, .int d_31.2.2.2.1, .int d_31.2.2.2.2])), (hc, .inl (a2, (gI + 4), .inl d_31.1))] := hD
      refine lv_goto (tgt := 91) hx hb dX0_carryOutIntent_69 (by decide) ?_
      refine lv_aload_n hx hb dX0_carryOutIntent_91 rfl (lv_at hl 3 rfl) ?_
      refine va_get (D := (dC, dI)) (ci := 0) (v := .ref hd) (C := RX0) (T := TX0) (N := 8) hx hb hts inX0 hown hK hP 0 rfl rfl 7 (by decide) (hts _ tb_53) (fun _ h9 => h9) rfl dX0_carryOutIntent_92 ?_
      refine lv_aload_n hx hb dX0_carryOutIntent_95 rfl (lv_at hl 3 rfl) ?_
      refine va_get (D := (dC, dI)) (ci := 0) (v := .int (nI gI)) (C := RX0) (T := TX0) (N := 8) hx hb hts inX0 hown hK hP 0 rfl rfl 6 (by decide) (hts _ tb_52) (fun _ h9 => h9) rfl dX0_carryOutIntent_96 ?_
      refine lv_iconst (v := 3) hx hb dX0_carryOutIntent_99 (by decide) ?_
      refine lv_iadd hx hb dX0_carryOutIntent_100 ?_
      refine lv_topi (fun z_32 ez_32 => ?_)
      obtain rfl : z_32 = nI (gI + 3) := ez_32.trans (nI_add gI 3)
      refine lv_iconst (v := 0) hx hb dX0_carryOutIntent_101 (by decide) ?_
      refine xr_v (D := (dC, dI)) (wf := (dk_w hd hc a2 (gI + 4))) (u0 := d_31) (wr := [(h0, .inr (0, [.int (nI gW), .int (nI gC), .int (nI gV), .int (nI gB), .ref hs, .int (nI gM), .int (nI gI), .ref hd])), (hs, .inl (a1, gW, .inl st))]) (va_runVN (As := [.int (nI (gI + 3)), .int 0]) (rest := []) ⟨hx, hb, hml, hown, hts⟩ (k_X1_write l dC dI hd hc a2 (gI + 4) (by omega) H.size d_31 (gI + 3) (by omega) 0) ⟨va_cnB 2 hts gX0_116 rfl rfl rfl (hN _ nn_116) (hts _ tb_3) (by decide +kernel) ⟨Nat.le_of_ble_eq_true rfl, Nat.le_of_ble_eq_true rfl⟩, hts _ tb_161, hts _ ts_18⟩ (xp_v nwL_ok (hK.sub (tys' := [(a2, .int)]) [1] rfl) hN hP hD [2, 3] rfl rfl (va_recv hK hP (ci := 1) (q0 := 2) rfl rfl)) rfl rfl hl.1 rfl (lv_room (Nat.le_of_ble_eq_true rfl)) dX0_carryOutIntent_102 ⟨Nat.zero_le _, Nat.zero_le _⟩) hP hD hS hA [2, 3] [0, 1] rfl rfl (by decide) (by decide) (fun u_34 H locs hw hP hD hS => ?_)
      obtain ⟨d_35, ed_35⟩ : ∃ z, z = dk_write d_31 (gI + 3) 0 := ⟨_, rfl⟩
      rw [hw, ← ed_35] at hP hD
      have hP : va_P (dC, dI) vwCl [(h0, .inr (0, [.int (nI gW), .int (nI gC), .int (nI gV), .int (nI gB), .ref hs, .int (nI gM), .int (nI gI), .ref hd])), (hs, .inl (a1, gW, .inl st)), (hd, .inr (1, [.ref hc, .int d_35.2.1, .int d_35.2.2.1, .int d_35.2.2.2.1, .int d_35.2.2.2.2])), (hc, .inl (a2, (gI + 4), .inl d_35.1))] H := hP
      have hD : va_D A [(h0, .inr (0, [.int (nI gW), .int (nI gC), .int (nI gV), .int (nI gB), .ref hs, .int (nI gM), .int (nI gI), .ref hd])), (hs, .inl (a1, gW, .inl st)), (hd, .inr (1, [.ref hc, .int d_35.2.1, .int d_35.2.2.1, .int d_35.2.2.2.1, .int d_35.2.2.2.2])), (hc, .inl (a2, (gI + 4), .inl d_35.1))] := hD
      exact W.vret hx hb hr (fun t ht hW => ⟨⟨(st, d_35), rfl, by unfold carry; rw [if_neg c_4, if_pos c_10, ev, eb, nI_clamp (n := v) (by omega), nI_clamp (n := b) (by omega), ed_35, ed_31], by rw [ht]; exact hP, hD⟩, hS.F ht⟩) hS.2.2 dX0_carryOutIntent_105
  · exact W.vret hx hb hr (fun t ht hW => ⟨⟨(st, d), rfl, by unfold carry; rw [if_pos c_4], by rw [ht]; exact hP, hD⟩, hS.F ht⟩) hS.2.2 dX0_carryOutIntent_18
set_option maxHeartbeats 4000000 in
set_option maxRecDepth 100000 in
theorem k_X0_change (l : Launch) (dC : Nat → ClassId) (dI : Nat → Nat → Nat) (h0 hs hd hc : Nat) (a1 a2 : ClassId) (gW gC gV gB gM gI : Nat) (hg : geo gW gC gV gB gM gI) (sz : Nat) (st : Nat → Int32) (d : DS) (hz : d.2.2.2.2 = 0 ∨ d.2.2.2.2 = 1) (hk0 : d.1 (gI + 3) = 0) (kd : Int32) (v o : Nat) (hv : v < gV) (ho : okO kd o gV gB) (sl : Int32) : ctI nwL l yX0_change wsX0_change ({ frames := 4, cells := 0, slots := 0, locals := 91 } : Room) (dC, dI) [(a1, .int), (a2, .int)] (xo_w h0 hs hd hc a1 a2 gW gC gV gB gM gI) (st, d) sz [.ref h0, .int kd, .int (nI v), .int (nI o), .int sl] (fun (r : Int32) (u : XS) => r = ans (chg d gM gB gI kd v o sl) ∧ u = (st, chg d gM gB gI kd v o sl)) := by
  refine Met.ofW (cc := cX0_change) (maxL := 5) (ret := (some .int)) (by decide) rfl ?_
  intro p e s m args below meth c s₁ B hml hv
  obtain ⟨rfl, hsz, hP, hK, hD0, hN⟩ := hv
  have hx := B.exec
  have hb := B.bytes
  have hr := B.returns
  have hts := fun w h => atoms_spec (ws := wsX0_change) B.pre w (List.mem_cons_of_mem _ h)
  have hown : s.vm.findClass RX0 = some m.cls := findClass_of_methodNamed B.named
  have hlocks := B.notSynchronized
  subst hsz
  have hD := hD0.self (sz := s.heap.size)
  generalize hAe : va_A ((xo_w h0 hs hd hc a1 a2 gW gC gV gB gM gI) (st, d)) s.heap.size = A at hD ⊢
  have hA : ∀ q : Nat, s.heap.size ≤ q → A q := fun q h => by rw [← hAe]; exact Or.inr h
  have hS : va_S A s.heap s.heap [] := va_S.rf
  have hl := lv_entry ([.ref h0, .int kd, .int (nI v), .int (nI o), .int sl]) (n := 5) (Nat.le_of_ble_eq_true rfl)
  rw [lg_entry_eq]
  generalize (lg_sl ([.ref h0, .int kd, .int (nI v), .int (nI o), .int sl]) ++ List.replicate (5 - (lg_sl ([.ref h0, .int kd, .int (nI v), .int (nI o), .int sl])).length) Slot.unset).toArray = ls at hl ⊢
  have hP : va_P (dC, dI) vwCl [(h0, .inr (0, [.int (nI gW), .int (nI gC), .int (nI gV), .int (nI gB), .ref hs, .int (nI gM), .int (nI gI), .ref hd])), (hs, .inl (a1, gW, .inl st)), (hd, .inr (1, [.ref hc, .int d.2.1, .int d.2.2.1, .int d.2.2.2.1, .int d.2.2.2.2])), (hc, .inl (a2, (gI + 4), .inl d.1))] s.heap := hP
  have hD : va_D A [(h0, .inr (0, [.int (nI gW), .int (nI gC), .int (nI gV), .int (nI gB), .ref hs, .int (nI gM), .int (nI gI), .ref hd])), (hs, .inl (a1, gW, .inl st)), (hd, .inr (1, [.ref hc, .int d.2.1, .int d.2.2.1, .int d.2.2.2.1, .int d.2.2.2.2])), (hc, .inl (a2, (gI + 4), .inl d.1))] := hD
  have hl : lv_has ls 5 [(0, .ref h0), (1, .int kd), (2, .int (nI v)), (3, .int (nI o)), (4, .int sl)] := hl
  obtain ⟨⟨hW1, hW2⟩, ⟨hC1, hC2⟩, ⟨hV1, hV2⟩, ⟨hB1, hB2⟩, eM, eI⟩ := id hg
  obtain ⟨hM2, hq2⟩ := geo_b hg
  refine lv_aload_n hx hb dX0_change_0 rfl (lv_at hl 0 rfl) ?_
  refine va_get (D := (dC, dI)) (ci := 0) (v := .ref hd) (C := RX0) (T := TX0) (N := 8) hx hb hts inX0 hown hK hP 0 rfl rfl 7 (by decide) (hts _ tb_53) (fun _ h9 => h9) rfl dX0_change_1 ?_
  refine lv_aload_n hx hb dX0_change_4 rfl (lv_at hl 0 rfl) ?_
  refine va_get (D := (dC, dI)) (ci := 0) (v := .int (nI gI)) (C := RX0) (T := TX0) (N := 8) hx hb hts inX0 hown hK hP 0 rfl rfl 6 (by decide) (hts _ tb_52) (fun _ h9 => h9) rfl dX0_change_5 ?_
  refine lv_iload_n hx hb dX0_change_8 rfl (lv_at hl 2 rfl) ?_
  refine xr_v (D := (dC, dI)) (wf := (dk_w hd hc a2 (gI + 4))) (u0 := d) (wr := [(h0, .inr (0, [.int (nI gW), .int (nI gC), .int (nI gV), .int (nI gB), .ref hs, .int (nI gM), .int (nI gI), .ref hd])), (hs, .inl (a1, gW, .inl st))]) (va_runVN (As := [.int (nI gI), .int (nI v)]) (rest := []) ⟨hx, hb, hml, hown, hts⟩ (k_X1_write l dC dI hd hc a2 (gI + 4) (by omega) s.heap.size d (gI) (by omega) (nI v)) ⟨va_cnB 2 hts gX0_116 rfl rfl rfl (hN _ nn_116) (hts _ tb_3) (by decide +kernel) ⟨Nat.le_of_ble_eq_true rfl, Nat.le_of_ble_eq_true rfl⟩, hts _ tb_161, hts _ ts_18⟩ (xp_v nwL_ok (hK.sub (tys' := [(a2, .int)]) [1] rfl) hN hP hD [2, 3] rfl rfl (va_recv hK hP (ci := 1) (q0 := 2) rfl rfl)) rfl rfl hl.1 rfl (lv_room (Nat.le_of_ble_eq_true rfl)) dX0_change_9 ⟨Nat.zero_le _, Nat.zero_le _⟩) hP hD hS hA [2, 3] [0, 1] rfl rfl (by decide) (by decide) (fun u_2 H locs hw hP hD hS => ?_)
  obtain ⟨d_3, ed_3⟩ : ∃ z, z = dk_write d (gI) (nI v) := ⟨_, rfl⟩
  rw [hw, ← ed_3] at hP hD
  have hP : va_P (dC, dI) vwCl [(h0, .inr (0, [.int (nI gW), .int (nI gC), .int (nI gV), .int (nI gB), .ref hs, .int (nI gM), .int (nI gI), .ref hd])), (hs, .inl (a1, gW, .inl st)), (hd, .inr (1, [.ref hc, .int d_3.2.1, .int d_3.2.2.1, .int d_3.2.2.2.1, .int d_3.2.2.2.2])), (hc, .inl (a2, (gI + 4), .inl d_3.1))] H := hP
  have hD : va_D A [(h0, .inr (0, [.int (nI gW), .int (nI gC), .int (nI gV), .int (nI gB), .ref hs, .int (nI gM), .int (nI gI), .ref hd])), (hs, .inl (a1, gW, .inl st)), (hd, .inr (1, [.ref hc, .int d_3.2.1, .int d_3.2.2.1, .int d_3.2.2.2.1, .int d_3.2.2.2.2])), (hc, .inl (a2, (gI + 4), .inl d_3.1))] := hD
  refine lv_aload_n hx hb dX0_change_12 rfl (lv_at hl 0 rfl) ?_
  refine va_get (D := (dC, dI)) (ci := 0) (v := .ref hd) (C := RX0) (T := TX0) (N := 8) hx hb hts inX0 hown hK hP 0 rfl rfl 7 (by decide) (hts _ tb_53) (fun _ h9 => h9) rfl dX0_change_13 ?_
  refine lv_aload_n hx hb dX0_change_16 rfl (lv_at hl 0 rfl) ?_
  refine va_get (D := (dC, dI)) (ci := 0) (v := .int (nI gI)) (C := RX0) (T := TX0) (N := 8) hx hb hts inX0 hown hK hP 0 rfl rfl 6 (by decide) (hts _ tb_52) (fun _ h9 => h9) rfl dX0_change_17 ?_
  refine lv_iconst (v := 1) hx hb dX0_change_20 (by decide) ?_
  refine lv_iadd hx hb dX0_change_21 ?_
  refine lv_topi (fun z_4 ez_4 => ?_)
  obtain rfl : z_4 = nI (gI + 1) := ez_4.trans (nI_1 gI)
  refine lv_iload_n hx hb dX0_change_22 rfl (lv_at hl 3 rfl) ?_
  refine xr_v (D := (dC, dI)) (wf := (dk_w hd hc a2 (gI + 4))) (u0 := d_3) (wr := [(h0, .inr (0, [.int (nI gW), .int (nI gC), .int (nI gV), .int (nI gB), .ref hs, .int (nI gM), .int (nI gI), .ref hd])), (hs, .inl (a1, gW, .inl st))]) (va_runVN (As := [.int (nI (gI + 1)), .int (nI o)]) (rest := []) ⟨hx, hb, hml, hown, hts⟩ (k_X1_write l dC dI hd hc a2 (gI + 4) (by omega) H.size d_3 (gI + 1) (by omega) (nI o)) ⟨va_cnB 2 hts gX0_116 rfl rfl rfl (hN _ nn_116) (hts _ tb_3) (by decide +kernel) ⟨Nat.le_of_ble_eq_true rfl, Nat.le_of_ble_eq_true rfl⟩, hts _ tb_161, hts _ ts_18⟩ (xp_v nwL_ok (hK.sub (tys' := [(a2, .int)]) [1] rfl) hN hP hD [2, 3] rfl rfl (va_recv hK hP (ci := 1) (q0 := 2) rfl rfl)) rfl rfl hl.1 rfl (lv_room (Nat.le_of_ble_eq_true rfl)) dX0_change_23 ⟨Nat.zero_le _, Nat.zero_le _⟩) hP hD hS hA [2, 3] [0, 1] rfl rfl (by decide) (by decide) (fun u_6 H locs hw hP hD hS => ?_)
  obtain ⟨d_7, ed_7⟩ : ∃ z, z = dk_write d_3 (gI + 1) (nI o) := ⟨_, rfl⟩
  rw [hw, ← ed_7] at hP hD
  have hP : va_P (dC, dI) vwCl [(h0, .inr (0, [.int (nI gW), .int (nI gC), .int (nI gV), .int (nI gB), .ref hs, .int (nI gM), .int (nI gI), .ref hd])), (hs, .inl (a1, gW, .inl st)), (hd, .inr (1, [.ref hc, .int d_7.2.1, .int d_7.2.2.1, .int d_7.2.2.2.1, .int d_7.2.2.2.2])), (hc, .inl (a2, (gI + 4), .inl d_7.1))] H := hP
  have hD : va_D A [(h0, .inr (0, [.int (nI gW), .int (nI gC), .int (nI gV), .int (nI gB), .ref hs, .int (nI gM), .int (nI gI), .ref hd])), (hs, .inl (a1, gW, .inl st)), (hd, .inr (1, [.ref hc, .int d_7.2.1, .int d_7.2.2.1, .int d_7.2.2.2.1, .int d_7.2.2.2.2])), (hc, .inl (a2, (gI + 4), .inl d_7.1))] := hD
  refine lv_aload_n hx hb dX0_change_26 rfl (lv_at hl 0 rfl) ?_
  refine va_get (D := (dC, dI)) (ci := 0) (v := .ref hd) (C := RX0) (T := TX0) (N := 8) hx hb hts inX0 hown hK hP 0 rfl rfl 7 (by decide) (hts _ tb_53) (fun _ h9 => h9) rfl dX0_change_27 ?_
  refine lv_aload_n hx hb dX0_change_30 rfl (lv_at hl 0 rfl) ?_
  refine va_get (D := (dC, dI)) (ci := 0) (v := .int (nI gI)) (C := RX0) (T := TX0) (N := 8) hx hb hts inX0 hown hK hP 0 rfl rfl 6 (by decide) (hts _ tb_52) (fun _ h9 => h9) rfl dX0_change_31 ?_
  refine lv_iconst (v := 2) hx hb dX0_change_34 (by decide) ?_
  refine lv_iadd hx hb dX0_change_35 ?_
  refine lv_topi (fun z_8 ez_8 => ?_)
  obtain rfl : z_8 = nI (gI + 2) := ez_8.trans (nI_add gI 2)
  refine lv_iload hx hb dX0_change_36 (lv_at hl 4 rfl) ?_
  refine xr_v (D := (dC, dI)) (wf := (dk_w hd hc a2 (gI + 4))) (u0 := d_7) (wr := [(h0, .inr (0, [.int (nI gW), .int (nI gC), .int (nI gV), .int (nI gB), .ref hs, .int (nI gM), .int (nI gI), .ref hd])), (hs, .inl (a1, gW, .inl st))]) (va_runVN (As := [.int (nI (gI + 2)), .int sl]) (rest := []) ⟨hx, hb, hml, hown, hts⟩ (k_X1_write l dC dI hd hc a2 (gI + 4) (by omega) H.size d_7 (gI + 2) (by omega) (sl)) ⟨va_cnB 2 hts gX0_116 rfl rfl rfl (hN _ nn_116) (hts _ tb_3) (by decide +kernel) ⟨Nat.le_of_ble_eq_true rfl, Nat.le_of_ble_eq_true rfl⟩, hts _ tb_161, hts _ ts_18⟩ (xp_v nwL_ok (hK.sub (tys' := [(a2, .int)]) [1] rfl) hN hP hD [2, 3] rfl rfl (va_recv hK hP (ci := 1) (q0 := 2) rfl rfl)) rfl rfl hl.1 rfl (lv_room (Nat.le_of_ble_eq_true rfl)) dX0_change_38 ⟨Nat.zero_le _, Nat.zero_le _⟩) hP hD hS hA [2, 3] [0, 1] rfl rfl (by decide) (by decide) (fun u_10 H locs hw hP hD hS => ?_)
  obtain ⟨d_11, ed_11⟩ : ∃ z, z = dk_write d_7 (gI + 2) (sl) := ⟨_, rfl⟩
  rw [hw, ← ed_11] at hP hD
  have hP : va_P (dC, dI) vwCl [(h0, .inr (0, [.int (nI gW), .int (nI gC), .int (nI gV), .int (nI gB), .ref hs, .int (nI gM), .int (nI gI), .ref hd])), (hs, .inl (a1, gW, .inl st)), (hd, .inr (1, [.ref hc, .int d_11.2.1, .int d_11.2.2.1, .int d_11.2.2.2.1, .int d_11.2.2.2.2])), (hc, .inl (a2, (gI + 4), .inl d_11.1))] H := hP
  have hD : va_D A [(h0, .inr (0, [.int (nI gW), .int (nI gC), .int (nI gV), .int (nI gB), .ref hs, .int (nI gM), .int (nI gI), .ref hd])), (hs, .inl (a1, gW, .inl st)), (hd, .inr (1, [.ref hc, .int d_11.2.1, .int d_11.2.2.1, .int d_11.2.2.2.1, .int d_11.2.2.2.2])), (hc, .inl (a2, (gI + 4), .inl d_11.1))] := hD
  refine lv_aload_n hx hb dX0_change_41 rfl (lv_at hl 0 rfl) ?_
  refine va_get (D := (dC, dI)) (ci := 0) (v := .ref hd) (C := RX0) (T := TX0) (N := 8) hx hb hts inX0 hown hK hP 0 rfl rfl 7 (by decide) (hts _ tb_53) (fun _ h9 => h9) rfl dX0_change_42 ?_
  refine lv_aload_n hx hb dX0_change_45 rfl (lv_at hl 0 rfl) ?_
  refine va_get (D := (dC, dI)) (ci := 0) (v := .int (nI gI)) (C := RX0) (T := TX0) (N := 8) hx hb hts inX0 hown hK hP 0 rfl rfl 6 (by decide) (hts _ tb_52) (fun _ h9 => h9) rfl dX0_change_46 ?_
  refine lv_iconst (v := 3) hx hb dX0_change_49 (by decide) ?_
  refine lv_iadd hx hb dX0_change_50 ?_
  refine lv_topi (fun z_12 ez_12 => ?_)
  obtain rfl : z_12 = nI (gI + 3) := ez_12.trans (nI_add gI 3)
  refine lv_iload_n hx hb dX0_change_51 rfl (lv_at hl 1 rfl) ?_
  refine xr_v (D := (dC, dI)) (wf := (dk_w hd hc a2 (gI + 4))) (u0 := d_11) (wr := [(h0, .inr (0, [.int (nI gW), .int (nI gC), .int (nI gV), .int (nI gB), .ref hs, .int (nI gM), .int (nI gI), .ref hd])), (hs, .inl (a1, gW, .inl st))]) (va_runVN (As := [.int (nI (gI + 3)), .int kd]) (rest := []) ⟨hx, hb, hml, hown, hts⟩ (k_X1_write l dC dI hd hc a2 (gI + 4) (by omega) H.size d_11 (gI + 3) (by omega) (kd)) ⟨va_cnB 2 hts gX0_116 rfl rfl rfl (hN _ nn_116) (hts _ tb_3) (by decide +kernel) ⟨Nat.le_of_ble_eq_true rfl, Nat.le_of_ble_eq_true rfl⟩, hts _ tb_161, hts _ ts_18⟩ (xp_v nwL_ok (hK.sub (tys' := [(a2, .int)]) [1] rfl) hN hP hD [2, 3] rfl rfl (va_recv hK hP (ci := 1) (q0 := 2) rfl rfl)) rfl rfl hl.1 rfl (lv_room (Nat.le_of_ble_eq_true rfl)) dX0_change_52 ⟨Nat.zero_le _, Nat.zero_le _⟩) hP hD hS hA [2, 3] [0, 1] rfl rfl (by decide) (by decide) (fun u_14 H locs hw hP hD hS => ?_)
  obtain ⟨d_15, ed_15⟩ : ∃ z, z = dk_write d_11 (gI + 3) (kd) := ⟨_, rfl⟩
  rw [hw, ← ed_15] at hP hD
  have hP : va_P (dC, dI) vwCl [(h0, .inr (0, [.int (nI gW), .int (nI gC), .int (nI gV), .int (nI gB), .ref hs, .int (nI gM), .int (nI gI), .ref hd])), (hs, .inl (a1, gW, .inl st)), (hd, .inr (1, [.ref hc, .int d_15.2.1, .int d_15.2.2.1, .int d_15.2.2.2.1, .int d_15.2.2.2.2])), (hc, .inl (a2, (gI + 4), .inl d_15.1))] H := hP
  have hD : va_D A [(h0, .inr (0, [.int (nI gW), .int (nI gC), .int (nI gV), .int (nI gB), .ref hs, .int (nI gM), .int (nI gI), .ref hd])), (hs, .inl (a1, gW, .inl st)), (hd, .inr (1, [.ref hc, .int d_15.2.1, .int d_15.2.2.1, .int d_15.2.2.2.1, .int d_15.2.2.2.2])), (hc, .inl (a2, (gI + 4), .inl d_15.1))] := hD
  refine lv_aload_n hx hb dX0_change_55 rfl (lv_at hl 0 rfl) ?_
  have e4 : d_15 = int4 d gI kd v o sl := by unfold int4; rw [ed_15, ed_11, ed_7, ed_3]
  have hk4 : okI d_15 gV gB gI := by rw [e4]; exact int4_ok hk0 hv ho
  refine xr_v (D := (dC, dI)) (wf := (xo_w h0 hs hd hc a1 a2 gW gC gV gB gM gI)) (u0 := (st, d_15)) (wr := []) (va_runV (As := []) (rest := []) ⟨hx, hb, hml, hown, hts⟩ (k_X0_carryOutIntent l dC dI h0 hs hd hc a1 a2 gW gC gV gB gM gI hg H.size st d_15 hk4) (cwV 0 hts gX0_99 rfl rfl rfl (by decide +kernel) ⟨Nat.le_of_ble_eq_true rfl, Nat.le_of_ble_eq_true rfl⟩) (xp_v nwL_ok hK hN hP hD [0, 1, 2, 3] rfl rfl (va_recv hK hP (ci := 0) (q0 := 0) rfl rfl)) rfl rfl hl.1 rfl (lv_room (Nat.le_of_ble_eq_true rfl)) dX0_change_56 ⟨Nat.zero_le _, Nat.zero_le _⟩) hP hD hS hA [0, 1, 2, 3] [] rfl rfl (by decide) (by decide) (fun u_17 H locs hw hP hD hS => ?_)
  obtain ⟨d_18, ed_18⟩ : ∃ z, z = carry d_15 gM gB gI := ⟨_, rfl⟩
  rw [hw, ← ed_18] at hP hD
  have hP : va_P (dC, dI) vwCl [(h0, .inr (0, [.int (nI gW), .int (nI gC), .int (nI gV), .int (nI gB), .ref hs, .int (nI gM), .int (nI gI), .ref hd])), (hs, .inl (a1, gW, .inl st)), (hd, .inr (1, [.ref hc, .int d_18.2.1, .int d_18.2.2.1, .int d_18.2.2.2.1, .int d_18.2.2.2.2])), (hc, .inl (a2, (gI + 4), .inl d_18.1))] H := hP
  have hD : va_D A [(h0, .inr (0, [.int (nI gW), .int (nI gC), .int (nI gV), .int (nI gB), .ref hs, .int (nI gM), .int (nI gI), .ref hd])), (hs, .inl (a1, gW, .inl st)), (hd, .inr (1, [.ref hc, .int d_18.2.1, .int d_18.2.2.1, .int d_18.2.2.2.1, .int d_18.2.2.2.2])), (hc, .inl (a2, (gI + 4), .inl d_18.1))] := hD
  have e5 : d_18 = chg d gM gB gI kd v o sl := by unfold chg; rw [ed_18, e4]
  have hz5 : d_18.2.2.2.2 = 0 ∨ d_18.2.2.2.2 = 1 := by rw [e5]; exact chg_z hz
  refine lv_aload_n hx hb dX0_change_59 rfl (lv_at hl 0 rfl) ?_
  refine va_get (D := (dC, dI)) (ci := 0) (v := .ref hd) (C := RX0) (T := TX0) (N := 8) hx hb hts inX0 hown hK hP 0 rfl rfl 7 (by decide) (hts _ tb_53) (fun _ h9 => h9) rfl dX0_change_60 ?_
  refine xr_i (D := (dC, dI)) (wf := (dk_w hd hc a2 (gI + 4))) (u0 := d_18) (wr := [(h0, .inr (0, [.int (nI gW), .int (nI gC), .int (nI gV), .int (nI gB), .ref hs, .int (nI gM), .int (nI gI), .ref hd])), (hs, .inl (a1, gW, .inl st))]) (va_runVN (As := []) (rest := []) ⟨hx, hb, hml, hown, hts⟩ (k_X1_isDown l dC dI hd hc a2 (gI + 4) (by omega) H.size d_18 hz5) ⟨va_cnB 0 hts gX0_51 rfl rfl rfl (hN _ nn_51) (hts _ tb_3) (by decide +kernel) ⟨Nat.le_of_ble_eq_true rfl, Nat.le_of_ble_eq_true rfl⟩, hts _ tb_93, hts _ ts_2⟩ (xp_v nwL_ok (hK.sub (tys' := [(a2, .int)]) [1] rfl) hN hP hD [2, 3] rfl rfl (va_recv hK hP (ci := 1) (q0 := 2) rfl rfl)) rfl rfl hl.1 rfl (lv_room (Nat.le_of_ble_eq_true rfl)) dX0_change_63 ⟨Nat.zero_le _, Nat.zero_le _⟩) hP hD hS hA [2, 3] [0, 1] rfl rfl (by decide) (by decide) (fun r_19 u_20 H locs hw hP hD hS => ?_)
  obtain ⟨er_19, eu_20⟩ := hw
  rw [eu_20] at hP hD
  rw [er_19]
  have hP : va_P (dC, dI) vwCl [(h0, .inr (0, [.int (nI gW), .int (nI gC), .int (nI gV), .int (nI gB), .ref hs, .int (nI gM), .int (nI gI), .ref hd])), (hs, .inl (a1, gW, .inl st)), (hd, .inr (1, [.ref hc, .int d_18.2.1, .int d_18.2.2.1, .int d_18.2.2.2.1, .int d_18.2.2.2.2])), (hc, .inl (a2, (gI + 4), .inl d_18.1))] H := hP
  have hD : va_D A [(h0, .inr (0, [.int (nI gW), .int (nI gC), .int (nI gV), .int (nI gB), .ref hs, .int (nI gM), .int (nI gI), .ref hd])), (hs, .inl (a1, gW, .inl st)), (hd, .inr (1, [.ref hc, .int d_18.2.1, .int d_18.2.2.1, .int d_18.2.2.2.1, .int d_18.2.2.2.2])), (hc, .inl (a2, (gI + 4), .inl d_18.1))] := hD
  refine lv_if_eq (tgt := 74) hx hb dX0_change_66 (by decide) (fun c_21 => ?_) (fun c_21 => ?_)
  · refine lv_iconst (v := 0) hx hb dX0_change_74 (by decide) ?_
    exact W.iret (v := 0) hx hb hr (fun t ht hW => ⟨⟨0, (st, d_18), rfl, ⟨by rw [← e5]; unfold ans; rw [if_pos c_21], by rw [← e5]⟩, by rw [ht]; exact hP, hD⟩, hS.F ht⟩) hS.2.2 dX0_change_75
  · refine lv_bipush (v := (-4)) hx hb dX0_change_69 (by decide) ?_
    refine lv_goto (tgt := 75) hx hb dX0_change_71 (by decide) ?_
    exact W.iret (v := (-4)) hx hb hr (fun t ht hW => ⟨⟨(-4), (st, d_18), rfl, ⟨by rw [← e5]; unfold ans; rw [if_neg c_21], by rw [← e5]⟩, by rw [ht]; exact hP, hD⟩, hS.F ht⟩) hS.2.2 dX0_change_75
