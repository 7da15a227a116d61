set_option maxHeartbeats 4000000 in
set_option maxRecDepth 100000 in
theorem lp_X0_hasStagedWords_2 {p : Program} {l : Launch} {e : Env} {s : State} {m : MethodId} {args : Array Value} {below : List Frame} {meth : Method} {c : Code} {Q : State → Prop} {A : Nat → Prop} {dC : Nat → ClassId} {dI : Nat → Nat → Nat} (h0 hs hd hc : Nat) (a1 a2 : ClassId) (gW gC gV gB gM gI : Nat) (hg : geo gW gC gV gB gM gI) (st : Nat → Int32) (d : DS) (k : Nat) (hk : k ≤ gC) (hx : p.tables.exec = Jvm.exec) (hb : c.code = cX0_hasStagedWords) (hml : c.maxLocals = 3) (hown : s.vm.findClass RX0 = some m.cls) (hts : ∀ w ∈ TBG, w.before args s = true) (hK : va_K (dC, dI) vwCl [(a1, .int), (a2, .int)] s) (hN : nwOk nwL s) (hA : ∀ q : Nat, s.heap.size ≤ q → A q)  (K1 : ∀  (H : Heap) (locs : List Loc) (ls : Array Slot), (samN d.1 st (k * gW) gW = 0) → va_P (dC, dI) vwCl (xo_w h0 hs hd hc a1 a2 gW gC gV gB gM gI (st, d)) H → va_D A (xo_w h0 hs hd hc a1 a2 gW gC gV gB gM gI (st, d)) → va_S A s.heap H locs → lv_has ls 3 [(0, .ref h0), (1, .int (nI k))] → W p l e ({ frames := 1, cells := 0, slots := 0, locals := 22 } : Room) s m args below meth c H locs 0 0 Q (F0 m 32 ls [])) (K2 : ∀  (H : Heap) (locs : List Loc) (ls : Array Slot), (samN d.1 st (k * gW) gW = 1) → va_P (dC, dI) vwCl (xo_w h0 hs hd hc a1 a2 gW gC gV gB gM gI (st, d)) H → va_D A (xo_w h0 hs hd hc a1 a2 gW gC gV gB gM gI (st, d)) → va_S A s.heap H locs → lv_has ls 3 [(0, .ref h0), (1, .int (nI k))] → W p l e ({ frames := 1, cells := 0, slots := 0, locals := 22 } : Room) s m args below meth c H locs 0 0 Q (F0 m 40 ls [])) : ∀ (n : Nat) (i : Nat) (H : Heap) (locs : List Loc) (ls : Array Slot), gW - i < n → (i ≤ gW) → (samN d.1 st (k * gW) i = 1) → va_P (dC, dI) vwCl (xo_w h0 hs hd hc a1 a2 gW gC gV gB gM gI (st, d)) H → va_D A (xo_w h0 hs hd hc a1 a2 gW gC gV gB gM gI (st, d)) → va_S A s.heap H locs → lv_has ls 3 [(0, .ref h0), (1, .int (nI k)), (2, .int (nI i))] → W p l e ({ frames := 1, cells := 0, slots := 0, locals := 22 } : Room) s m args below meth c H locs 0 0 Q (F0 m 2 ls []) := by
  obtain ⟨⟨hW1, hW2⟩, ⟨hC1, hC2⟩, ⟨hV1, hV2⟩, ⟨hB1, hB2⟩, eM, eI⟩ := id hg
  obtain ⟨hM2, hq2⟩ := geo_b hg
  intro n
  induction n with
  | zero => intro i H locs ls hfu; exact absurd hfu (by omega)
  | succ n ih =>
    intro i H locs ls hfu hi hj hP hD hS hl
    have hP : va_P (dC, dI) vwCl [(h0, .inr (0, [.int (nI gW), .int (nI gC), .int (nI gV), .int (nI gB), .ref hs, .int (nI gM), .int (nI gI), .ref hd])), (hs, .inl (a1, gW, .inl st)), (hd, .inr (1, [.ref hc, .int d.2.1, .int d.2.2.1, .int d.2.2.2.1, .int d.2.2.2.2])), (hc, .inl (a2, (gI + 4), .inl d.1))] H := hP
    have hD : va_D A [(h0, .inr (0, [.int (nI gW), .int (nI gC), .int (nI gV), .int (nI gB), .ref hs, .int (nI gM), .int (nI gI), .ref hd])), (hs, .inl (a1, gW, .inl st)), (hd, .inr (1, [.ref hc, .int d.2.1, .int d.2.2.1, .int d.2.2.2.1, .int d.2.2.2.2])), (hc, .inl (a2, (gI + 4), .inl d.1))] := hD
    refine lv_iload_n hx hb dX0_hasStagedWords_2 rfl (lv_at hl 2 rfl) ?_
    refine lv_aload_n hx hb dX0_hasStagedWords_3 rfl (lv_at hl 0 rfl) ?_
    refine va_get (D := (dC, dI)) (ci := 0) (v := .int (nI gW)) (C := RX0) (T := TX0) (N := 8) hx hb hts inX0 hown hK hP 0 rfl rfl 0 (by decide) (hts _ tb_46) (fun _ h9 => h9) rfl dX0_hasStagedWords_4 ?_
    refine lv_icmp_ge (tgt := 40) hx hb dX0_hasStagedWords_7 (by decide) (fun c_1 => ?_) (fun c_1 => ?_)
    · have c_1 : gW ≤ i := (nI_leI (a := gW) (b := i) (by omega) (by omega)).mp c_1
      have hie : i = gW := by omega
      rw [hie] at hj
      exact K2  _ _ _ (hj) hP hD hS (lv_sub hl [0, 1] rfl)
    · have c_1 : ¬ (gW ≤ i) := fun q9 => c_1 ((nI_leI (a := gW) (b := i) (by omega) (by omega)).mpr q9)
      refine lv_aload_n hx hb dX0_hasStagedWords_10 rfl (lv_at hl 0 rfl) ?_
      refine va_get (D := (dC, dI)) (ci := 0) (v := .ref hd) (C := RX0) (T := TX0) (N := 8) hx hb hts inX0 hown hK hP 0 rfl rfl 7 (by decide) (hts _ tb_53) (fun _ h9 => h9) rfl dX0_hasStagedWords_11 ?_
      refine lv_aload_n hx hb dX0_hasStagedWords_14 rfl (lv_at hl 0 rfl) ?_
      refine lv_iload_n hx hb dX0_hasStagedWords_15 rfl (lv_at hl 1 rfl) ?_
      refine lv_iload_n hx hb dX0_hasStagedWords_16 rfl (lv_at hl 2 rfl) ?_
      have hki := geo_slot hg hk (show i < gW by omega)
      refine xr_i (D := (dC, dI)) (wf := (xo_w h0 hs hd hc a1 a2 gW gC gV gB gM gI)) (u0 := (st, d)) (wr := []) (va_runV (As := [.int (nI k), .int (nI i)]) (rest := [.ref hd]) ⟨hx, hb, hml, hown, hts⟩ (k_X0_slotCell l dC dI h0 hs hd hc a1 a2 gW gC gV gB gM gI hg H.size st d k i) (cwV 2 hts gX0_77 rfl rfl rfl (by decide +kernel) ⟨Nat.le_of_ble_eq_true rfl, Nat.le_of_ble_eq_true rfl⟩) (xp_v nwL_ok hK hN hP hD [0, 1, 2, 3] rfl rfl (va_recv hK hP (ci := 0) (q0 := 0) rfl rfl)) rfl rfl hl.1 rfl (lv_room (Nat.le_of_ble_eq_true rfl)) dX0_hasStagedWords_17 ⟨Nat.zero_le _, Nat.zero_le _⟩) hP hD hS hA [0, 1, 2, 3] [] rfl rfl (by decide) (by decide) (fun r_2 u_3 H locs hw hP hD hS => ?_)
      obtain ⟨er_2, eu_3⟩ := hw
      rw [eu_3] at hP hD
      rw [er_2]
      have hP : va_P (dC, dI) vwCl [(h0, .inr (0, [.int (nI gW), .int (nI gC), .int (nI gV), .int (nI gB), .ref hs, .int (nI gM), .int (nI gI), .ref hd])), (hs, .inl (a1, gW, .inl st)), (hd, .inr (1, [.ref hc, .int d.2.1, .int d.2.2.1, .int d.2.2.2.1, .int d.2.2.2.2])), (hc, .inl (a2, (gI + 4), .inl d.1))] H := hP
      have hD : va_D A [(h0, .inr (0, [.int (nI gW), .int (nI gC), .int (nI gV), .int (nI gB), .ref hs, .int (nI gM), .int (nI gI), .ref hd])), (hs, .inl (a1, gW, .inl st)), (hd, .inr (1, [.ref hc, .int d.2.1, .int d.2.2.1, .int d.2.2.2.1, .int d.2.2.2.2])), (hc, .inl (a2, (gI + 4), .inl d.1))] := hD
      refine xr_i (D := (dC, dI)) (wf := (dk_w hd hc a2 (gI + 4))) (u0 := d) (wr := [(h0, .inr (0, [.int (nI gW), .int (nI gC), .int (nI gV), .int (nI gB), .ref hs, .int (nI gM), .int (nI gI), .ref hd])), (hs, .inl (a1, gW, .inl st))]) (va_runVN (As := [.int (nI (k * gW + i))]) (rest := []) ⟨hx, hb, hml, hown, hts⟩ (k_X1_read l dC dI hd hc a2 (gI + 4) (by omega) H.size d (k * gW + i) (by omega)) ⟨va_cnB 1 hts gX0_80 rfl rfl rfl (hN _ nn_80) (hts _ tb_3) (by decide +kernel) ⟨Nat.le_of_ble_eq_true rfl, Nat.le_of_ble_eq_true rfl⟩, hts _ tb_125, hts _ ts_9⟩ (xp_v nwL_ok (hK.sub (tys' := [(a2, .int)]) [1] rfl) hN hP hD [2, 3] rfl rfl (va_recv hK hP (ci := 1) (q0 := 2) rfl rfl)) rfl rfl hl.1 rfl (lv_room (Nat.le_of_ble_eq_true rfl)) dX0_hasStagedWords_20 ⟨Nat.zero_le _, Nat.zero_le _⟩) hP hD hS hA [2, 3] [0, 1] rfl rfl (by decide) (by decide) (fun r_4 u_5 H locs hw hP hD hS => ?_)
      obtain ⟨er_4, eu_5⟩ := hw
      rw [eu_5] at hP hD
      rw [er_4]
      have hP : va_P (dC, dI) vwCl [(h0, .inr (0, [.int (nI gW), .int (nI gC), .int (nI gV), .int (nI gB), .ref hs, .int (nI gM), .int (nI gI), .ref hd])), (hs, .inl (a1, gW, .inl st)), (hd, .inr (1, [.ref hc, .int d.2.1, .int d.2.2.1, .int d.2.2.2.1, .int d.2.2.2.2])), (hc, .inl (a2, (gI + 4), .inl d.1))] H := hP
      have hD : va_D A [(h0, .inr (0, [.int (nI gW), .int (nI gC), .int (nI gV), .int (nI gB), .ref hs, .int (nI gM), .int (nI gI), .ref hd])), (hs, .inl (a1, gW, .inl st)), (hd, .inr (1, [.ref hc, .int d.2.1, .int d.2.2.1, .int d.2.2.2.1, .int d.2.2.2.2])), (hc, .inl (a2, (gI + 4), .inl d.1))] := hD
      refine lv_aload_n hx hb dX0_hasStagedWords_23 rfl (lv_at hl 0 rfl) ?_
      refine va_get (D := (dC, dI)) (ci := 0) (v := .ref hs) (C := RX0) (T := TX0) (N := 8) hx hb hts inX0 hown hK hP 0 rfl rfl 4 (by decide) (hts _ tb_50) (fun _ h9 => h9) rfl dX0_hasStagedWords_24 ?_
      refine lv_iload_n hx hb dX0_hasStagedWords_27 rfl (lv_at hl 2 rfl) ?_
      refine va_iald hx hb hK hP 1 0 rfl rfl (vp_in_nI (n := i) (by omega) (by omega)) dX0_hasStagedWords_28 ?_
      refine lv_topi (fun z_6 ez_6 => ?_)
      obtain rfl : z_6 = st i := ez_6.trans (by rw [nI_clamp (n := i) (by omega)])
      refine lv_icmp_eq (tgt := 34) hx hb dX0_hasStagedWords_29 (by decide) (fun c_7 => ?_) (fun c_7 => ?_)
      · refine lv_iinc (v := nI (i + 1)) (lv' := [(2, .int (nI (i + 1))), (0, .ref h0), (1, .int (nI k))]) hx hb dX0_hasStagedWords_34 hl (k := 2) rfl (nI_1 i) (by decide) rfl (fun ls hl => ?_)
        refine lv_goto (tgt := 2) hx hb dX0_hasStagedWords_37 (by decide) ?_
        exact ih (i + 1) _ _ _ (by omega) (by omega) (samN_go hj c_7) hP hD hS (lv_sub hl [1, 2, 0] rfl)
      · exact K1  _ _ _ (samN_no (show i < gW by omega) c_7) hP hD hS (lv_sub hl [0, 1] rfl)
set_option maxHeartbeats 4000000 in
set_option maxRecDepth 100000 in
theorem k_X0_hasStagedWords (l : Launch) (dC : Nat → ClassId) (dI : Nat → Nat → Nat) (h0 hs hd hc : Nat) (a1 a2 : ClassId) (gW gC gV gB gM gI : Nat) (hg : geo gW gC gV gB gM gI) (sz : Nat) (st : Nat → Int32) (d : DS) (k : Nat) (hk : k ≤ gC) : ctI nwL l yX0_hasStagedWords wsX0_hasStagedWords ({ frames := 1, cells := 0, slots := 0, locals := 22 } : Room) (dC, dI) [(a1, .int), (a2, .int)] (xo_w h0 hs hd hc a1 a2 gW gC gV gB gM gI) (st, d) sz [.ref h0, .int (nI k)] (fun (r : Int32) (u : XS) => r = samN d.1 st (k * gW) gW ∧ u = (st, d)) := by
  refine Met.ofW (cc := cX0_hasStagedWords) (maxL := 3) (ret := (some .boolean)) (by decide) rfl ?_
  intro p e s m args below meth c s₁ B hml hv
  obtain ⟨rfl, hsz, hP, hK, hD0, hN⟩ := hv
  have hx := B.exec
  have hb := B.bytes
  have hr := B.returns
  have hts := fun w h => atoms_spec (ws := wsX0_hasStagedWords) B.pre w (List.mem_cons_of_mem _ h)
  have hown : s.vm.findClass RX0 = some m.cls := findClass_of_methodNamed B.named
  have hlocks := B.notSynchronized
  subst hsz
  have hD := hD0.self (sz := s.heap.size)
  generalize hAe : va_A ((xo_w h0 hs hd hc a1 a2 gW gC gV gB gM gI) (st, d)) s.heap.size = A at hD ⊢
  have hA : ∀ q : Nat, s.heap.size ≤ q → A q := fun q h => by rw [← hAe]; exact Or.inr h
  have hS : va_S A s.heap s.heap [] := va_S.rf
  have hl := lv_entry ([.ref h0, .int (nI k)]) (n := 3) (Nat.le_of_ble_eq_true rfl)
  rw [lg_entry_eq]
  generalize (lg_sl ([.ref h0, .int (nI k)]) ++ List.replicate (3 - (lg_sl ([.ref h0, .int (nI k)])).length) Slot.unset).toArray = ls at hl ⊢
  have hP : va_P (dC, dI) vwCl [(h0, .inr (0, [.int (nI gW), .int (nI gC), .int (nI gV), .int (nI gB), .ref hs, .int (nI gM), .int (nI gI), .ref hd])), (hs, .inl (a1, gW, .inl st)), (hd, .inr (1, [.ref hc, .int d.2.1, .int d.2.2.1, .int d.2.2.2.1, .int d.2.2.2.2])), (hc, .inl (a2, (gI + 4), .inl d.1))] s.heap := hP
  have hD : va_D A [(h0, .inr (0, [.int (nI gW), .int (nI gC), .int (nI gV), .int (nI gB), .ref hs, .int (nI gM), .int (nI gI), .ref hd])), (hs, .inl (a1, gW, .inl st)), (hd, .inr (1, [.ref hc, .int d.2.1, .int d.2.2.1, .int d.2.2.2.1, .int d.2.2.2.2])), (hc, .inl (a2, (gI + 4), .inl d.1))] := hD
  have hl : lv_has ls 3 [(0, .ref h0), (1, .int (nI k))] := hl
  obtain ⟨⟨hW1, hW2⟩, ⟨hC1, hC2⟩, ⟨hV1, hV2⟩, ⟨hB1, hB2⟩, eM, eI⟩ := id hg
  obtain ⟨hM2, hq2⟩ := geo_b hg
  refine lv_iconst (v := 0) hx hb dX0_hasStagedWords_0 (by decide) ?_
  refine lv_istore_n (lv' := [(2, .int 0), (0, .ref h0), (1, .int (nI k))]) hx hb dX0_hasStagedWords_1 rfl hl (by decide) rfl (fun ls hl => ?_)
  have hl : lv_has ls 3 [(2, .int (nI 0)), (0, .ref h0), (1, .int (nI k))] := hl
  refine lp_X0_hasStagedWords_2 h0 hs hd hc a1 a2 gW gC gV gB gM gI hg st d k hk hx hb hml hown hts hK hN hA  (fun  H locs ls h9 hP hD hS hl => ?_) (fun  H locs ls h9 hP hD hS hl => ?_) (gW + 1) 0 _ _ _ (by omega) (by omega) (rfl) hP hD hS (lv_sub hl [1, 2, 0] rfl)
  · have hP : va_P (dC, dI) vwCl [(h0, .inr (0, [.int (nI gW), .int (nI gC), .int (nI gV), .int (nI gB), .ref hs, .int (nI gM), .int (nI gI), .ref hd])), (hs, .inl (a1, gW, .inl st)), (hd, .inr (1, [.ref hc, .int d.2.1, .int d.2.2.1, .int d.2.2.2.1, .int d.2.2.2.2])), (hc, .inl (a2, (gI + 4), .inl d.1))] H := hP
    have hD : va_D A [(h0, .inr (0, [.int (nI gW), .int (nI gC), .int (nI gV), .int (nI gB), .ref hs, .int (nI gM), .int (nI gI), .ref hd])), (hs, .inl (a1, gW, .inl st)), (hd, .inr (1, [.ref hc, .int d.2.1, .int d.2.2.1, .int d.2.2.2.1, .int d.2.2.2.2])), (hc, .inl (a2, (gI + 4), .inl d.1))] := hD
    refine lv_iconst (v := 0) hx hb dX0_hasStagedWords_32 (by decide) ?_
    exact W.zret (v := 0) hx hb hr rfl (fun t ht hW => ⟨⟨0, (st, d), rfl, ⟨h9.symm, rfl⟩, by rw [ht]; exact hP, hD⟩, hS.F ht⟩) hS.2.2 dX0_hasStagedWords_33
  · have hP : va_P (dC, dI) vwCl [(h0, .inr (0, [.int (nI gW), .int (nI gC), .int (nI gV), .int (nI gB), .ref hs, .int (nI gM), .int (nI gI), .ref hd])), (hs, .inl (a1, gW, .inl st)), (hd, .inr (1, [.ref hc, .int d.2.1, .int d.2.2.1, .int d.2.2.2.1, .int d.2.2.2.2])), (hc, .inl (a2, (gI + 4), .inl d.1))] H := hP
    have hD : va_D A [(h0, .inr (0, [.int (nI gW), .int (nI gC), .int (nI gV), .int (nI gB), .ref hs, .int (nI gM), .int (nI gI), .ref hd])), (hs, .inl (a1, gW, .inl st)), (hd, .inr (1, [.ref hc, .int d.2.1, .int d.2.2.1, .int d.2.2.2.1, .int d.2.2.2.2])), (hc, .inl (a2, (gI + 4), .inl d.1))] := hD
    refine lv_iconst (v := 1) hx hb dX0_hasStagedWords_40 (by decide) ?_
    exact W.zret (v := 1) hx hb hr rfl (fun t ht hW => ⟨⟨1, (st, d), rfl, ⟨h9.symm, rfl⟩, by rw [ht]; exact hP, hD⟩, hS.F ht⟩) hS.2.2 dX0_hasStagedWords_41
set_option maxHeartbeats 4000000 in
set_option maxRecDepth 100000 in
theorem lp_X0_usedSlotWithStaged_2 {p : Program} {l : Launch} {e : Env} {s : State} {m : MethodId} {args : Array Value} {below : List Frame} {meth : Method} {c : Code} {Q : State → Prop} {A : Nat → Prop} {dC : Nat → ClassId} {dI : Nat → Nat → Nat} (h0 hs hd hc : Nat) (a1 a2 : ClassId) (gW gC gV gB gM gI : Nat) (hg : geo gW gC gV gB gM gI) (st : Nat → Int32) (d : DS) (hx : p.tables.exec = Jvm.exec) (hb : c.code = cX0_usedSlotWithStaged) (hml : c.maxLocals = 2) (hown : s.vm.findClass RX0 = some m.cls) (hts : ∀ w ∈ TBG, w.before args s = true) (hK : va_K (dC, dI) vwCl [(a1, .int), (a2, .int)] s) (hN : nwOk nwL s) (hA : ∀ q : Nat, s.heap.size ≤ q → A q)  (K1 : ∀ (i : Nat) (H : Heap) (locs : List Loc) (ls : Array Slot), (i ≤ gC) → (¬ samN d.1 st (i * gW) gW = 0) → (¬ usd d.1 gM (gV * gB) (nI i) = 0) → va_P (dC, dI) vwCl (xo_w h0 hs hd hc a1 a2 gW gC gV gB gM gI (st, d)) H → va_D A (xo_w h0 hs hd hc a1 a2 gW gC gV gB gM gI (st, d)) → va_S A s.heap H locs → lv_has ls 2 [(0, .ref h0), (1, .int (nI i))] → W p l e ({ frames := 3, cells := 0, slots := 0, locals := 65 } : Room) s m args below meth c H locs 0 0 Q (F0 m 26 ls [])) (K2 : ∀  (H : Heap) (locs : List Loc) (ls : Array Slot), (∀ j, j < gC + 1 → ¬ (¬ samN d.1 st (j * gW) gW = 0 ∧ ¬ usd d.1 gM (gV * gB) (nI j) = 0)) → va_P (dC, dI) vwCl (xo_w h0 hs hd hc a1 a2 gW gC gV gB gM gI (st, d)) H → va_D A (xo_w h0 hs hd hc a1 a2 gW gC gV gB gM gI (st, d)) → va_S A s.heap H locs → lv_has ls 2 [(0, .ref h0)] → W p l e ({ frames := 3, cells := 0, slots := 0, locals := 65 } : Room) s m args below meth c H locs 0 0 Q (F0 m 34 ls [])) : ∀ (n : Nat) (i : Nat) (H : Heap) (locs : List Loc) (ls : Array Slot), gC + 1 - i < n → (i ≤ gC + 1) → (∀ j, j < i → ¬ (¬ samN d.1 st (j * gW) gW = 0 ∧ ¬ usd d.1 gM (gV * gB) (nI j) = 0)) → va_P (dC, dI) vwCl (xo_w h0 hs hd hc a1 a2 gW gC gV gB gM gI (st, d)) H → va_D A (xo_w h0 hs hd hc a1 a2 gW gC gV gB gM gI (st, d)) → va_S A s.heap H locs → lv_has ls 2 [(0, .ref h0), (1, .int (nI i))] → W p l e ({ frames := 3, cells := 0, slots := 0, locals := 65 } : Room) s m args below meth c H locs 0 0 Q (F0 m 2 ls []) := by
  obtain ⟨⟨hW1, hW2⟩, ⟨hC1, hC2⟩, ⟨hV1, hV2⟩, ⟨hB1, hB2⟩, eM, eI⟩ := id hg
  obtain ⟨hM2, hq2⟩ := geo_b hg
  intro n
  induction n with
  | zero => intro i H locs ls hfu; exact absurd hfu (by omega)
  | succ n ih =>
    intro i H locs ls hfu hi hj hP hD hS hl
    have hP : va_P (dC, dI) vwCl [(h0, .inr (0, [.int (nI gW), .int (nI gC), .int (nI gV), .int (nI gB), .ref hs, .int (nI gM), .int (nI gI), .ref hd])), (hs, .inl (a1, gW, .inl st)), (hd, .inr (1, [.ref hc, .int d.2.1, .int d.2.2.1, .int d.2.2.2.1, .int d.2.2.2.2])), (hc, .inl (a2, (gI + 4), .inl d.1))] H := hP
    have hD : va_D A [(h0, .inr (0, [.int (nI gW), .int (nI gC), .int (nI gV), .int (nI gB), .ref hs, .int (nI gM), .int (nI gI), .ref hd])), (hs, .inl (a1, gW, .inl st)), (hd, .inr (1, [.ref hc, .int d.2.1, .int d.2.2.1, .int d.2.2.2.1, .int d.2.2.2.2])), (hc, .inl (a2, (gI + 4), .inl d.1))] := hD
    refine lv_iload_n hx hb dX0_usedSlotWithStaged_2 rfl (lv_at hl 1 rfl) ?_
    refine lv_aload_n hx hb dX0_usedSlotWithStaged_3 rfl (lv_at hl 0 rfl) ?_
    refine va_get (D := (dC, dI)) (ci := 0) (v := .int (nI gC)) (C := RX0) (T := TX0) (N := 8) hx hb hts inX0 hown hK hP 0 rfl rfl 1 (by decide) (hts _ tb_47) (fun _ h9 => h9) rfl dX0_usedSlotWithStaged_4 ?_
    refine lv_icmp_gt (tgt := 34) hx hb dX0_usedSlotWithStaged_7 (by decide) (fun c_1 => ?_) (fun c_1 => ?_)
    · have c_1 : gC < i := (nI_ltI (a := gC) (b := i) (by omega) (by omega)).mp c_1
      have hie : i = gC + 1 := by omega
      rw [hie] at hj
      exact K2  _ _ _ (hj) hP hD hS (lv_sub hl [0] rfl)
    · have c_1 : ¬ (gC < i) := fun q9 => c_1 ((nI_ltI (a := gC) (b := i) (by omega) (by omega)).mpr q9)
      refine lv_aload_n hx hb dX0_usedSlotWithStaged_10 rfl (lv_at hl 0 rfl) ?_
      refine lv_iload_n hx hb dX0_usedSlotWithStaged_11 rfl (lv_at hl 1 rfl) ?_
      refine xr_i (D := (dC, dI)) (wf := (xo_w h0 hs hd hc a1 a2 gW gC gV gB gM gI)) (u0 := (st, d)) (wr := []) (va_runV (As := [.int (nI i)]) (rest := []) ⟨hx, hb, hml, hown, hts⟩ (k_X0_hasStagedWords l dC dI h0 hs hd hc a1 a2 gW gC gV gB gM gI hg H.size st d i (by omega)) (cwV 1 hts gX0_123 rfl rfl rfl (by decide +kernel) ⟨Nat.le_of_ble_eq_true rfl, Nat.le_of_ble_eq_true rfl⟩) (xp_v nwL_ok hK hN hP hD [0, 1, 2, 3] rfl rfl (va_recv hK hP (ci := 0) (q0 := 0) rfl rfl)) rfl rfl hl.1 rfl (lv_room (Nat.le_of_ble_eq_true rfl)) dX0_usedSlotWithStaged_12 ⟨Nat.zero_le _, Nat.zero_le _⟩) hP hD hS hA [0, 1, 2, 3] [] rfl rfl (by decide) (by decide) (fun r_2 u_3 H locs hw hP hD hS => ?_)
      obtain ⟨er_2, eu_3⟩ := hw
      rw [eu_3] at hP hD
      rw [er_2]
      have hP : va_P (dC, dI) vwCl [(h0, .inr (0, [.int (nI gW), .int (nI gC), .int (nI gV), .int (nI gB), .ref hs, .int (nI gM), .int (nI gI), .ref hd])), (hs, .inl (a1, gW, .inl st)), (hd, .inr (1, [.ref hc, .int d.2.1, .int d.2.2.1, .int d.2.2.2.1, .int d.2.2.2.2])), (hc, .inl (a2, (gI + 4), .inl d.1))] H := hP
      have hD : va_D A [(h0, .inr (0, [.int (nI gW), .int (nI gC), .int (nI gV), .int (nI gB), .ref hs, .int (nI gM), .int (nI gI), .ref hd])), (hs, .inl (a1, gW, .inl st)), (hd, .inr (1, [.ref hc, .int d.2.1, .int d.2.2.1, .int d.2.2.2.1, .int d.2.2.2.2])), (hc, .inl (a2, (gI + 4), .inl d.1))] := hD
      refine lv_if_eq (tgt := 28) hx hb dX0_usedSlotWithStaged_15 (by decide) (fun c_4 => ?_) (fun c_4 => ?_)
      · refine lv_iinc (v := nI (i + 1)) (lv' := [(1, .int (nI (i + 1))), (0, .ref h0)]) hx hb dX0_usedSlotWithStaged_28 hl (k := 1) rfl (nI_1 i) (by decide) rfl (fun ls hl => ?_)
        refine lv_goto (tgt := 2) hx hb dX0_usedSlotWithStaged_31 (by decide) ?_
        exact ih (i + 1) _ _ _ (by omega) (by omega) (lt_s hj (fun q => q.1 c_4)) hP hD hS (lv_sub hl [1, 0] rfl)
      · refine lv_aload_n hx hb dX0_usedSlotWithStaged_18 rfl (lv_at hl 0 rfl) ?_
        refine lv_iload_n hx hb dX0_usedSlotWithStaged_19 rfl (lv_at hl 1 rfl) ?_
        refine xr_i (D := (dC, dI)) (wf := (xo_w h0 hs hd hc a1 a2 gW gC gV gB gM gI)) (u0 := (st, d)) (wr := []) (va_runV (As := [.int (nI i)]) (rest := []) ⟨hx, hb, hml, hown, hts⟩ (k_X0_isUsed l dC dI h0 hs hd hc a1 a2 gW gC gV gB gM gI hg H.size st d (nI i)) (cwV 1 hts gX0_120 rfl rfl rfl (by decide +kernel) ⟨Nat.le_of_ble_eq_true rfl, Nat.le_of_ble_eq_true rfl⟩) (xp_v nwL_ok hK hN hP hD [0, 1, 2, 3] rfl rfl (va_recv hK hP (ci := 0) (q0 := 0) rfl rfl)) rfl rfl hl.1 rfl (lv_room (Nat.le_of_ble_eq_true rfl)) dX0_usedSlotWithStaged_20 ⟨Nat.zero_le _, Nat.zero_le _⟩) hP hD hS hA [0, 1, 2, 3] [] rfl rfl (by decide) (by decide) (fun r_5 u_6 H locs hw hP hD hS => ?_)
        obtain ⟨er_5, eu_6⟩ := hw
        rw [eu_6] at hP hD
        rw [er_5]
        have hP : va_P (dC, dI) vwCl [(h0, .inr (0, [.int (nI gW), .int (nI gC), .int (nI gV), .int (nI gB), .ref hs, .int (nI gM), .int (nI gI), .ref hd])), (hs, .inl (a1, gW, .inl st)), (hd, .inr (1, [.ref hc, .int d.2.1, .int d.2.2.1, .int d.2.2.2.1, .int d.2.2.2.2])), (hc, .inl (a2, (gI + 4), .inl d.1))] H := hP
        have hD : va_D A [(h0, .inr (0, [.int (nI gW), .int (nI gC), .int (nI gV), .int (nI gB), .ref hs, .int (nI gM), .int (nI gI), .ref hd])), (hs, .inl (a1, gW, .inl st)), (hd, .inr (1, [.ref hc, .int d.2.1, .int d.2.2.1, .int d.2.2.2.1, .int d.2.2.2.2])), (hc, .inl (a2, (gI + 4), .inl d.1))] := hD
        refine lv_if_eq (tgt := 28) hx hb dX0_usedSlotWithStaged_23 (by decide) (fun c_7 => ?_) (fun c_7 => ?_)
        · refine lv_iinc (v := nI (i + 1)) (lv' := [(1, .int (nI (i + 1))), (0, .ref h0)]) hx hb dX0_usedSlotWithStaged_28 hl (k := 1) rfl (nI_1 i) (by decide) rfl (fun ls hl => ?_)
          refine lv_goto (tgt := 2) hx hb dX0_usedSlotWithStaged_31 (by decide) ?_
          exact ih (i + 1) _ _ _ (by omega) (by omega) (lt_s hj (fun q => q.2 c_7)) hP hD hS (lv_sub hl [1, 0] rfl)
        · exact K1 i _ _ _ (by omega) (c_4) (c_7) hP hD hS (lv_sub hl [0, 1] rfl)
set_option maxHeartbeats 4000000 in
set_option maxRecDepth 100000 in
theorem k_X0_usedSlotWithStaged (l : Launch) (dC : Nat → ClassId) (dI : Nat → Nat → Nat) (h0 hs hd hc : Nat) (a1 a2 : ClassId) (gW gC gV gB gM gI : Nat) (hg : geo gW gC gV gB gM gI) (sz : Nat) (st : Nat → Int32) (d : DS)  : ctI nwL l yX0_usedSlotWithStaged wsX0_usedSlotWithStaged ({ frames := 3, cells := 0, slots := 0, locals := 65 } : Room) (dC, dI) [(a1, .int), (a2, .int)] (xo_w h0 hs hd hc a1 a2 gW gC gV gB gM gI) (st, d) sz [.ref h0] (fun (r : Int32) (u : XS) => ((r = -1 ∧ ∀ j, j < gC + 1 → ¬ (¬ samN d.1 st (j * gW) gW = 0 ∧ ¬ usd d.1 gM (gV * gB) (nI j) = 0)) ∨ (∃ i : Nat, r = nI i ∧ i ≤ gC ∧ ¬ samN d.1 st (i * gW) gW = 0 ∧ ¬ usd d.1 gM (gV * gB) (nI i) = 0)) ∧ u = (st, d)) := by
  refine Met.ofW (cc := cX0_usedSlotWithStaged) (maxL := 2) (ret := (some .int)) (by decide) rfl ?_
  intro p e s m args below meth c s₁ B hml hv
  obtain ⟨rfl, hsz, hP, hK, hD0, hN⟩ := hv
  have hx := B.exec
  have hb := B.bytes
  have hr := B.returns
  have hts := fun w h => atoms_spec (ws := wsX0_usedSlotWithStaged) B.pre w (List.mem_cons_of_mem _ h)
  have hown : s.vm.findClass RX0 = some m.cls := findClass_of_methodNamed B.named
  have hlocks := B.notSynchronized
  subst hsz
  have hD := hD0.self (sz := s.heap.size)
  generalize hAe : va_A ((xo_w h0 hs hd hc a1 a2 gW gC gV gB gM gI) (st, d)) s.heap.size = A at hD ⊢
  have hA : ∀ q : Nat, s.heap.size ≤ q → A q := fun q h => by rw [← hAe]; exact Or.inr h
  have hS : va_S A s.heap s.heap [] := va_S.rf
  have hl := lv_entry ([.ref h0]) (n := 2) (Nat.le_of_ble_eq_true rfl)
  rw [lg_entry_eq]
  generalize (lg_sl ([.ref h0]) ++ List.replicate (2 - (lg_sl ([.ref h0])).length) Slot.unset).toArray = ls at hl ⊢
  have hP : va_P (dC, dI) vwCl [(h0, .inr (0, [.int (nI gW), .int (nI gC), .int (nI gV), .int (nI gB), .ref hs, .int (nI gM), .int (nI gI), .ref hd])), (hs, .inl (a1, gW, .inl st)), (hd, .inr (1, [.ref hc, .int d.2.1, .int d.2.2.1, .int d.2.2.2.1, .int d.2.2.2.2])), (hc, .inl (a2, (gI + 4), .inl d.1))] s.heap := hP
  have hD : va_D A [(h0, .inr (0, [.int (nI gW), .int (nI gC), .int (nI gV), .int (nI gB), .ref hs, .int (nI gM), .int (nI gI), .ref hd])), (hs, .inl (a1, gW, .inl st)), (hd, .inr (1, [.ref hc, .int d.2.1, .int d.2.2.1, .int d.2.2.2.1, .int d.2.2.2.2])), (hc, .inl (a2, (gI + 4), .inl d.1))] := hD
  have hl : lv_has ls 2 [(0, .ref h0)] := hl
  obtain ⟨⟨hW1, hW2⟩, ⟨hC1, hC2⟩, ⟨hV1, hV2⟩, ⟨hB1, hB2⟩, eM, eI⟩ := id hg
  obtain ⟨hM2, hq2⟩ := geo_b hg
  refine lv_iconst (v := 0) hx hb dX0_usedSlotWithStaged_0 (by decide) ?_
  refine lv_istore_n (lv' := [(1, .int 0), (0, .ref h0)]) hx hb dX0_usedSlotWithStaged_1 rfl hl (by decide) rfl (fun ls hl => ?_)
  have hl : lv_has ls 2 [(1, .int (nI 0)), (0, .ref h0)] := hl
  refine lp_X0_usedSlotWithStaged_2 h0 hs hd hc a1 a2 gW gC gV gB gM gI hg st d hx hb hml hown hts hK hN hA  (fun i H locs ls q1 q2 q3 hP hD hS hl => ?_) (fun  H locs ls q4 hP hD hS hl => ?_) (gC + 2) 0 _ _ _ (by omega) (by omega) (lt_0) hP hD hS (lv_sub hl [1, 0] rfl)
  · have hP : va_P (dC, dI) vwCl [(h0, .inr (0, [.int (nI gW), .int (nI gC), .int (nI gV), .int (nI gB), .ref hs, .int (nI gM), .int (nI gI), .ref hd])), (hs, .inl (a1, gW, .inl st)), (hd, .inr (1, [.ref hc, .int d.2.1, .int d.2.2.1, .int d.2.2.2.1, .int d.2.2.2.2])), (hc, .inl (a2, (gI + 4), .inl d.1))] H := hP
    have hD : va_D A [(h0, .inr (0, [.int (nI gW), .int (nI gC), .int (nI gV), .int (nI gB), .ref hs, .int (nI gM), .int (nI gI), .ref hd])), (hs, .inl (a1, gW, .inl st)), (hd, .inr (1, [.ref hc, .int d.2.1, .int d.2.2.1, .int d.2.2.2.1, .int d.2.2.2.2])), (hc, .inl (a2, (gI + 4), .inl d.1))] := hD
    refine lv_iload_n hx hb dX0_usedSlotWithStaged_26 rfl (lv_at hl 1 rfl) ?_
    exact W.iret (v := nI i) hx hb hr (fun t ht hW => ⟨⟨nI i, (st, d), rfl, ⟨Or.inr ⟨i, rfl, q1, q2, q3⟩, rfl⟩, by rw [ht]; exact hP, hD⟩, hS.F ht⟩) hS.2.2 dX0_usedSlotWithStaged_27
  · have hP : va_P (dC, dI) vwCl [(h0, .inr (0, [.int (nI gW), .int (nI gC), .int (nI gV), .int (nI gB), .ref hs, .int (nI gM), .int (nI gI), .ref hd])), (hs, .inl (a1, gW, .inl st)), (hd, .inr (1, [.ref hc, .int d.2.1, .int d.2.2.1, .int d.2.2.2.1, .int d.2.2.2.2])), (hc, .inl (a2, (gI + 4), .inl d.1))] H := hP
    have hD : va_D A [(h0, .inr (0, [.int (nI gW), .int (nI gC), .int (nI gV), .int (nI gB), .ref hs, .int (nI gM), .int (nI gI), .ref hd])), (hs, .inl (a1, gW, .inl st)), (hd, .inr (1, [.ref hc, .int d.2.1, .int d.2.2.1, .int d.2.2.2.1, .int d.2.2.2.2])), (hc, .inl (a2, (gI + 4), .inl d.1))] := hD
    refine lv_iconst (v := (-1)) hx hb dX0_usedSlotWithStaged_34 (by decide) ?_
    exact W.iret (v := (-1)) hx hb hr (fun t ht hW => ⟨⟨(-1), (st, d), rfl, ⟨Or.inl ⟨rfl, q4⟩, rfl⟩, by rw [ht]; exact hP, hD⟩, hS.F ht⟩) hS.2.2 dX0_usedSlotWithStaged_35
