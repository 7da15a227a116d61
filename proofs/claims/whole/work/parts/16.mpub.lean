set_option maxHeartbeats 4000000 in
set_option maxRecDepth 100000 in
theorem lp_X2_change_15 {p : Program} {l : Launch} {e : Env} {s : State} {m : MethodId} {args : Array Value} {below : List Frame} {meth : Method} {c : Code} {Q : State → Prop} {A : Nat → Prop} {dC : Nat → ClassId} {dI : Nat → Nat → Nat} (o0 om ow os og : Nat) (z1 z2 z3 z4 : ClassId) (gW gC gV gB : Nat) (hg : mge gW gC gV gB) (mp wa sl sg : Nat → Int32) (hp am ar dn rd : Int32) (n1 : Int32) (hx : p.tables.exec = Jvm.exec) (hb : c.code = cX2_change) (hml : c.maxLocals = 4) (hown : s.vm.findClass RX2 = some m.cls) (hts : ∀ w ∈ TBG, w.before args s = true) (hK : va_K (dC, dI) vwCl [(z1, .int), (z2, .int), (z3, .int), (z4, .int)] s) (hN : nwOk nwL s) (hA : ∀ q : Nat, s.heap.size ≤ q → A q)  (K : ∀  (H : Heap) (locs : List Loc) (ls : Array Slot), va_P (dC, dI) vwCl (mo_w o0 om ow os og z1 z2 z3 z4 gW gC gV gB (cpyN mp wa 24, wa, sl, sg, hp, am, ar, dn, rd)) H → va_D A (mo_w o0 om ow os og z1 z2 z3 z4 gW gC gV gB (cpyN mp wa 24, wa, sl, sg, hp, am, ar, dn, rd)) → va_S A s.heap H locs → lv_has ls 4 [(0, .ref o0), (1, .int n1)] → W p l e ({ frames := 1, cells := 0, slots := 0, locals := 22 } : Room) s m args below meth c H locs 0 0 Q (F0 m 39 ls [])) : ∀ (n : Nat) (i : Nat) (H : Heap) (locs : List Loc) (ls : Array Slot), 24 - i < n → (i ≤ 24) → va_P (dC, dI) vwCl (mo_w o0 om ow os og z1 z2 z3 z4 gW gC gV gB (cpyN mp wa i, wa, sl, sg, hp, am, ar, dn, rd)) H → va_D A (mo_w o0 om ow os og z1 z2 z3 z4 gW gC gV gB (cpyN mp wa i, wa, sl, sg, hp, am, ar, dn, rd)) → va_S A s.heap H locs → lv_has ls 4 [(0, .ref o0), (1, .int n1), (3, .int (nI i))] → W p l e ({ frames := 1, cells := 0, slots := 0, locals := 22 } : Room) s m args below meth c H locs 0 0 Q (F0 m 15 ls []) := by
  obtain ⟨⟨hW1, hW2⟩, ⟨hC1, hC2⟩, ⟨hV1, hV2⟩, ⟨hB1, hB2⟩⟩ := id hg
  intro n
  induction n with
  | zero => intro i H locs ls hfu; exact absurd hfu (by omega)
  | succ n ih =>
    intro i H locs ls hfu hi hP hD hS hl
    have hP : va_P (dC, dI) vwCl [(o0, .inr (2, [.int (nI gW), .int (nI gC), .int (nI gV), .int (nI gB), .ref om, .ref ow, .ref os, .ref og, .int hp, .int am, .int ar, .int dn, .int rd])), (om, .inl (z1, 24, .inl (cpyN mp wa i))), (ow, .inl (z2, 24, .inl wa)), (os, .inl (z3, 52, .inl sl)), (og, .inl (z4, 4, .inl sg))] H := hP
    have hD : va_D A [(o0, .inr (2, [.int (nI gW), .int (nI gC), .int (nI gV), .int (nI gB), .ref om, .ref ow, .ref os, .ref og, .int hp, .int am, .int ar, .int dn, .int rd])), (om, .inl (z1, 24, .inl (cpyN mp wa i))), (ow, .inl (z2, 24, .inl wa)), (os, .inl (z3, 52, .inl sl)), (og, .inl (z4, 4, .inl sg))] := hD
    refine lv_iload_n hx hb dX2_change_15 rfl (lv_at hl 2 rfl) ?_
    refine lv_bipush (v := 24) hx hb dX2_change_16 (by decide) ?_
    refine lv_icmp_ge (tgt := 39) hx hb dX2_change_18 (by decide) (fun c_1 => ?_) (fun c_1 => ?_)
    · have c_1 : 24 ≤ i := (nI_leI (a := 24) (b := i) (by omega) (by omega)).mp c_1
      have hie : i = 24 := by omega
      rw [hie] at hP hD
      exact K  _ _ _  hP hD hS (lv_sub hl [0, 1] rfl)
    · have c_1 : ¬ (24 ≤ i) := fun q9 => c_1 ((nI_leI (a := 24) (b := i) (by omega) (by omega)).mpr q9)
      refine lv_aload_n hx hb dX2_change_21 rfl (lv_at hl 0 rfl) ?_
      refine va_get (D := (dC, dI)) (ci := 2) (v := .ref om) (C := RX2) (T := TX2) (N := 13) hx hb hts inX2 hown hK hP 0 rfl rfl 4 (by decide) (hts _ tb_259) (fun _ h9 => h9) rfl dX2_change_22 ?_
      refine lv_iload_n hx hb dX2_change_25 rfl (lv_at hl 2 rfl) ?_
      refine lv_aload_n hx hb dX2_change_26 rfl (lv_at hl 0 rfl) ?_
      refine va_get (D := (dC, dI)) (ci := 2) (v := .ref ow) (C := RX2) (T := TX2) (N := 13) hx hb hts inX2 hown hK hP 0 rfl rfl 5 (by decide) (hts _ tb_260) (fun _ h9 => h9) rfl dX2_change_27 ?_
      refine lv_iload_n hx hb dX2_change_30 rfl (lv_at hl 2 rfl) ?_
      refine va_iald hx hb hK hP 2 1 rfl rfl (vp_in_nI (n := i) (by omega) (by omega)) dX2_change_31 ?_
      refine lv_topi (fun z_2 ez_2 => ?_)
      obtain rfl : z_2 = wa i := ez_2.trans (by rw [nI_clamp (n := i) (by omega)])
      refine va_iast hx hb hK hP hD hS 1 0 rfl rfl (vp_in_nI (n := i) (by omega) (by omega)) dX2_change_32 (fun H locs hP hD hS => ?_)
      have hP : va_P (dC, dI) vwCl [(o0, .inr (2, [.int (nI gW), .int (nI gC), .int (nI gV), .int (nI gB), .ref om, .ref ow, .ref os, .ref og, .int hp, .int am, .int ar, .int dn, .int rd])), (om, .inl (z1, 24, .inl (upd (cpyN mp wa i) (nI i).toNatClampNeg (wa i)))), (ow, .inl (z2, 24, .inl wa)), (os, .inl (z3, 52, .inl sl)), (og, .inl (z4, 4, .inl sg))] H := hP
      have hD : va_D A [(o0, .inr (2, [.int (nI gW), .int (nI gC), .int (nI gV), .int (nI gB), .ref om, .ref ow, .ref os, .ref og, .int hp, .int am, .int ar, .int dn, .int rd])), (om, .inl (z1, 24, .inl (upd (cpyN mp wa i) (nI i).toNatClampNeg (wa i)))), (ow, .inl (z2, 24, .inl wa)), (os, .inl (z3, 52, .inl sl)), (og, .inl (z4, 4, .inl sg))] := hD
      rw [nI_clamp (n := i) (by omega)] at hP hD
      refine lv_iinc (v := nI (i + 1)) (lv' := [(3, .int (nI (i + 1))), (0, .ref o0), (1, .int n1)]) hx hb dX2_change_33 hl (k := 2) rfl (nI_1 i) (by decide) rfl (fun ls hl => ?_)
      rw [cpyN_s] at hP hD
      refine lv_goto (tgt := 15) hx hb dX2_change_36 (by decide) ?_
      exact ih (i + 1) _ _ _ (by omega) (by omega) hP hD hS (lv_sub hl [1, 2, 0] rfl)
set_option maxHeartbeats 4000000 in
set_option maxRecDepth 100000 in
theorem k_X2_change (l : Launch) (dC : Nat → ClassId) (dI : Nat → Nat → Nat) (o0 om ow os og : Nat) (z1 z2 z3 z4 : ClassId) (gW gC gV gB : Nat) (hg : mge gW gC gV gB) (sz : Nat) (mp wa sl sg : Nat → Int32) (hp am ar dn rd : Int32) (n : Int32) : ctI nwL l yX2_change wsX2_change ({ frames := 1, cells := 0, slots := 0, locals := 22 } : Room) (dC, dI) [(z1, .int), (z2, .int), (z3, .int), (z4, .int)] (mo_w o0 om ow os og z1 z2 z3 z4 gW gC gV gB) (mp, wa, sl, sg, hp, am, ar, dn, rd) sz [.ref o0, .int n] (fun (r : Int32) (u : MS) => r = (m_chg mp wa sl sg hp am ar dn rd gW gC gV gB n).1 ∧ u = (m_chg mp wa sl sg hp am ar dn rd gW gC gV gB n).2) := by
  refine Met.ofW (cc := cX2_change) (maxL := 4) (ret := (some .int)) (by decide) rfl ?_
  intro p e s m args below meth c s₁ B hml hv
  obtain ⟨rfl, hsz, hP, hK, hD0, hN⟩ := hv
  have hx := B.exec
  have hb := B.bytes
  have hr := B.returns
  have hts := fun w h => atoms_spec (ws := wsX2_change) B.pre w (List.mem_cons_of_mem _ h)
  have hown : s.vm.findClass RX2 = some m.cls := findClass_of_methodNamed B.named
  have hlocks := B.notSynchronized
  subst hsz
  have hD := hD0.self (sz := s.heap.size)
  generalize hAe : va_A ((mo_w o0 om ow os og z1 z2 z3 z4 gW gC gV gB) (mp, wa, sl, sg, hp, am, ar, dn, rd)) s.heap.size = A at hD ⊢
  have hA : ∀ q : Nat, s.heap.size ≤ q → A q := fun q h => by rw [← hAe]; exact Or.inr h
  have hS : va_S A s.heap s.heap [] := va_S.rf
  have hl := lv_entry ([.ref o0, .int n]) (n := 4) (Nat.le_of_ble_eq_true rfl)
  rw [lg_entry_eq]
  generalize (lg_sl ([.ref o0, .int n]) ++ List.replicate (4 - (lg_sl ([.ref o0, .int n])).length) Slot.unset).toArray = ls at hl ⊢
  have hP : va_P (dC, dI) vwCl [(o0, .inr (2, [.int (nI gW), .int (nI gC), .int (nI gV), .int (nI gB), .ref om, .ref ow, .ref os, .ref og, .int hp, .int am, .int ar, .int dn, .int rd])), (om, .inl (z1, 24, .inl mp)), (ow, .inl (z2, 24, .inl wa)), (os, .inl (z3, 52, .inl sl)), (og, .inl (z4, 4, .inl sg))] s.heap := hP
  have hD : va_D A [(o0, .inr (2, [.int (nI gW), .int (nI gC), .int (nI gV), .int (nI gB), .ref om, .ref ow, .ref os, .ref og, .int hp, .int am, .int ar, .int dn, .int rd])), (om, .inl (z1, 24, .inl mp)), (ow, .inl (z2, 24, .inl wa)), (os, .inl (z3, 52, .inl sl)), (og, .inl (z4, 4, .inl sg))] := hD
  have hl : lv_has ls 4 [(0, .ref o0), (1, .int n)] := hl
  obtain ⟨⟨hW1, hW2⟩, ⟨hC1, hC2⟩, ⟨hV1, hV2⟩, ⟨hB1, hB2⟩⟩ := id hg
  refine lv_aload_n hx hb dX2_change_0 rfl (lv_at hl 0 rfl) ?_
  refine lv_iload_n hx hb dX2_change_1 rfl (lv_at hl 1 rfl) ?_
  refine lv_iconst (v := 5) hx hb dX2_change_2 (by decide) ?_
  refine lv_iadd hx hb dX2_change_3 ?_
  refine xr_i (D := (dC, dI)) (wf := (mo_w o0 om ow os og z1 z2 z3 z4 gW gC gV gB)) (u0 := (mp, wa, sl, sg, hp, am, ar, dn, rd)) (wr := []) (va_runV (As := [.int (n + 5)]) (rest := []) ⟨hx, hb, hml, hown, hts⟩ (k_X2_spend l dC dI o0 om ow os og z1 z2 z3 z4 gW gC gV gB hg s.heap.size mp wa sl sg hp am ar dn rd (n + 5)) (cwV 1 hts gX2_55 rfl rfl rfl (by decide +kernel) ⟨Nat.le_of_ble_eq_true rfl, Nat.le_of_ble_eq_true rfl⟩) (xp_v nwL_ok hK hN hP hD [0, 1, 2, 3, 4] rfl rfl (va_recv hK hP (ci := 2) (q0 := 0) rfl rfl)) rfl rfl hl.1 rfl (lv_room (Nat.le_of_ble_eq_true rfl)) dX2_change_4 ⟨Nat.zero_le _, Nat.zero_le _⟩) hP hD hS hA [0, 1, 2, 3, 4] [] rfl rfl (by decide) (by decide) (fun r_1 u_2 H locs hw hP hD hS => ?_)
  obtain ⟨er_1, hw⟩ := hw
  rw [er_1]
  rw [hw] at hP hD
  have hP : va_P (dC, dI) vwCl [(o0, .inr (2, [.int (nI gW), .int (nI gC), .int (nI gV), .int (nI gB), .ref om, .ref ow, .ref os, .ref og, .int (hp + m_many am (n + 5)), .int (m_left am (n + 5)), .int ar, .int (m_dn am (n + 5) dn), .int rd])), (om, .inl (z1, 24, .inl mp)), (ow, .inl (z2, 24, .inl wa)), (os, .inl (z3, 52, .inl sl)), (og, .inl (z4, 4, .inl sg))] H := hP
  have hD : va_D A [(o0, .inr (2, [.int (nI gW), .int (nI gC), .int (nI gV), .int (nI gB), .ref om, .ref ow, .ref os, .ref og, .int (hp + m_many am (n + 5)), .int (m_left am (n + 5)), .int ar, .int (m_dn am (n + 5) dn), .int rd])), (om, .inl (z1, 24, .inl mp)), (ow, .inl (z2, 24, .inl wa)), (os, .inl (z3, 52, .inl sl)), (og, .inl (z4, 4, .inl sg))] := hD
  refine lv_istore_n (lv' := [(2, .int (m_many am (n + 5))), (0, .ref o0), (1, .int n)]) hx hb dX2_change_7 rfl hl (by decide) rfl (fun ls hl => ?_)
  refine lv_iload_n hx hb dX2_change_8 rfl (lv_at hl 0 rfl) ?_
  refine lv_iconst (v := 4) hx hb dX2_change_9 (by decide) ?_
  refine lv_icmp_lt (tgt := 55) hx hb dX2_change_10 (by decide) (fun c_3 => ?_) (fun c_3 => ?_)
  · refine lv_aload_n hx hb dX2_change_55 rfl (lv_at hl 1 rfl) ?_
    refine va_get (D := (dC, dI)) (ci := 2) (v := .int (m_dn am (n + 5) dn)) (C := RX2) (T := TX2) (N := 13) hx hb hts inX2 hown hK hP 0 rfl rfl 11 (by decide) (hts _ tb_266) (fun _ h9 => h9) rfl dX2_change_56 ?_
    refine lv_if_eq (tgt := 67) hx hb dX2_change_59 (by decide) (fun c_4 => ?_) (fun c_4 => ?_)
    · refine lv_iconst (v := 0) hx hb dX2_change_67 (by decide) ?_
      exact W.iret (v := 0) hx hb hr (fun t ht hW => ⟨⟨0, (mp, wa, sl, sg, hp + m_many am (n + 5), m_left am (n + 5), ar, m_dn am (n + 5) dn, rd), rfl, ⟨by simp only [m_chg, if_pos c_3, if_pos c_4], by simp only [m_chg, if_pos c_3, if_pos c_4]⟩, by rw [ht]; exact hP, hD⟩, hS.F ht⟩) hS.2.2 dX2_change_68
    · refine lv_bipush (v := (-4)) hx hb dX2_change_62 (by decide) ?_
      refine lv_goto (tgt := 68) hx hb dX2_change_64 (by decide) ?_
      exact W.iret (v := (-4)) hx hb hr (fun t ht hW => ⟨⟨(-4), (mp, wa, sl, sg, hp + m_many am (n + 5), m_left am (n + 5), ar, m_dn am (n + 5) dn, rd), rfl, ⟨by simp only [m_chg, if_pos c_3, if_neg c_4], by simp only [m_chg, if_pos c_3, if_neg c_4]⟩, by rw [ht]; exact hP, hD⟩, hS.F ht⟩) hS.2.2 dX2_change_68
  · refine lv_iconst (v := 0) hx hb dX2_change_13 (by decide) ?_
    refine lv_istore_n (lv' := [(3, .int 0), (2, .int (m_many am (n + 5))), (0, .ref o0), (1, .int n)]) hx hb dX2_change_14 rfl hl (by decide) rfl (fun ls hl => ?_)
    have hl : lv_has ls 4 [(3, .int (nI 0)), (0, .ref o0), (1, .int n)] := lv_sub hl [0, 2, 3] rfl
    have e0 : mp = cpyN mp wa 0 := cpyN_0
    refine lp_X2_change_15 o0 om ow os og z1 z2 z3 z4 gW gC gV gB hg mp wa sl sg (hp + m_many am (n + 5)) (m_left am (n + 5)) ar (m_dn am (n + 5) dn) rd n hx hb hml hown hts hK hN hA (fun H locs ls hP hD hS hl => ?_) 25 0 _ _ _ (by omega) (by omega) (by rw [← e0]; exact hP) (by rw [← e0]; exact hD) hS (lv_sub hl [1, 2, 0] rfl)
    have hP : va_P (dC, dI) vwCl [(o0, .inr (2, [.int (nI gW), .int (nI gC), .int (nI gV), .int (nI gB), .ref om, .ref ow, .ref os, .ref og, .int (hp + m_many am (n + 5)), .int (m_left am (n + 5)), .int ar, .int (m_dn am (n + 5) dn), .int rd])), (om, .inl (z1, 24, .inl (cpyN mp wa 24))), (ow, .inl (z2, 24, .inl wa)), (os, .inl (z3, 52, .inl sl)), (og, .inl (z4, 4, .inl sg))] H := hP
    have hD : va_D A [(o0, .inr (2, [.int (nI gW), .int (nI gC), .int (nI gV), .int (nI gB), .ref om, .ref ow, .ref os, .ref og, .int (hp + m_many am (n + 5)), .int (m_left am (n + 5)), .int ar, .int (m_dn am (n + 5) dn), .int rd])), (om, .inl (z1, 24, .inl (cpyN mp wa 24))), (ow, .inl (z2, 24, .inl wa)), (os, .inl (z3, 52, .inl sl)), (og, .inl (z4, 4, .inl sg))] := hD
    refine lv_aload_n hx hb dX2_change_39 rfl (lv_at hl 0 rfl) ?_
    refine lv_aload_n hx hb dX2_change_40 rfl (lv_at hl 0 rfl) ?_
    refine va_get (D := (dC, dI)) (ci := 2) (v := .int (m_dn am (n + 5) dn)) (C := RX2) (T := TX2) (N := 13) hx hb hts inX2 hown hK hP 0 rfl rfl 11 (by decide) (hts _ tb_266) (fun _ h9 => h9) rfl dX2_change_41 ?_
    refine lv_if_eq (tgt := 51) hx hb dX2_change_44 (by decide) (fun c_5 => ?_) (fun c_5 => ?_)
    · refine lv_iconst (v := 0) hx hb dX2_change_51 (by decide) ?_
      refine va_put (D := (dC, dI)) (ci := 2) (v := .int 0) (ty := .int) (C := RX2) (T := TX2) (N := 13) hx hb hts inX2 tyX2 okX2 nmX2 hown hK hP hD hS 0 rfl rfl 12 (by decide) (hts _ tb_267) (fun _ h9 => h9) rfl (by decide +kernel) rfl rfl (Nat.le_of_ble_eq_true rfl) dX2_change_52 (fun H locs hP hD hS => ?_)
      have hP : va_P (dC, dI) vwCl [(o0, .inr (2, [.int (nI gW), .int (nI gC), .int (nI gV), .int (nI gB), .ref om, .ref ow, .ref os, .ref og, .int (hp + m_many am (n + 5)), .int (m_left am (n + 5)), .int ar, .int (m_dn am (n + 5) dn), .int 0])), (om, .inl (z1, 24, .inl (cpyN mp wa 24))), (ow, .inl (z2, 24, .inl wa)), (os, .inl (z3, 52, .inl sl)), (og, .inl (z4, 4, .inl sg))] H := hP
      have hD : va_D A [(o0, .inr (2, [.int (nI gW), .int (nI gC), .int (nI gV), .int (nI gB), .ref om, .ref ow, .ref os, .ref og, .int (hp + m_many am (n + 5)), .int (m_left am (n + 5)), .int ar, .int (m_dn am (n + 5) dn), .int 0])), (om, .inl (z1, 24, .inl (cpyN mp wa 24))), (ow, .inl (z2, 24, .inl wa)), (os, .inl (z3, 52, .inl sl)), (og, .inl (z4, 4, .inl sg))] := hD
      refine lv_aload_n hx hb dX2_change_55 rfl (lv_at hl 0 rfl) ?_
      refine va_get (D := (dC, dI)) (ci := 2) (v := .int (m_dn am (n + 5) dn)) (C := RX2) (T := TX2) (N := 13) hx hb hts inX2 hown hK hP 0 rfl rfl 11 (by decide) (hts _ tb_266) (fun _ h9 => h9) rfl dX2_change_56 ?_
      refine lv_if_eq (tgt := 67) hx hb dX2_change_59 (by decide) (fun c_6 => ?_) (fun c_6 => ?_)
      · refine lv_iconst (v := 0) hx hb dX2_change_67 (by decide) ?_
        exact W.iret (v := 0) hx hb hr (fun t ht hW => ⟨⟨0, (cpyN mp wa 24, wa, sl, sg, hp + m_many am (n + 5), m_left am (n + 5), ar, m_dn am (n + 5) dn, 0), rfl, ⟨by simp only [m_chg, if_neg c_3, if_pos c_5], by simp only [m_chg, if_neg c_3, if_pos c_5]⟩, by rw [ht]; exact hP, hD⟩, hS.F ht⟩) hS.2.2 dX2_change_68
      · exact absurd c_5 c_6
    · refine lv_iload_n hx hb dX2_change_47 rfl (lv_at hl 1 rfl) ?_
      refine lv_goto (tgt := 52) hx hb dX2_change_48 (by decide) ?_
      refine va_put (D := (dC, dI)) (ci := 2) (v := .int n) (ty := .int) (C := RX2) (T := TX2) (N := 13) hx hb hts inX2 tyX2 okX2 nmX2 hown hK hP hD hS 0 rfl rfl 12 (by decide) (hts _ tb_267) (fun _ h9 => h9) rfl (by decide +kernel) rfl rfl (Nat.le_of_ble_eq_true rfl) dX2_change_52 (fun H locs hP hD hS => ?_)
      have hP : va_P (dC, dI) vwCl [(o0, .inr (2, [.int (nI gW), .int (nI gC), .int (nI gV), .int (nI gB), .ref om, .ref ow, .ref os, .ref og, .int (hp + m_many am (n + 5)), .int (m_left am (n + 5)), .int ar, .int (m_dn am (n + 5) dn), .int n])), (om, .inl (z1, 24, .inl (cpyN mp wa 24))), (ow, .inl (z2, 24, .inl wa)), (os, .inl (z3, 52, .inl sl)), (og, .inl (z4, 4, .inl sg))] H := hP
      have hD : va_D A [(o0, .inr (2, [.int (nI gW), .int (nI gC), .int (nI gV), .int (nI gB), .ref om, .ref ow, .ref os, .ref og, .int (hp + m_many am (n + 5)), .int (m_left am (n + 5)), .int ar, .int (m_dn am (n + 5) dn), .int n])), (om, .inl (z1, 24, .inl (cpyN mp wa 24))), (ow, .inl (z2, 24, .inl wa)), (os, .inl (z3, 52, .inl sl)), (og, .inl (z4, 4, .inl sg))] := hD
      refine lv_aload_n hx hb dX2_change_55 rfl (lv_at hl 0 rfl) ?_
      refine va_get (D := (dC, dI)) (ci := 2) (v := .int (m_dn am (n + 5) dn)) (C := RX2) (T := TX2) (N := 13) hx hb hts inX2 hown hK hP 0 rfl rfl 11 (by decide) (hts _ tb_266) (fun _ h9 => h9) rfl dX2_change_56 ?_
      refine lv_if_eq (tgt := 67) hx hb dX2_change_59 (by decide) (fun c_7 => ?_) (fun c_7 => ?_)
      · exact absurd c_7 c_5
      · refine lv_bipush (v := (-4)) hx hb dX2_change_62 (by decide) ?_
        refine lv_goto (tgt := 68) hx hb dX2_change_64 (by decide) ?_
        exact W.iret (v := (-4)) hx hb hr (fun t ht hW => ⟨⟨(-4), (cpyN mp wa 24, wa, sl, sg, hp + m_many am (n + 5), m_left am (n + 5), ar, m_dn am (n + 5) dn, n), rfl, ⟨by simp only [m_chg, if_neg c_3, if_neg c_5], by simp only [m_chg, if_neg c_3, if_neg c_5]⟩, by rw [ht]; exact hP, hD⟩, hS.F ht⟩) hS.2.2 dX2_change_68
set_option maxHeartbeats 4000000 in
set_option maxRecDepth 100000 in
theorem k_X2_stageWord (l : Launch) (dC : Nat → ClassId) (dI : Nat → Nat → Nat) (o0 om ow os og : Nat) (z1 z2 z3 z4 : ClassId) (gW gC gV gB : Nat) (hg : mge gW gC gV gB) (sz : Nat) (mp wa sl sg : Nat → Int32) (hp am ar dn rd : Int32) (i x : Int32) : ctI nwL l yX2_stageWord wsX2_stageWord ({ frames := 1, cells := 0, slots := 0, locals := 21 } : Room) (dC, dI) [(z1, .int), (z2, .int), (z3, .int), (z4, .int)] (mo_w o0 om ow os og z1 z2 z3 z4 gW gC gV gB) (mp, wa, sl, sg, hp, am, ar, dn, rd) sz [.ref o0, .int i, .int x] (fun (r : Int32) (u : MS) => r = (m_stage mp wa sl sg hp am ar dn rd gW gC gV gB i x).1 ∧ u = (m_stage mp wa sl sg hp am ar dn rd gW gC gV gB i x).2) := by
  refine Met.ofW (cc := cX2_stageWord) (maxL := 3) (ret := (some .int)) (by decide) rfl ?_
  intro p e s m args below meth c s₁ B hml hv
  obtain ⟨rfl, hsz, hP, hK, hD0, hN⟩ := hv
  have hx := B.exec
  have hb := B.bytes
  have hr := B.returns
  have hts := fun w h => atoms_spec (ws := wsX2_stageWord) B.pre w (List.mem_cons_of_mem _ h)
  have hown : s.vm.findClass RX2 = some m.cls := findClass_of_methodNamed B.named
  have hlocks := B.notSynchronized
  subst hsz
  have hD := hD0.self (sz := s.heap.size)
  generalize hAe : va_A ((mo_w o0 om ow os og z1 z2 z3 z4 gW gC gV gB) (mp, wa, sl, sg, hp, am, ar, dn, rd)) s.heap.size = A at hD ⊢
  have hA : ∀ q : Nat, s.heap.size ≤ q → A q := fun q h => by rw [← hAe]; exact Or.inr h
  have hS : va_S A s.heap s.heap [] := va_S.rf
  have hl := lv_entry ([.ref o0, .int i, .int x]) (n := 3) (Nat.le_of_ble_eq_true rfl)
  rw [lg_entry_eq]
  generalize (lg_sl ([.ref o0, .int i, .int x]) ++ List.replicate (3 - (lg_sl ([.ref o0, .int i, .int x])).length) Slot.unset).toArray = ls at hl ⊢
  have hP : va_P (dC, dI) vwCl [(o0, .inr (2, [.int (nI gW), .int (nI gC), .int (nI gV), .int (nI gB), .ref om, .ref ow, .ref os, .ref og, .int hp, .int am, .int ar, .int dn, .int rd])), (om, .inl (z1, 24, .inl mp)), (ow, .inl (z2, 24, .inl wa)), (os, .inl (z3, 52, .inl sl)), (og, .inl (z4, 4, .inl sg))] s.heap := hP
  have hD : va_D A [(o0, .inr (2, [.int (nI gW), .int (nI gC), .int (nI gV), .int (nI gB), .ref om, .ref ow, .ref os, .ref og, .int hp, .int am, .int ar, .int dn, .int rd])), (om, .inl (z1, 24, .inl mp)), (ow, .inl (z2, 24, .inl wa)), (os, .inl (z3, 52, .inl sl)), (og, .inl (z4, 4, .inl sg))] := hD
  have hl : lv_has ls 3 [(0, .ref o0), (1, .int i), (2, .int x)] := hl
  obtain ⟨⟨hW1, hW2⟩, ⟨hC1, hC2⟩, ⟨hV1, hV2⟩, ⟨hB1, hB2⟩⟩ := id hg
  refine lv_aload_n hx hb dX2_stageWord_0 rfl (lv_at hl 0 rfl) ?_
  refine va_get (D := (dC, dI)) (ci := 2) (v := .int dn) (C := RX2) (T := TX2) (N := 13) hx hb hts inX2 hown hK hP 0 rfl rfl 11 (by decide) (hts _ tb_266) (fun _ h9 => h9) rfl dX2_stageWord_1 ?_
  refine lv_if_ne (tgt := 15) hx hb dX2_stageWord_4 (by decide) (fun c_1 => ?_) (fun c_1 => ?_)
  · refine lv_aload_n hx hb dX2_stageWord_15 rfl (lv_at hl 0 rfl) ?_
    refine va_get (D := (dC, dI)) (ci := 2) (v := .int dn) (C := RX2) (T := TX2) (N := 13) hx hb hts inX2 hown hK hP 0 rfl rfl 11 (by decide) (hts _ tb_266) (fun _ h9 => h9) rfl dX2_stageWord_16 ?_
    refine lv_if_eq (tgt := 27) hx hb dX2_stageWord_19 (by decide) (fun c_2 => ?_) (fun c_2 => ?_)
    · exact absurd c_2 c_1
    · refine lv_bipush (v := (-4)) hx hb dX2_stageWord_22 (by decide) ?_
      refine lv_goto (tgt := 28) hx hb dX2_stageWord_24 (by decide) ?_
      exact W.iret (v := (-4)) hx hb hr (fun t ht hW => ⟨⟨(-4), (mp, wa, sl, sg, hp, am, ar, dn, rd), rfl, ⟨by unfold m_stage; rw [if_neg c_1], by unfold m_stage; rw [if_neg c_1]⟩, by rw [ht]; exact hP, hD⟩, hS.F ht⟩) hS.2.2 dX2_stageWord_28
  · refine lv_aload_n hx hb dX2_stageWord_7 rfl (lv_at hl 0 rfl) ?_
    refine lv_iload_n hx hb dX2_stageWord_8 rfl (lv_at hl 1 rfl) ?_
    refine xr_i (D := (dC, dI)) (wf := (mo_w o0 om ow os og z1 z2 z3 z4 gW gC gV gB)) (u0 := (mp, wa, sl, sg, hp, am, ar, dn, rd)) (wr := []) (va_runV (As := [.int i]) (rest := []) ⟨hx, hb, hml, hown, hts⟩ (k_X2_isWord l dC dI o0 om ow os og z1 z2 z3 z4 gW gC gV gB hg s.heap.size mp wa sl sg hp am ar dn rd i) (cwV 1 hts gX2_69 rfl rfl rfl (by decide +kernel) ⟨Nat.le_of_ble_eq_true rfl, Nat.le_of_ble_eq_true rfl⟩) (xp_v nwL_ok hK hN hP hD [0, 1, 2, 3, 4] rfl rfl (va_recv hK hP (ci := 2) (q0 := 0) rfl rfl)) rfl rfl hl.1 rfl (lv_room (Nat.le_of_ble_eq_true rfl)) dX2_stageWord_9 ⟨Nat.zero_le _, Nat.zero_le _⟩) hP hD hS hA [0, 1, 2, 3, 4] [] rfl rfl (by decide) (by decide) (fun r_3 u_4 H locs hw hP hD hS => ?_)
    obtain ⟨er_3, eu_4⟩ := hw
    rw [eu_4] at hP hD
    rw [er_3]
    have hP : va_P (dC, dI) vwCl [(o0, .inr (2, [.int (nI gW), .int (nI gC), .int (nI gV), .int (nI gB), .ref om, .ref ow, .ref os, .ref og, .int hp, .int am, .int ar, .int dn, .int rd])), (om, .inl (z1, 24, .inl mp)), (ow, .inl (z2, 24, .inl wa)), (os, .inl (z3, 52, .inl sl)), (og, .inl (z4, 4, .inl sg))] H := hP
    have hD : va_D A [(o0, .inr (2, [.int (nI gW), .int (nI gC), .int (nI gV), .int (nI gB), .ref om, .ref ow, .ref os, .ref og, .int hp, .int am, .int ar, .int dn, .int rd])), (om, .inl (z1, 24, .inl mp)), (ow, .inl (z2, 24, .inl wa)), (os, .inl (z3, 52, .inl sl)), (og, .inl (z4, 4, .inl sg))] := hD
    refine lv_if_ne (tgt := 29) hx hb dX2_stageWord_12 (by decide) (fun c_5 => ?_) (fun c_5 => ?_)
    · obtain ⟨j, hj, ej⟩ := inR_nz (by omega) c_5
      have hl : lv_has ls 3 [(0, .ref o0), (1, .int (nI j)), (2, .int x)] := by have q9 := hl; rw [ej] at q9; exact q9
      refine lv_aload_n hx hb dX2_stageWord_29 rfl (lv_at hl 0 rfl) ?_
      refine va_get (D := (dC, dI)) (ci := 2) (v := .ref og) (C := RX2) (T := TX2) (N := 13) hx hb hts inX2 hown hK hP 0 rfl rfl 7 (by decide) (hts _ tb_262) (fun _ h9 => h9) rfl dX2_stageWord_30 ?_
      refine lv_iload_n hx hb dX2_stageWord_33 rfl (lv_at hl 1 rfl) ?_
      refine lv_iload_n hx hb dX2_stageWord_34 rfl (lv_at hl 2 rfl) ?_
      refine va_iast hx hb hK hP hD hS 4 3 rfl rfl (vp_in_nI (n := j) (by omega) (by omega)) dX2_stageWord_35 (fun H locs hP hD hS => ?_)
      have hP : va_P (dC, dI) vwCl [(o0, .inr (2, [.int (nI gW), .int (nI gC), .int (nI gV), .int (nI gB), .ref om, .ref ow, .ref os, .ref og, .int hp, .int am, .int ar, .int dn, .int rd])), (om, .inl (z1, 24, .inl mp)), (ow, .inl (z2, 24, .inl wa)), (os, .inl (z3, 52, .inl sl)), (og, .inl (z4, 4, .inl (upd sg (nI j).toNatClampNeg x)))] H := hP
      have hD : va_D A [(o0, .inr (2, [.int (nI gW), .int (nI gC), .int (nI gV), .int (nI gB), .ref om, .ref ow, .ref os, .ref og, .int hp, .int am, .int ar, .int dn, .int rd])), (om, .inl (z1, 24, .inl mp)), (ow, .inl (z2, 24, .inl wa)), (os, .inl (z3, 52, .inl sl)), (og, .inl (z4, 4, .inl (upd sg (nI j).toNatClampNeg x)))] := hD
      rw [nI_clamp (n := j) (by omega)] at hP hD
      refine lv_iconst (v := 0) hx hb dX2_stageWord_36 (by decide) ?_
      exact W.iret (v := 0) hx hb hr (fun t ht hW => ⟨⟨0, (mp, wa, sl, upd sg j x, hp, am, ar, dn, rd), rfl, ⟨by unfold m_stage; rw [if_pos c_1, if_neg c_5, ej, nI_clamp (n := j) (by omega)], by unfold m_stage; rw [if_pos c_1, if_neg c_5, ej, nI_clamp (n := j) (by omega)]⟩, by rw [ht]; exact hP, hD⟩, hS.F ht⟩) hS.2.2 dX2_stageWord_37
    · refine lv_aload_n hx hb dX2_stageWord_15 rfl (lv_at hl 0 rfl) ?_
      refine va_get (D := (dC, dI)) (ci := 2) (v := .int dn) (C := RX2) (T := TX2) (N := 13) hx hb hts inX2 hown hK hP 0 rfl rfl 11 (by decide) (hts _ tb_266) (fun _ h9 => h9) rfl dX2_stageWord_16 ?_
      refine lv_if_eq (tgt := 27) hx hb dX2_stageWord_19 (by decide) (fun c_6 => ?_) (fun c_6 => ?_)
      · refine lv_iconst (v := (-1)) hx hb dX2_stageWord_27 (by decide) ?_
        exact W.iret (v := (-1)) hx hb hr (fun t ht hW => ⟨⟨(-1), (mp, wa, sl, sg, hp, am, ar, dn, rd), rfl, ⟨by unfold m_stage; rw [if_pos c_1, if_pos c_5], by unfold m_stage; rw [if_pos c_1, if_pos c_5]⟩, by rw [ht]; exact hP, hD⟩, hS.F ht⟩) hS.2.2 dX2_stageWord_28
      · exact absurd c_1 c_6
set_option maxHeartbeats 4000000 in
set_option maxRecDepth 100000 in
theorem k_X2_readWord (l : Launch) (dC : Nat → ClassId) (dI : Nat → Nat → Nat) (o0 om ow os og : Nat) (z1 z2 z3 z4 : ClassId) (gW gC gV gB : Nat) (hg : mge gW gC gV gB) (sz : Nat) (mp wa sl sg : Nat → Int32) (hp am ar dn rd : Int32) (hmr : dn = 0 → ∀ v b, v < gV → b < gB → ∃ j, j ≤ gC + 1 ∧ mp (6 * v + b) = nI j) (vol lb i : Int32) : ctI nwL l yX2_readWord wsX2_readWord ({ frames := 2, cells := 0, slots := 0, locals := 43 } : Room) (dC, dI) [(z1, .int), (z2, .int), (z3, .int), (z4, .int)] (mo_w o0 om ow os og z1 z2 z3 z4 gW gC gV gB) (mp, wa, sl, sg, hp, am, ar, dn, rd) sz [.ref o0, .int vol, .int lb, .int i] (fun (r : Int32) (u : MS) => r = (m_read mp wa sl sg hp am ar dn rd gW gC gV gB vol lb i).1 ∧ u = (m_read mp wa sl sg hp am ar dn rd gW gC gV gB vol lb i).2) := by
  refine Met.ofW (cc := cX2_readWord) (maxL := 4) (ret := (some .int)) (by decide) rfl ?_
  intro p e s m args below meth c s₁ B hml hv
  obtain ⟨rfl, hsz, hP, hK, hD0, hN⟩ := hv
  have hx := B.exec
  have hb := B.bytes
  have hr := B.returns
  have hts := fun w h => atoms_spec (ws := wsX2_readWord) B.pre w (List.mem_cons_of_mem _ h)
  have hown : s.vm.findClass RX2 = some m.cls := findClass_of_methodNamed B.named
  have hlocks := B.notSynchronized
  subst hsz
  have hD := hD0.self (sz := s.heap.size)
  generalize hAe : va_A ((mo_w o0 om ow os og z1 z2 z3 z4 gW gC gV gB) (mp, wa, sl, sg, hp, am, ar, dn, rd)) s.heap.size = A at hD ⊢
  have hA : ∀ q : Nat, s.heap.size ≤ q → A q := fun q h => by rw [← hAe]; exact Or.inr h
  have hS : va_S A s.heap s.heap [] := va_S.rf
  have hl := lv_entry ([.ref o0, .int vol, .int lb, .int i]) (n := 4) (Nat.le_of_ble_eq_true rfl)
  rw [lg_entry_eq]
  generalize (lg_sl ([.ref o0, .int vol, .int lb, .int i]) ++ List.replicate (4 - (lg_sl ([.ref o0, .int vol, .int lb, .int i])).length) Slot.unset).toArray = ls at hl ⊢
  have hP : va_P (dC, dI) vwCl [(o0, .inr (2, [.int (nI gW), .int (nI gC), .int (nI gV), .int (nI gB), .ref om, .ref ow, .ref os, .ref og, .int hp, .int am, .int ar, .int dn, .int rd])), (om, .inl (z1, 24, .inl mp)), (ow, .inl (z2, 24, .inl wa)), (os, .inl (z3, 52, .inl sl)), (og, .inl (z4, 4, .inl sg))] s.heap := hP
  have hD : va_D A [(o0, .inr (2, [.int (nI gW), .int (nI gC), .int (nI gV), .int (nI gB), .ref om, .ref ow, .ref os, .ref og, .int hp, .int am, .int ar, .int dn, .int rd])), (om, .inl (z1, 24, .inl mp)), (ow, .inl (z2, 24, .inl wa)), (os, .inl (z3, 52, .inl sl)), (og, .inl (z4, 4, .inl sg))] := hD
  have hl : lv_has ls 4 [(0, .ref o0), (1, .int vol), (2, .int lb), (3, .int i)] := hl
  obtain ⟨⟨hW1, hW2⟩, ⟨hC1, hC2⟩, ⟨hV1, hV2⟩, ⟨hB1, hB2⟩⟩ := id hg
  refine lv_aload_n hx hb dX2_readWord_0 rfl (lv_at hl 0 rfl) ?_
  refine va_get (D := (dC, dI)) (ci := 2) (v := .int dn) (C := RX2) (T := TX2) (N := 13) hx hb hts inX2 hown hK hP 0 rfl rfl 11 (by decide) (hts _ tb_266) (fun _ h9 => h9) rfl dX2_readWord_1 ?_
  refine lv_if_eq (tgt := 10) hx hb dX2_readWord_4 (by decide) (fun c_1 => ?_) (fun c_1 => ?_)
  · refine lv_aload_n hx hb dX2_readWord_10 rfl (lv_at hl 0 rfl) ?_
    refine lv_iload_n hx hb dX2_readWord_11 rfl (lv_at hl 1 rfl) ?_
    refine lv_iload_n hx hb dX2_readWord_12 rfl (lv_at hl 2 rfl) ?_
    refine xr_i (D := (dC, dI)) (wf := (mo_w o0 om ow os og z1 z2 z3 z4 gW gC gV gB)) (u0 := (mp, wa, sl, sg, hp, am, ar, dn, rd)) (wr := []) (va_runV (As := [.int vol, .int lb]) (rest := []) ⟨hx, hb, hml, hown, hts⟩ (k_X2_block l dC dI o0 om ow os og z1 z2 z3 z4 gW gC gV gB hg s.heap.size mp wa sl sg hp am ar dn rd vol lb) (cwV 2 hts gX2_72 rfl rfl rfl (by decide +kernel) ⟨Nat.le_of_ble_eq_true rfl, Nat.le_of_ble_eq_true rfl⟩) (xp_v nwL_ok hK hN hP hD [0, 1, 2, 3, 4] rfl rfl (va_recv hK hP (ci := 2) (q0 := 0) rfl rfl)) rfl rfl hl.1 rfl (lv_room (Nat.le_of_ble_eq_true rfl)) dX2_readWord_13 ⟨Nat.zero_le _, Nat.zero_le _⟩) hP hD hS hA [0, 1, 2, 3, 4] [] rfl rfl (by decide) (by decide) (fun r_2 u_3 H locs hw hP hD hS => ?_)
    obtain ⟨er_2, eu_3⟩ := hw
    rw [eu_3] at hP hD
    rw [er_2]
    have hP : va_P (dC, dI) vwCl [(o0, .inr (2, [.int (nI gW), .int (nI gC), .int (nI gV), .int (nI gB), .ref om, .ref ow, .ref os, .ref og, .int hp, .int am, .int ar, .int dn, .int rd])), (om, .inl (z1, 24, .inl mp)), (ow, .inl (z2, 24, .inl wa)), (os, .inl (z3, 52, .inl sl)), (og, .inl (z4, 4, .inl sg))] H := hP
    have hD : va_D A [(o0, .inr (2, [.int (nI gW), .int (nI gC), .int (nI gV), .int (nI gB), .ref om, .ref ow, .ref os, .ref og, .int hp, .int am, .int ar, .int dn, .int rd])), (om, .inl (z1, 24, .inl mp)), (ow, .inl (z2, 24, .inl wa)), (os, .inl (z3, 52, .inl sl)), (og, .inl (z4, 4, .inl sg))] := hD
    refine lv_if_eq (tgt := 41) hx hb dX2_readWord_16 (by decide) (fun c_4 => ?_) (fun c_4 => ?_)
    · refine lv_iconst (v := 0) hx hb dX2_readWord_41 (by decide) ?_
      exact W.iret (v := 0) hx hb hr (fun t ht hW => ⟨⟨0, (mp, wa, sl, sg, hp, am, ar, dn, rd), rfl, ⟨by unfold m_read; rw [if_pos c_1, if_pos c_4], by unfold m_read; rw [if_pos c_1, if_pos c_4]⟩, by rw [ht]; exact hP, hD⟩, hS.F ht⟩) hS.2.2 dX2_readWord_42
    · obtain ⟨v, b, hv, hb9, ev, eb⟩ := inB_nz (by omega) (by omega) c_4
      have hl : lv_has ls 4 [(0, .ref o0), (1, .int (nI v)), (2, .int lb), (3, .int i)] := by have q9 := hl; rw [ev] at q9; exact q9
      have hl : lv_has ls 4 [(0, .ref o0), (1, .int (nI v)), (2, .int (nI b)), (3, .int i)] := by have q9 := hl; rw [eb] at q9; exact q9
      refine lv_aload_n hx hb dX2_readWord_19 rfl (lv_at hl 0 rfl) ?_
      refine lv_iload_n hx hb dX2_readWord_20 rfl (lv_at hl 3 rfl) ?_
      refine xr_i (D := (dC, dI)) (wf := (mo_w o0 om ow os og z1 z2 z3 z4 gW gC gV gB)) (u0 := (mp, wa, sl, sg, hp, am, ar, dn, rd)) (wr := []) (va_runV (As := [.int i]) (rest := []) ⟨hx, hb, hml, hown, hts⟩ (k_X2_isWord l dC dI o0 om ow os og z1 z2 z3 z4 gW gC gV gB hg H.size mp wa sl sg hp am ar dn rd i) (cwV 1 hts gX2_69 rfl rfl rfl (by decide +kernel) ⟨Nat.le_of_ble_eq_true rfl, Nat.le_of_ble_eq_true rfl⟩) (xp_v nwL_ok hK hN hP hD [0, 1, 2, 3, 4] rfl rfl (va_recv hK hP (ci := 2) (q0 := 0) rfl rfl)) rfl rfl hl.1 rfl (lv_room (Nat.le_of_ble_eq_true rfl)) dX2_readWord_21 ⟨Nat.zero_le _, Nat.zero_le _⟩) hP hD hS hA [0, 1, 2, 3, 4] [] rfl rfl (by decide) (by decide) (fun r_5 u_6 H locs hw hP hD hS => ?_)
      obtain ⟨er_5, eu_6⟩ := hw
      rw [eu_6] at hP hD
      rw [er_5]
      have hP : va_P (dC, dI) vwCl [(o0, .inr (2, [.int (nI gW), .int (nI gC), .int (nI gV), .int (nI gB), .ref om, .ref ow, .ref os, .ref og, .int hp, .int am, .int ar, .int dn, .int rd])), (om, .inl (z1, 24, .inl mp)), (ow, .inl (z2, 24, .inl wa)), (os, .inl (z3, 52, .inl sl)), (og, .inl (z4, 4, .inl sg))] H := hP
      have hD : va_D A [(o0, .inr (2, [.int (nI gW), .int (nI gC), .int (nI gV), .int (nI gB), .ref om, .ref ow, .ref os, .ref og, .int hp, .int am, .int ar, .int dn, .int rd])), (om, .inl (z1, 24, .inl mp)), (ow, .inl (z2, 24, .inl wa)), (os, .inl (z3, 52, .inl sl)), (og, .inl (z4, 4, .inl sg))] := hD
      refine lv_if_eq (tgt := 41) hx hb dX2_readWord_24 (by decide) (fun c_7 => ?_) (fun c_7 => ?_)
      · refine lv_iconst (v := 0) hx hb dX2_readWord_41 (by decide) ?_
        exact W.iret (v := 0) hx hb hr (fun t ht hW => ⟨⟨0, (mp, wa, sl, sg, hp, am, ar, dn, rd), rfl, ⟨by unfold m_read; rw [if_pos c_1, if_neg c_4, ev, eb, nI_clamp (n := v) (by omega), nI_clamp (n := b) (by omega), if_pos c_7], by unfold m_read; rw [if_pos c_1, if_neg c_4, ev, eb, nI_clamp (n := v) (by omega), nI_clamp (n := b) (by omega), if_pos c_7]⟩, by rw [ht]; exact hP, hD⟩, hS.F ht⟩) hS.2.2 dX2_readWord_42
      · obtain ⟨j, hj, ej⟩ := inR_nz (by omega) c_7
        have hl : lv_has ls 4 [(0, .ref o0), (1, .int (nI v)), (2, .int (nI b)), (3, .int (nI j))] := by have q9 := hl; rw [ej] at q9; exact q9
        refine lv_aload_n hx hb dX2_readWord_27 rfl (lv_at hl 0 rfl) ?_
        refine va_get (D := (dC, dI)) (ci := 2) (v := .ref om) (C := RX2) (T := TX2) (N := 13) hx hb hts inX2 hown hK hP 0 rfl rfl 4 (by decide) (hts _ tb_259) (fun _ h9 => h9) rfl dX2_readWord_28 ?_
        refine lv_bipush (v := 6) hx hb dX2_readWord_31 (by decide) ?_
        refine lv_iload_n hx hb dX2_readWord_33 rfl (lv_at hl 1 rfl) ?_
        refine lv_imul hx hb dX2_readWord_34 ?_
        refine lv_topi (fun z_8 ez_8 => ?_)
        obtain rfl : z_8 = nI (6 * v) := ez_8.trans (pk_mul 6 v)
        refine lv_iload_n hx hb dX2_readWord_35 rfl (lv_at hl 2 rfl) ?_
        refine lv_iadd hx hb dX2_readWord_36 ?_
        refine lv_topi (fun z_9 ez_9 => ?_)
        obtain rfl : z_9 = nI (6 * v + b) := ez_9.trans (nI_add (6 * v) b)
        refine va_iald hx hb hK hP 1 0 rfl rfl (vp_in_nI (n := 6 * v + b) (by omega) (by omega)) dX2_readWord_37 ?_
        refine lv_topi (fun z_10 ez_10 => ?_)
        obtain rfl : z_10 = mp (6 * v + b) := ez_10.trans (by rw [nI_clamp (n := 6 * v + b) (by omega)])
        refine lv_if_ne (tgt := 43) hx hb dX2_readWord_38 (by decide) (fun c_11 => ?_) (fun c_11 => ?_)
        · refine lv_aload_n hx hb dX2_readWord_43 rfl (lv_at hl 0 rfl) ?_
          refine va_get (D := (dC, dI)) (ci := 2) (v := .ref os) (C := RX2) (T := TX2) (N := 13) hx hb hts inX2 hown hK hP 0 rfl rfl 6 (by decide) (hts _ tb_261) (fun _ h9 => h9) rfl dX2_readWord_44 ?_
          refine lv_iconst (v := 4) hx hb dX2_readWord_47 (by decide) ?_
          refine lv_aload_n hx hb dX2_readWord_48 rfl (lv_at hl 0 rfl) ?_
          refine va_get (D := (dC, dI)) (ci := 2) (v := .ref om) (C := RX2) (T := TX2) (N := 13) hx hb hts inX2 hown hK hP 0 rfl rfl 4 (by decide) (hts _ tb_259) (fun _ h9 => h9) rfl dX2_readWord_49 ?_
          refine lv_bipush (v := 6) hx hb dX2_readWord_52 (by decide) ?_
          refine lv_iload_n hx hb dX2_readWord_54 rfl (lv_at hl 1 rfl) ?_
          refine lv_imul hx hb dX2_readWord_55 ?_
          refine lv_topi (fun z_12 ez_12 => ?_)
          obtain rfl : z_12 = nI (6 * v) := ez_12.trans (pk_mul 6 v)
          refine lv_iload_n hx hb dX2_readWord_56 rfl (lv_at hl 2 rfl) ?_
          refine lv_iadd hx hb dX2_readWord_57 ?_
          refine lv_topi (fun z_13 ez_13 => ?_)
          obtain rfl : z_13 = nI (6 * v + b) := ez_13.trans (nI_add (6 * v) b)
          refine va_iald hx hb hK hP 1 0 rfl rfl (vp_in_nI (n := 6 * v + b) (by omega) (by omega)) dX2_readWord_58 ?_
          refine lv_topi (fun z_14 ez_14 => ?_)
          obtain rfl : z_14 = mp (6 * v + b) := ez_14.trans (by rw [nI_clamp (n := 6 * v + b) (by omega)])
          refine lv_iconst (v := 1) hx hb dX2_readWord_59 (by decide) ?_
          refine lv_isub hx hb dX2_readWord_60 ?_
          obtain ⟨k, hk, ek⟩ := slot_of0 (hmr c_1 v b hv hb9) c_11
          refine lv_topi (fun z_15 ez_15 => ?_)
          obtain rfl : z_15 = nI k := ez_15.trans (ek)
          refine lv_imul hx hb dX2_readWord_61 ?_
          refine lv_topi (fun z_16 ez_16 => ?_)
          obtain rfl : z_16 = nI (4 * k) := ez_16.trans (pk_mul 4 k)
          refine lv_iload_n hx hb dX2_readWord_62 rfl (lv_at hl 3 rfl) ?_
          refine lv_iadd hx hb dX2_readWord_63 ?_
          refine lv_topi (fun z_17 ez_17 => ?_)
          obtain rfl : z_17 = nI (4 * k + j) := ez_17.trans (nI_add (4 * k) j)
          refine va_iald hx hb hK hP 3 2 rfl rfl (vp_in_nI (n := 4 * k + j) (by omega) (by omega)) dX2_readWord_64 ?_
          refine lv_topi (fun z_18 ez_18 => ?_)
          obtain rfl : z_18 = sl (4 * k + j) := ez_18.trans (by rw [nI_clamp (n := 4 * k + j) (by omega)])
          exact W.iret (v := sl (4 * k + j)) hx hb hr (fun t ht hW => ⟨⟨sl (4 * k + j), (mp, wa, sl, sg, hp, am, ar, dn, rd), rfl, ⟨by unfold m_read; rw [if_pos c_1, if_neg c_4, ev, eb, nI_clamp (n := v) (by omega), nI_clamp (n := b) (by omega), if_neg c_7, ej, nI_clamp (n := j) (by omega), if_neg c_11, ek, nI_clamp (n := k) (by omega)], by unfold m_read; rw [if_pos c_1, if_neg c_4, ev, eb, nI_clamp (n := v) (by omega), nI_clamp (n := b) (by omega), if_neg c_7, ej, nI_clamp (n := j) (by omega), if_neg c_11, ek, nI_clamp (n := k) (by omega)]⟩, by rw [ht]; exact hP, hD⟩, hS.F ht⟩) hS.2.2 dX2_readWord_65
        · refine lv_iconst (v := 0) hx hb dX2_readWord_41 (by decide) ?_
          exact W.iret (v := 0) hx hb hr (fun t ht hW => ⟨⟨0, (mp, wa, sl, sg, hp, am, ar, dn, rd), rfl, ⟨by unfold m_read; rw [if_pos c_1, if_neg c_4, ev, eb, nI_clamp (n := v) (by omega), nI_clamp (n := b) (by omega), if_neg c_7, ej, nI_clamp (n := j) (by omega), if_pos c_11], by unfold m_read; rw [if_pos c_1, if_neg c_4, ev, eb, nI_clamp (n := v) (by omega), nI_clamp (n := b) (by omega), if_neg c_7, ej, nI_clamp (n := j) (by omega), if_pos c_11]⟩, by rw [ht]; exact hP, hD⟩, hS.F ht⟩) hS.2.2 dX2_readWord_42
  · refine lv_bipush (v := (-4)) hx hb dX2_readWord_7 (by decide) ?_
    exact W.iret (v := (-4)) hx hb hr (fun t ht hW => ⟨⟨(-4), (mp, wa, sl, sg, hp, am, ar, dn, rd), rfl, ⟨by unfold m_read; rw [if_neg c_1], by unfold m_read; rw [if_neg c_1]⟩, by rw [ht]; exact hP, hD⟩, hS.F ht⟩) hS.2.2 dX2_readWord_9
set_option maxHeartbeats 4000000 in
set_option maxRecDepth 100000 in
theorem k_X2_trim (l : Launch) (dC : Nat → ClassId) (dI : Nat → Nat → Nat) (o0 om ow os og : Nat) (z1 z2 z3 z4 : ClassId) (gW gC gV gB : Nat) (hg : mge gW gC gV gB) (sz : Nat) (mp wa sl sg : Nat → Int32) (hp am ar dn rd : Int32) (vol lb : Int32) : ctI nwL l yX2_trim wsX2_trim ({ frames := 2, cells := 0, slots := 0, locals := 45 } : Room) (dC, dI) [(z1, .int), (z2, .int), (z3, .int), (z4, .int)] (mo_w o0 om ow os og z1 z2 z3 z4 gW gC gV gB) (mp, wa, sl, sg, hp, am, ar, dn, rd) sz [.ref o0, .int vol, .int lb] (fun (r : Int32) (u : MS) => r = (m_trim mp wa sl sg hp am ar dn rd gW gC gV gB vol lb).1 ∧ u = (m_trim mp wa sl sg hp am ar dn rd gW gC gV gB vol lb).2) := by
  refine Met.ofW (cc := cX2_trim) (maxL := 3) (ret := (some .int)) (by decide) rfl ?_
  intro p e s m args below meth c s₁ B hml hv
  obtain ⟨rfl, hsz, hP, hK, hD0, hN⟩ := hv
  have hx := B.exec
  have hb := B.bytes
  have hr := B.returns
  have hts := fun w h => atoms_spec (ws := wsX2_trim) B.pre w (List.mem_cons_of_mem _ h)
  have hown : s.vm.findClass RX2 = some m.cls := findClass_of_methodNamed B.named
  have hlocks := B.notSynchronized
  subst hsz
  have hD := hD0.self (sz := s.heap.size)
  generalize hAe : va_A ((mo_w o0 om ow os og z1 z2 z3 z4 gW gC gV gB) (mp, wa, sl, sg, hp, am, ar, dn, rd)) s.heap.size = A at hD ⊢
  have hA : ∀ q : Nat, s.heap.size ≤ q → A q := fun q h => by rw [← hAe]; exact Or.inr h
  have hS : va_S A s.heap s.heap [] := va_S.rf
  have hl := lv_entry ([.ref o0, .int vol, .int lb]) (n := 3) (Nat.le_of_ble_eq_true rfl)
  rw [lg_entry_eq]
  generalize (lg_sl ([.ref o0, .int vol, .int lb]) ++ List.replicate (3 - (lg_sl ([.ref o0, .int vol, .int lb])).length) Slot.unset).toArray = ls at hl ⊢
  have hP : va_P (dC, dI) vwCl [(o0, .inr (2, [.int (nI gW), .int (nI gC), .int (nI gV), .int (nI gB), .ref om, .ref ow, .ref os, .ref og, .int hp, .int am, .int ar, .int dn, .int rd])), (om, .inl (z1, 24, .inl mp)), (ow, .inl (z2, 24, .inl wa)), (os, .inl (z3, 52, .inl sl)), (og, .inl (z4, 4, .inl sg))] s.heap := hP
  have hD : va_D A [(o0, .inr (2, [.int (nI gW), .int (nI gC), .int (nI gV), .int (nI gB), .ref om, .ref ow, .ref os, .ref og, .int hp, .int am, .int ar, .int dn, .int rd])), (om, .inl (z1, 24, .inl mp)), (ow, .inl (z2, 24, .inl wa)), (os, .inl (z3, 52, .inl sl)), (og, .inl (z4, 4, .inl sg))] := hD
  have hl : lv_has ls 3 [(0, .ref o0), (1, .int vol), (2, .int lb)] := hl
  obtain ⟨⟨hW1, hW2⟩, ⟨hC1, hC2⟩, ⟨hV1, hV2⟩, ⟨hB1, hB2⟩⟩ := id hg
  refine lv_aload_n hx hb dX2_trim_0 rfl (lv_at hl 0 rfl) ?_
  refine va_get (D := (dC, dI)) (ci := 2) (v := .int dn) (C := RX2) (T := TX2) (N := 13) hx hb hts inX2 hown hK hP 0 rfl rfl 11 (by decide) (hts _ tb_266) (fun _ h9 => h9) rfl dX2_trim_1 ?_
  refine lv_if_eq (tgt := 10) hx hb dX2_trim_4 (by decide) (fun c_1 => ?_) (fun c_1 => ?_)
  · refine lv_aload_n hx hb dX2_trim_10 rfl (lv_at hl 0 rfl) ?_
    refine lv_iload_n hx hb dX2_trim_11 rfl (lv_at hl 1 rfl) ?_
    refine lv_iload_n hx hb dX2_trim_12 rfl (lv_at hl 2 rfl) ?_
    refine xr_i (D := (dC, dI)) (wf := (mo_w o0 om ow os og z1 z2 z3 z4 gW gC gV gB)) (u0 := (mp, wa, sl, sg, hp, am, ar, dn, rd)) (wr := []) (va_runV (As := [.int vol, .int lb]) (rest := []) ⟨hx, hb, hml, hown, hts⟩ (k_X2_block l dC dI o0 om ow os og z1 z2 z3 z4 gW gC gV gB hg s.heap.size mp wa sl sg hp am ar dn rd vol lb) (cwV 2 hts gX2_72 rfl rfl rfl (by decide +kernel) ⟨Nat.le_of_ble_eq_true rfl, Nat.le_of_ble_eq_true rfl⟩) (xp_v nwL_ok hK hN hP hD [0, 1, 2, 3, 4] rfl rfl (va_recv hK hP (ci := 2) (q0 := 0) rfl rfl)) rfl rfl hl.1 rfl (lv_room (Nat.le_of_ble_eq_true rfl)) dX2_trim_13 ⟨Nat.zero_le _, Nat.zero_le _⟩) hP hD hS hA [0, 1, 2, 3, 4] [] rfl rfl (by decide) (by decide) (fun r_2 u_3 H locs hw hP hD hS => ?_)
    obtain ⟨er_2, eu_3⟩ := hw
    rw [eu_3] at hP hD
    rw [er_2]
    have hP : va_P (dC, dI) vwCl [(o0, .inr (2, [.int (nI gW), .int (nI gC), .int (nI gV), .int (nI gB), .ref om, .ref ow, .ref os, .ref og, .int hp, .int am, .int ar, .int dn, .int rd])), (om, .inl (z1, 24, .inl mp)), (ow, .inl (z2, 24, .inl wa)), (os, .inl (z3, 52, .inl sl)), (og, .inl (z4, 4, .inl sg))] H := hP
    have hD : va_D A [(o0, .inr (2, [.int (nI gW), .int (nI gC), .int (nI gV), .int (nI gB), .ref om, .ref ow, .ref os, .ref og, .int hp, .int am, .int ar, .int dn, .int rd])), (om, .inl (z1, 24, .inl mp)), (ow, .inl (z2, 24, .inl wa)), (os, .inl (z3, 52, .inl sl)), (og, .inl (z4, 4, .inl sg))] := hD
    refine lv_if_ne (tgt := 21) hx hb dX2_trim_16 (by decide) (fun c_4 => ?_) (fun c_4 => ?_)
    · obtain ⟨v, b, hv, hb9, ev, eb⟩ := inB_nz (by omega) (by omega) c_4
      have hl : lv_has ls 3 [(0, .ref o0), (1, .int (nI v)), (2, .int lb)] := by have q9 := hl; rw [ev] at q9; exact q9
      have hl : lv_has ls 3 [(0, .ref o0), (1, .int (nI v)), (2, .int (nI b))] := by have q9 := hl; rw [eb] at q9; exact q9
      refine lv_aload_n hx hb dX2_trim_21 rfl (lv_at hl 0 rfl) ?_
      refine va_get (D := (dC, dI)) (ci := 2) (v := .ref om) (C := RX2) (T := TX2) (N := 13) hx hb hts inX2 hown hK hP 0 rfl rfl 4 (by decide) (hts _ tb_259) (fun _ h9 => h9) rfl dX2_trim_22 ?_
      refine lv_bipush (v := 6) hx hb dX2_trim_25 (by decide) ?_
      refine lv_iload_n hx hb dX2_trim_27 rfl (lv_at hl 1 rfl) ?_
      refine lv_imul hx hb dX2_trim_28 ?_
      refine lv_topi (fun z_5 ez_5 => ?_)
      obtain rfl : z_5 = nI (6 * v) := ez_5.trans (pk_mul 6 v)
      refine lv_iload_n hx hb dX2_trim_29 rfl (lv_at hl 2 rfl) ?_
      refine lv_iadd hx hb dX2_trim_30 ?_
      refine lv_topi (fun z_6 ez_6 => ?_)
      obtain rfl : z_6 = nI (6 * v + b) := ez_6.trans (nI_add (6 * v) b)
      refine va_iald hx hb hK hP 1 0 rfl rfl (vp_in_nI (n := 6 * v + b) (by omega) (by omega)) dX2_trim_31 ?_
      refine lv_topi (fun z_7 ez_7 => ?_)
      obtain rfl : z_7 = mp (6 * v + b) := ez_7.trans (by rw [nI_clamp (n := 6 * v + b) (by omega)])
      refine lv_if_ne (tgt := 38) hx hb dX2_trim_32 (by decide) (fun c_8 => ?_) (fun c_8 => ?_)
      · refine lv_aload_n hx hb dX2_trim_38 rfl (lv_at hl 0 rfl) ?_
        refine xr_v (D := (dC, dI)) (wf := (mo_w o0 om ow os og z1 z2 z3 z4 gW gC gV gB)) (u0 := (mp, wa, sl, sg, hp, am, ar, dn, rd)) (wr := []) (va_runV (As := []) (rest := []) ⟨hx, hb, hml, hown, hts⟩ (k_X2_wantAsIs l dC dI o0 om ow os og z1 z2 z3 z4 gW gC gV gB hg H.size mp wa sl sg hp am ar dn rd ) (cwV 0 hts gX2_86 rfl rfl rfl (by decide +kernel) ⟨Nat.le_of_ble_eq_true rfl, Nat.le_of_ble_eq_true rfl⟩) (xp_v nwL_ok hK hN hP hD [0, 1, 2, 3, 4] rfl rfl (va_recv hK hP (ci := 2) (q0 := 0) rfl rfl)) rfl rfl hl.1 rfl (lv_room (Nat.le_of_ble_eq_true rfl)) dX2_trim_39 ⟨Nat.zero_le _, Nat.zero_le _⟩) hP hD hS hA [0, 1, 2, 3, 4] [] rfl rfl (by decide) (by decide) (fun u_10 H locs hw hP hD hS => ?_)
        rw [hw] at hP hD
        have hP : va_P (dC, dI) vwCl [(o0, .inr (2, [.int (nI gW), .int (nI gC), .int (nI gV), .int (nI gB), .ref om, .ref ow, .ref os, .ref og, .int hp, .int am, .int ar, .int dn, .int rd])), (om, .inl (z1, 24, .inl mp)), (ow, .inl (z2, 24, .inl (cpyN wa mp 24))), (os, .inl (z3, 52, .inl sl)), (og, .inl (z4, 4, .inl sg))] H := hP
        have hD : va_D A [(o0, .inr (2, [.int (nI gW), .int (nI gC), .int (nI gV), .int (nI gB), .ref om, .ref ow, .ref os, .ref og, .int hp, .int am, .int ar, .int dn, .int rd])), (om, .inl (z1, 24, .inl mp)), (ow, .inl (z2, 24, .inl (cpyN wa mp 24))), (os, .inl (z3, 52, .inl sl)), (og, .inl (z4, 4, .inl sg))] := hD
        refine lv_aload_n hx hb dX2_trim_42 rfl (lv_at hl 0 rfl) ?_
        refine va_get (D := (dC, dI)) (ci := 2) (v := .ref ow) (C := RX2) (T := TX2) (N := 13) hx hb hts inX2 hown hK hP 0 rfl rfl 5 (by decide) (hts _ tb_260) (fun _ h9 => h9) rfl dX2_trim_43 ?_
        refine lv_bipush (v := 6) hx hb dX2_trim_46 (by decide) ?_
        refine lv_iload_n hx hb dX2_trim_48 rfl (lv_at hl 1 rfl) ?_
        refine lv_imul hx hb dX2_trim_49 ?_
        refine lv_topi (fun z_11 ez_11 => ?_)
        obtain rfl : z_11 = nI (6 * v) := ez_11.trans (pk_mul 6 v)
        refine lv_iload_n hx hb dX2_trim_50 rfl (lv_at hl 2 rfl) ?_
        refine lv_iadd hx hb dX2_trim_51 ?_
        refine lv_topi (fun z_12 ez_12 => ?_)
        obtain rfl : z_12 = nI (6 * v + b) := ez_12.trans (nI_add (6 * v) b)
        refine lv_iconst (v := 0) hx hb dX2_trim_52 (by decide) ?_
        refine va_iast hx hb hK hP hD hS 2 1 rfl rfl (vp_in_nI (n := 6 * v + b) (by omega) (by omega)) dX2_trim_53 (fun H locs hP hD hS => ?_)
        have hP : va_P (dC, dI) vwCl [(o0, .inr (2, [.int (nI gW), .int (nI gC), .int (nI gV), .int (nI gB), .ref om, .ref ow, .ref os, .ref og, .int hp, .int am, .int ar, .int dn, .int rd])), (om, .inl (z1, 24, .inl mp)), (ow, .inl (z2, 24, .inl (upd (cpyN wa mp 24) (nI (6 * v + b)).toNatClampNeg 0))), (os, .inl (z3, 52, .inl sl)), (og, .inl (z4, 4, .inl sg))] H := hP
        have hD : va_D A [(o0, .inr (2, [.int (nI gW), .int (nI gC), .int (nI gV), .int (nI gB), .ref om, .ref ow, .ref os, .ref og, .int hp, .int am, .int ar, .int dn, .int rd])), (om, .inl (z1, 24, .inl mp)), (ow, .inl (z2, 24, .inl (upd (cpyN wa mp 24) (nI (6 * v + b)).toNatClampNeg 0))), (os, .inl (z3, 52, .inl sl)), (og, .inl (z4, 4, .inl sg))] := hD
        rw [nI_clamp (n := 6 * v + b) (by omega)] at hP hD
        refine lv_aload_n hx hb dX2_trim_54 rfl (lv_at hl 0 rfl) ?_
        refine lv_iconst (v := 1) hx hb dX2_trim_55 (by decide) ?_
        refine xr_i (D := (dC, dI)) (wf := (mo_w o0 om ow os og z1 z2 z3 z4 gW gC gV gB)) (u0 := (mp, upd (cpyN wa mp 24) (6 * v + b) 0, sl, sg, hp, am, ar, dn, rd)) (wr := []) (va_runV (As := [.int 1]) (rest := []) ⟨hx, hb, hml, hown, hts⟩ (k_X2_change l dC dI o0 om ow os og z1 z2 z3 z4 gW gC gV gB hg H.size mp (upd (cpyN wa mp 24) (6 * v + b) 0) sl sg hp am ar dn rd 1) (cwV 1 hts gX2_89 rfl rfl rfl (by decide +kernel) ⟨Nat.le_of_ble_eq_true rfl, Nat.le_of_ble_eq_true rfl⟩) (xp_v nwL_ok hK hN hP hD [0, 1, 2, 3, 4] rfl rfl (va_recv hK hP (ci := 2) (q0 := 0) rfl rfl)) rfl rfl hl.1 rfl (lv_room (Nat.le_of_ble_eq_true rfl)) dX2_trim_56 ⟨Nat.zero_le _, Nat.zero_le _⟩) hP hD hS hA [0, 1, 2, 3, 4] [] rfl rfl (by decide) (by decide) (fun r_13 u_14 H locs hw hP hD hS => ?_)
        exact W.iret (v := r_13) hx hb hr (fun t ht hW => ⟨⟨r_13, u_14, rfl, ⟨by unfold m_trim; rw [if_pos c_1, if_neg c_4, ev, eb, nI_clamp (n := v) (by omega), nI_clamp (n := b) (by omega), if_neg c_8]; exact hw.1, by unfold m_trim; rw [if_pos c_1, if_neg c_4, ev, eb, nI_clamp (n := v) (by omega), nI_clamp (n := b) (by omega), if_neg c_8]; exact hw.2⟩, by rw [ht]; exact hP, hD⟩, hS.F ht⟩) hS.2.2 dX2_trim_59
      · refine lv_bipush (v := (-3)) hx hb dX2_trim_35 (by decide) ?_
        exact W.iret (v := (-3)) hx hb hr (fun t ht hW => ⟨⟨(-3), (mp, wa, sl, sg, hp, am, ar, dn, rd), rfl, ⟨by unfold m_trim; rw [if_pos c_1, if_neg c_4, ev, eb, nI_clamp (n := v) (by omega), nI_clamp (n := b) (by omega), if_pos c_8], by unfold m_trim; rw [if_pos c_1, if_neg c_4, ev, eb, nI_clamp (n := v) (by omega), nI_clamp (n := b) (by omega), if_pos c_8]⟩, by rw [ht]; exact hP, hD⟩, hS.F ht⟩) hS.2.2 dX2_trim_37
    · refine lv_iconst (v := (-1)) hx hb dX2_trim_19 (by decide) ?_
      exact W.iret (v := (-1)) hx hb hr (fun t ht hW => ⟨⟨(-1), (mp, wa, sl, sg, hp, am, ar, dn, rd), rfl, ⟨by unfold m_trim; rw [if_pos c_1, if_pos c_4], by unfold m_trim; rw [if_pos c_1, if_pos c_4]⟩, by rw [ht]; exact hP, hD⟩, hS.F ht⟩) hS.2.2 dX2_trim_20
  · refine lv_bipush (v := (-4)) hx hb dX2_trim_7 (by decide) ?_
    exact W.iret (v := (-4)) hx hb hr (fun t ht hW => ⟨⟨(-4), (mp, wa, sl, sg, hp, am, ar, dn, rd), rfl, ⟨by unfold m_trim; rw [if_neg c_1], by unfold m_trim; rw [if_neg c_1]⟩, by rw [ht]; exact hP, hD⟩, hS.F ht⟩) hS.2.2 dX2_trim_9
set_option maxHeartbeats 4000000 in
set_option maxRecDepth 100000 in
theorem lp_X2_cloneVol_34 {p : Program} {l : Launch} {e : Env} {s : State} {m : MethodId} {args : Array Value} {below : List Frame} {meth : Method} {c : Code} {Q : State → Prop} {A : Nat → Prop} {dC : Nat → ClassId} {dI : Nat → Nat → Nat} (o0 om ow os og : Nat) (z1 z2 z3 z4 : ClassId) (gW gC gV gB : Nat) (hg : mge gW gC gV gB) (mp wa sl sg : Nat → Int32) (hp am ar dn rd : Int32) (o v : Nat) (ho : o < gV) (hv : v < gV) (hx : p.tables.exec = Jvm.exec) (hb : c.code = cX2_cloneVol) (hml : c.maxLocals = 4) (hown : s.vm.findClass RX2 = some m.cls) (hts : ∀ w ∈ TBG, w.before args s = true) (hK : va_K (dC, dI) vwCl [(z1, .int), (z2, .int), (z3, .int), (z4, .int)] s) (hN : nwOk nwL s) (hA : ∀ q : Nat, s.heap.size ≤ q → A q)  (K : ∀  (H : Heap) (locs : List Loc) (ls : Array Slot), va_P (dC, dI) vwCl (mo_w o0 om ow os og z1 z2 z3 z4 gW gC gV gB (mp, cloN wa mp o v 6, sl, sg, hp, am, ar, dn, rd)) H → va_D A (mo_w o0 om ow os og z1 z2 z3 z4 gW gC gV gB (mp, cloN wa mp o v 6, sl, sg, hp, am, ar, dn, rd)) → va_S A s.heap H locs → lv_has ls 4 [(0, .ref o0)] → W p l e ({ frames := 2, cells := 0, slots := 0, locals := 45 } : Room) s m args below meth c H locs 0 0 Q (F0 m 68 ls [])) : ∀ (n : Nat) (i : Nat) (H : Heap) (locs : List Loc) (ls : Array Slot), 6 - i < n → (i ≤ 6) → va_P (dC, dI) vwCl (mo_w o0 om ow os og z1 z2 z3 z4 gW gC gV gB (mp, cloN wa mp o v i, sl, sg, hp, am, ar, dn, rd)) H → va_D A (mo_w o0 om ow os og z1 z2 z3 z4 gW gC gV gB (mp, cloN wa mp o v i, sl, sg, hp, am, ar, dn, rd)) → va_S A s.heap H locs → lv_has ls 4 [(0, .ref o0), (1, .int (nI o)), (2, .int (nI v)), (3, .int (nI i))] → W p l e ({ frames := 2, cells := 0, slots := 0, locals := 45 } : Room) s m args below meth c H locs 0 0 Q (F0 m 34 ls []) := by
  obtain ⟨⟨hW1, hW2⟩, ⟨hC1, hC2⟩, ⟨hV1, hV2⟩, ⟨hB1, hB2⟩⟩ := id hg
  intro n
  induction n with
  | zero => intro i H locs ls hfu; exact absurd hfu (by omega)
  | succ n ih =>
    intro i H locs ls hfu hi hP hD hS hl
    have hP : va_P (dC, dI) vwCl [(o0, .inr (2, [.int (nI gW), .int (nI gC), .int (nI gV), .int (nI gB), .ref om, .ref ow, .ref os, .ref og, .int hp, .int am, .int ar, .int dn, .int rd])), (om, .inl (z1, 24, .inl mp)), (ow, .inl (z2, 24, .inl (cloN wa mp o v i))), (os, .inl (z3, 52, .inl sl)), (og, .inl (z4, 4, .inl sg))] H := hP
    have hD : va_D A [(o0, .inr (2, [.int (nI gW), .int (nI gC), .int (nI gV), .int (nI gB), .ref om, .ref ow, .ref os, .ref og, .int hp, .int am, .int ar, .int dn, .int rd])), (om, .inl (z1, 24, .inl mp)), (ow, .inl (z2, 24, .inl (cloN wa mp o v i))), (os, .inl (z3, 52, .inl sl)), (og, .inl (z4, 4, .inl sg))] := hD
    refine lv_iload_n hx hb dX2_cloneVol_34 rfl (lv_at hl 3 rfl) ?_
    refine lv_bipush (v := 6) hx hb dX2_cloneVol_35 (by decide) ?_
    refine lv_icmp_ge (tgt := 68) hx hb dX2_cloneVol_37 (by decide) (fun c_1 => ?_) (fun c_1 => ?_)
    · have c_1 : 6 ≤ i := (nI_leI (a := 6) (b := i) (by omega) (by omega)).mp c_1
      have hie : i = 6 := by omega
      rw [hie] at hP hD
      exact K  _ _ _  hP hD hS (lv_sub hl [0] rfl)
    · have c_1 : ¬ (6 ≤ i) := fun q9 => c_1 ((nI_leI (a := 6) (b := i) (by omega) (by omega)).mpr q9)
      refine lv_aload_n hx hb dX2_cloneVol_40 rfl (lv_at hl 0 rfl) ?_
      refine va_get (D := (dC, dI)) (ci := 2) (v := .ref ow) (C := RX2) (T := TX2) (N := 13) hx hb hts inX2 hown hK hP 0 rfl rfl 5 (by decide) (hts _ tb_260) (fun _ h9 => h9) rfl dX2_cloneVol_41 ?_
      refine lv_bipush (v := 6) hx hb dX2_cloneVol_44 (by decide) ?_
      refine lv_iload_n hx hb dX2_cloneVol_46 rfl (lv_at hl 2 rfl) ?_
      refine lv_imul hx hb dX2_cloneVol_47 ?_
      refine lv_topi (fun z_2 ez_2 => ?_)
      obtain rfl : z_2 = nI (6 * v) := ez_2.trans (pk_mul 6 v)
      refine lv_iload_n hx hb dX2_cloneVol_48 rfl (lv_at hl 3 rfl) ?_
      refine lv_iadd hx hb dX2_cloneVol_49 ?_
      refine lv_topi (fun z_3 ez_3 => ?_)
      obtain rfl : z_3 = nI (6 * v + i) := ez_3.trans (nI_add (6 * v) i)
      refine lv_aload_n hx hb dX2_cloneVol_50 rfl (lv_at hl 0 rfl) ?_
      refine va_get (D := (dC, dI)) (ci := 2) (v := .ref om) (C := RX2) (T := TX2) (N := 13) hx hb hts inX2 hown hK hP 0 rfl rfl 4 (by decide) (hts _ tb_259) (fun _ h9 => h9) rfl dX2_cloneVol_51 ?_
      refine lv_bipush (v := 6) hx hb dX2_cloneVol_54 (by decide) ?_
      refine lv_iload_n hx hb dX2_cloneVol_56 rfl (lv_at hl 1 rfl) ?_
      refine lv_imul hx hb dX2_cloneVol_57 ?_
      refine lv_topi (fun z_4 ez_4 => ?_)
      obtain rfl : z_4 = nI (6 * o) := ez_4.trans (pk_mul 6 o)
      refine lv_iload_n hx hb dX2_cloneVol_58 rfl (lv_at hl 3 rfl) ?_
      refine lv_iadd hx hb dX2_cloneVol_59 ?_
      refine lv_topi (fun z_5 ez_5 => ?_)
      obtain rfl : z_5 = nI (6 * o + i) := ez_5.trans (nI_add (6 * o) i)
      refine va_iald hx hb hK hP 1 0 rfl rfl (vp_in_nI (n := 6 * o + i) (by omega) (by omega)) dX2_cloneVol_60 ?_
      refine lv_topi (fun z_6 ez_6 => ?_)
      obtain rfl : z_6 = mp (6 * o + i) := ez_6.trans (by rw [nI_clamp (n := 6 * o + i) (by omega)])
      refine va_iast hx hb hK hP hD hS 2 1 rfl rfl (vp_in_nI (n := 6 * v + i) (by omega) (by omega)) dX2_cloneVol_61 (fun H locs hP hD hS => ?_)
      have hP : va_P (dC, dI) vwCl [(o0, .inr (2, [.int (nI gW), .int (nI gC), .int (nI gV), .int (nI gB), .ref om, .ref ow, .ref os, .ref og, .int hp, .int am, .int ar, .int dn, .int rd])), (om, .inl (z1, 24, .inl mp)), (ow, .inl (z2, 24, .inl (upd (cloN wa mp o v i) (nI (6 * v + i)).toNatClampNeg (mp (6 * o + i))))), (os, .inl (z3, 52, .inl sl)), (og, .inl (z4, 4, .inl sg))] H := hP
      have hD : va_D A [(o0, .inr (2, [.int (nI gW), .int (nI gC), .int (nI gV), .int (nI gB), .ref om, .ref ow, .ref os, .ref og, .int hp, .int am, .int ar, .int dn, .int rd])), (om, .inl (z1, 24, .inl mp)), (ow, .inl (z2, 24, .inl (upd (cloN wa mp o v i) (nI (6 * v + i)).toNatClampNeg (mp (6 * o + i))))), (os, .inl (z3, 52, .inl sl)), (og, .inl (z4, 4, .inl sg))] := hD
      rw [nI_clamp (n := 6 * v + i) (by omega)] at hP hD
      refine lv_iinc (v := nI (i + 1)) (lv' := [(3, .int (nI (i + 1))), (0, .ref o0), (1, .int (nI o)), (2, .int (nI v))]) hx hb dX2_cloneVol_62 hl (k := 3) rfl (nI_1 i) (by decide) rfl (fun ls hl => ?_)
      have e9 : upd (cloN wa mp o v i) (6 * v + i) (mp (6 * o + i)) = cloN wa mp o v (i + 1) := rfl
      rw [e9] at hP hD
      refine lv_goto (tgt := 34) hx hb dX2_cloneVol_65 (by decide) ?_
      exact ih (i + 1) _ _ _ (by omega) (by omega) hP hD hS (lv_sub hl [1, 2, 3, 0] rfl)
set_option maxHeartbeats 4000000 in
set_option maxRecDepth 100000 in
theorem k_X2_cloneVol (l : Launch) (dC : Nat → ClassId) (dI : Nat → Nat → Nat) (o0 om ow os og : Nat) (z1 z2 z3 z4 : ClassId) (gW gC gV gB : Nat) (hg : mge gW gC gV gB) (sz : Nat) (mp wa sl sg : Nat → Int32) (hp am ar dn rd : Int32) (src dst : Int32) : ctI nwL l yX2_cloneVol wsX2_cloneVol ({ frames := 2, cells := 0, slots := 0, locals := 45 } : Room) (dC, dI) [(z1, .int), (z2, .int), (z3, .int), (z4, .int)] (mo_w o0 om ow os og z1 z2 z3 z4 gW gC gV gB) (mp, wa, sl, sg, hp, am, ar, dn, rd) sz [.ref o0, .int src, .int dst] (fun (r : Int32) (u : MS) => r = (m_clone mp wa sl sg hp am ar dn rd gW gC gV gB src dst).1 ∧ u = (m_clone mp wa sl sg hp am ar dn rd gW gC gV gB src dst).2) := by
  refine Met.ofW (cc := cX2_cloneVol) (maxL := 4) (ret := (some .int)) (by decide) rfl ?_
  intro p e s m args below meth c s₁ B hml hv
  obtain ⟨rfl, hsz, hP, hK, hD0, hN⟩ := hv
  have hx := B.exec
  have hb := B.bytes
  have hr := B.returns
  have hts := fun w h => atoms_spec (ws := wsX2_cloneVol) B.pre w (List.mem_cons_of_mem _ h)
  have hown : s.vm.findClass RX2 = some m.cls := findClass_of_methodNamed B.named
  have hlocks := B.notSynchronized
  subst hsz
  have hD := hD0.self (sz := s.heap.size)
  generalize hAe : va_A ((mo_w o0 om ow os og z1 z2 z3 z4 gW gC gV gB) (mp, wa, sl, sg, hp, am, ar, dn, rd)) s.heap.size = A at hD ⊢
  have hA : ∀ q : Nat, s.heap.size ≤ q → A q := fun q h => by rw [← hAe]; exact Or.inr h
  have hS : va_S A s.heap s.heap [] := va_S.rf
  have hl := lv_entry ([.ref o0, .int src, .int dst]) (n := 4) (Nat.le_of_ble_eq_true rfl)
  rw [lg_entry_eq]
  generalize (lg_sl ([.ref o0, .int src, .int dst]) ++ List.replicate (4 - (lg_sl ([.ref o0, .int src, .int dst])).length) Slot.unset).toArray = ls at hl ⊢
  have hP : va_P (dC, dI) vwCl [(o0, .inr (2, [.int (nI gW), .int (nI gC), .int (nI gV), .int (nI gB), .ref om, .ref ow, .ref os, .ref og, .int hp, .int am, .int ar, .int dn, .int rd])), (om, .inl (z1, 24, .inl mp)), (ow, .inl (z2, 24, .inl wa)), (os, .inl (z3, 52, .inl sl)), (og, .inl (z4, 4, .inl sg))] s.heap := hP
  have hD : va_D A [(o0, .inr (2, [.int (nI gW), .int (nI gC), .int (nI gV), .int (nI gB), .ref om, .ref ow, .ref os, .ref og, .int hp, .int am, .int ar, .int dn, .int rd])), (om, .inl (z1, 24, .inl mp)), (ow, .inl (z2, 24, .inl wa)), (os, .inl (z3, 52, .inl sl)), (og, .inl (z4, 4, .inl sg))] := hD
  have hl : lv_has ls 4 [(0, .ref o0), (1, .int src), (2, .int dst)] := hl
  obtain ⟨⟨hW1, hW2⟩, ⟨hC1, hC2⟩, ⟨hV1, hV2⟩, ⟨hB1, hB2⟩⟩ := id hg
  refine lv_aload_n hx hb dX2_cloneVol_0 rfl (lv_at hl 0 rfl) ?_
  refine va_get (D := (dC, dI)) (ci := 2) (v := .int dn) (C := RX2) (T := TX2) (N := 13) hx hb hts inX2 hown hK hP 0 rfl rfl 11 (by decide) (hts _ tb_266) (fun _ h9 => h9) rfl dX2_cloneVol_1 ?_
  refine lv_if_eq (tgt := 10) hx hb dX2_cloneVol_4 (by decide) (fun c_1 => ?_) (fun c_1 => ?_)
  · refine lv_aload_n hx hb dX2_cloneVol_10 rfl (lv_at hl 0 rfl) ?_
    refine lv_iload_n hx hb dX2_cloneVol_11 rfl (lv_at hl 1 rfl) ?_
    refine xr_i (D := (dC, dI)) (wf := (mo_w o0 om ow os og z1 z2 z3 z4 gW gC gV gB)) (u0 := (mp, wa, sl, sg, hp, am, ar, dn, rd)) (wr := []) (va_runV (As := [.int src]) (rest := []) ⟨hx, hb, hml, hown, hts⟩ (k_X2_volume l dC dI o0 om ow os og z1 z2 z3 z4 gW gC gV gB hg s.heap.size mp wa sl sg hp am ar dn rd src) (cwV 1 hts gX2_59 rfl rfl rfl (by decide +kernel) ⟨Nat.le_of_ble_eq_true rfl, Nat.le_of_ble_eq_true rfl⟩) (xp_v nwL_ok hK hN hP hD [0, 1, 2, 3, 4] rfl rfl (va_recv hK hP (ci := 2) (q0 := 0) rfl rfl)) rfl rfl hl.1 rfl (lv_room (Nat.le_of_ble_eq_true rfl)) dX2_cloneVol_12 ⟨Nat.zero_le _, Nat.zero_le _⟩) hP hD hS hA [0, 1, 2, 3, 4] [] rfl rfl (by decide) (by decide) (fun r_2 u_3 H locs hw hP hD hS => ?_)
    obtain ⟨er_2, eu_3⟩ := hw
    rw [eu_3] at hP hD
    rw [er_2]
    have hP : va_P (dC, dI) vwCl [(o0, .inr (2, [.int (nI gW), .int (nI gC), .int (nI gV), .int (nI gB), .ref om, .ref ow, .ref os, .ref og, .int hp, .int am, .int ar, .int dn, .int rd])), (om, .inl (z1, 24, .inl mp)), (ow, .inl (z2, 24, .inl wa)), (os, .inl (z3, 52, .inl sl)), (og, .inl (z4, 4, .inl sg))] H := hP
    have hD : va_D A [(o0, .inr (2, [.int (nI gW), .int (nI gC), .int (nI gV), .int (nI gB), .ref om, .ref ow, .ref os, .ref og, .int hp, .int am, .int ar, .int dn, .int rd])), (om, .inl (z1, 24, .inl mp)), (ow, .inl (z2, 24, .inl wa)), (os, .inl (z3, 52, .inl sl)), (og, .inl (z4, 4, .inl sg))] := hD
    refine lv_if_eq (tgt := 26) hx hb dX2_cloneVol_15 (by decide) (fun c_4 => ?_) (fun c_4 => ?_)
    · refine lv_iconst (v := (-1)) hx hb dX2_cloneVol_26 (by decide) ?_
      exact W.iret (v := (-1)) hx hb hr (fun t ht hW => ⟨⟨(-1), (mp, wa, sl, sg, hp, am, ar, dn, rd), rfl, ⟨by unfold m_clone; rw [if_pos c_1, if_pos c_4], by unfold m_clone; rw [if_pos c_1, if_pos c_4]⟩, by rw [ht]; exact hP, hD⟩, hS.F ht⟩) hS.2.2 dX2_cloneVol_27
    · obtain ⟨o, ho, eo⟩ := inR_nz (by omega) c_4
      have hl : lv_has ls 4 [(0, .ref o0), (1, .int (nI o)), (2, .int dst)] := by have q9 := hl; rw [eo] at q9; exact q9
      refine lv_aload_n hx hb dX2_cloneVol_18 rfl (lv_at hl 0 rfl) ?_
      refine lv_iload_n hx hb dX2_cloneVol_19 rfl (lv_at hl 2 rfl) ?_
      refine xr_i (D := (dC, dI)) (wf := (mo_w o0 om ow os og z1 z2 z3 z4 gW gC gV gB)) (u0 := (mp, wa, sl, sg, hp, am, ar, dn, rd)) (wr := []) (va_runV (As := [.int dst]) (rest := []) ⟨hx, hb, hml, hown, hts⟩ (k_X2_volume l dC dI o0 om ow os og z1 z2 z3 z4 gW gC gV gB hg H.size mp wa sl sg hp am ar dn rd dst) (cwV 1 hts gX2_59 rfl rfl rfl (by decide +kernel) ⟨Nat.le_of_ble_eq_true rfl, Nat.le_of_ble_eq_true rfl⟩) (xp_v nwL_ok hK hN hP hD [0, 1, 2, 3, 4] rfl rfl (va_recv hK hP (ci := 2) (q0 := 0) rfl rfl)) rfl rfl hl.1 rfl (lv_room (Nat.le_of_ble_eq_true rfl)) dX2_cloneVol_20 ⟨Nat.zero_le _, Nat.zero_le _⟩) hP hD hS hA [0, 1, 2, 3, 4] [] rfl rfl (by decide) (by decide) (fun r_5 u_6 H locs hw hP hD hS => ?_)
      obtain ⟨er_5, eu_6⟩ := hw
      rw [eu_6] at hP hD
      rw [er_5]
      have hP : va_P (dC, dI) vwCl [(o0, .inr (2, [.int (nI gW), .int (nI gC), .int (nI gV), .int (nI gB), .ref om, .ref ow, .ref os, .ref og, .int hp, .int am, .int ar, .int dn, .int rd])), (om, .inl (z1, 24, .inl mp)), (ow, .inl (z2, 24, .inl wa)), (os, .inl (z3, 52, .inl sl)), (og, .inl (z4, 4, .inl sg))] H := hP
      have hD : va_D A [(o0, .inr (2, [.int (nI gW), .int (nI gC), .int (nI gV), .int (nI gB), .ref om, .ref ow, .ref os, .ref og, .int hp, .int am, .int ar, .int dn, .int rd])), (om, .inl (z1, 24, .inl mp)), (ow, .inl (z2, 24, .inl wa)), (os, .inl (z3, 52, .inl sl)), (og, .inl (z4, 4, .inl sg))] := hD
      refine lv_if_ne (tgt := 28) hx hb dX2_cloneVol_23 (by decide) (fun c_7 => ?_) (fun c_7 => ?_)
      · obtain ⟨v, hv, ev⟩ := inR_nz (by omega) c_7
        have hl : lv_has ls 4 [(0, .ref o0), (1, .int (nI o)), (2, .int (nI v))] := by have q9 := hl; rw [ev] at q9; exact q9
        refine lv_aload_n hx hb dX2_cloneVol_28 rfl (lv_at hl 0 rfl) ?_
        refine xr_v (D := (dC, dI)) (wf := (mo_w o0 om ow os og z1 z2 z3 z4 gW gC gV gB)) (u0 := (mp, wa, sl, sg, hp, am, ar, dn, rd)) (wr := []) (va_runV (As := []) (rest := []) ⟨hx, hb, hml, hown, hts⟩ (k_X2_wantAsIs l dC dI o0 om ow os og z1 z2 z3 z4 gW gC gV gB hg H.size mp wa sl sg hp am ar dn rd ) (cwV 0 hts gX2_86 rfl rfl rfl (by decide +kernel) ⟨Nat.le_of_ble_eq_true rfl, Nat.le_of_ble_eq_true rfl⟩) (xp_v nwL_ok hK hN hP hD [0, 1, 2, 3, 4] rfl rfl (va_recv hK hP (ci := 2) (q0 := 0) rfl rfl)) rfl rfl hl.1 rfl (lv_room (Nat.le_of_ble_eq_true rfl)) dX2_cloneVol_29 ⟨Nat.zero_le _, Nat.zero_le _⟩) hP hD hS hA [0, 1, 2, 3, 4] [] rfl rfl (by decide) (by decide) (fun u_9 H locs hw hP hD hS => ?_)
        rw [hw] at hP hD
        have hP : va_P (dC, dI) vwCl [(o0, .inr (2, [.int (nI gW), .int (nI gC), .int (nI gV), .int (nI gB), .ref om, .ref ow, .ref os, .ref og, .int hp, .int am, .int ar, .int dn, .int rd])), (om, .inl (z1, 24, .inl mp)), (ow, .inl (z2, 24, .inl (cpyN wa mp 24))), (os, .inl (z3, 52, .inl sl)), (og, .inl (z4, 4, .inl sg))] H := hP
        have hD : va_D A [(o0, .inr (2, [.int (nI gW), .int (nI gC), .int (nI gV), .int (nI gB), .ref om, .ref ow, .ref os, .ref og, .int hp, .int am, .int ar, .int dn, .int rd])), (om, .inl (z1, 24, .inl mp)), (ow, .inl (z2, 24, .inl (cpyN wa mp 24))), (os, .inl (z3, 52, .inl sl)), (og, .inl (z4, 4, .inl sg))] := hD
        refine lv_iconst (v := 0) hx hb dX2_cloneVol_32 (by decide) ?_
        refine lv_istore_n (lv' := [(3, .int 0), (0, .ref o0), (1, .int (nI o)), (2, .int (nI v))]) hx hb dX2_cloneVol_33 rfl hl (by decide) rfl (fun ls hl => ?_)
        have hl : lv_has ls 4 [(3, .int (nI 0)), (0, .ref o0), (1, .int (nI o)), (2, .int (nI v))] := hl
        refine lp_X2_cloneVol_34 o0 om ow os og z1 z2 z3 z4 gW gC gV gB hg mp (cpyN wa mp 24) sl sg hp am ar dn rd o v ho hv hx hb hml hown hts hK hN hA (fun  H locs ls  hP hD hS hl => ?_) 7 0 _ _ _ (by omega) (by omega) hP hD hS (lv_sub hl [1, 2, 3, 0] rfl)
        have hP : va_P (dC, dI) vwCl [(o0, .inr (2, [.int (nI gW), .int (nI gC), .int (nI gV), .int (nI gB), .ref om, .ref ow, .ref os, .ref og, .int hp, .int am, .int ar, .int dn, .int rd])), (om, .inl (z1, 24, .inl mp)), (ow, .inl (z2, 24, .inl (cloN (cpyN wa mp 24) mp o v 6))), (os, .inl (z3, 52, .inl sl)), (og, .inl (z4, 4, .inl sg))] H := hP
        have hD : va_D A [(o0, .inr (2, [.int (nI gW), .int (nI gC), .int (nI gV), .int (nI gB), .ref om, .ref ow, .ref os, .ref og, .int hp, .int am, .int ar, .int dn, .int rd])), (om, .inl (z1, 24, .inl mp)), (ow, .inl (z2, 24, .inl (cloN (cpyN wa mp 24) mp o v 6))), (os, .inl (z3, 52, .inl sl)), (og, .inl (z4, 4, .inl sg))] := hD
        refine lv_aload_n hx hb dX2_cloneVol_68 rfl (lv_at hl 0 rfl) ?_
        refine lv_aload_n hx hb dX2_cloneVol_69 rfl (lv_at hl 0 rfl) ?_
        refine va_get (D := (dC, dI)) (ci := 2) (v := .int (nI gB)) (C := RX2) (T := TX2) (N := 13) hx hb hts inX2 hown hK hP 0 rfl rfl 3 (by decide) (hts _ tb_258) (fun _ h9 => h9) rfl dX2_cloneVol_70 ?_
        refine xr_i (D := (dC, dI)) (wf := (mo_w o0 om ow os og z1 z2 z3 z4 gW gC gV gB)) (u0 := (mp, cloN (cpyN wa mp 24) mp o v 6, sl, sg, hp, am, ar, dn, rd)) (wr := []) (va_runV (As := [.int (nI gB)]) (rest := []) ⟨hx, hb, hml, hown, hts⟩ (k_X2_change l dC dI o0 om ow os og z1 z2 z3 z4 gW gC gV gB hg H.size mp (cloN (cpyN wa mp 24) mp o v 6) sl sg hp am ar dn rd (nI gB)) (cwV 1 hts gX2_89 rfl rfl rfl (by decide +kernel) ⟨Nat.le_of_ble_eq_true rfl, Nat.le_of_ble_eq_true rfl⟩) (xp_v nwL_ok hK hN hP hD [0, 1, 2, 3, 4] rfl rfl (va_recv hK hP (ci := 2) (q0 := 0) rfl rfl)) rfl rfl hl.1 rfl (lv_room (Nat.le_of_ble_eq_true rfl)) dX2_cloneVol_73 ⟨Nat.zero_le _, Nat.zero_le _⟩) hP hD hS hA [0, 1, 2, 3, 4] [] rfl rfl (by decide) (by decide) (fun r_10 u_11 H locs hw hP hD hS => ?_)
        exact W.iret (v := r_10) hx hb hr (fun t ht hW => ⟨⟨r_10, u_11, rfl, ⟨by unfold m_clone; rw [if_pos c_1, if_neg c_4, eo, nI_clamp (n := o) (by omega), if_neg c_7, ev, nI_clamp (n := v) (by omega)]; exact hw.1, by unfold m_clone; rw [if_pos c_1, if_neg c_4, eo, nI_clamp (n := o) (by omega), if_neg c_7, ev, nI_clamp (n := v) (by omega)]; exact hw.2⟩, by rw [ht]; exact hP, hD⟩, hS.F ht⟩) hS.2.2 dX2_cloneVol_76
      · refine lv_iconst (v := (-1)) hx hb dX2_cloneVol_26 (by decide) ?_
        exact W.iret (v := (-1)) hx hb hr (fun t ht hW => ⟨⟨(-1), (mp, wa, sl, sg, hp, am, ar, dn, rd), rfl, ⟨by unfold m_clone; rw [if_pos c_1, if_neg c_4, eo, nI_clamp (n := o) (by omega), if_pos c_7], by unfold m_clone; rw [if_pos c_1, if_neg c_4, eo, nI_clamp (n := o) (by omega), if_pos c_7]⟩, by rw [ht]; exact hP, hD⟩, hS.F ht⟩) hS.2.2 dX2_cloneVol_27
  · refine lv_bipush (v := (-4)) hx hb dX2_cloneVol_7 (by decide) ?_
    exact W.iret (v := (-4)) hx hb hr (fun t ht hW => ⟨⟨(-4), (mp, wa, sl, sg, hp, am, ar, dn, rd), rfl, ⟨by unfold m_clone; rw [if_neg c_1], by unfold m_clone; rw [if_neg c_1]⟩, by rw [ht]; exact hP, hD⟩, hS.F ht⟩) hS.2.2 dX2_cloneVol_9
set_option maxHeartbeats 4000000 in
set_option maxRecDepth 100000 in
theorem lp_X2_dropVol_26 {p : Program} {l : Launch} {e : Env} {s : State} {m : MethodId} {args : Array Value} {below : List Frame} {meth : Method} {c : Code} {Q : State → Prop} {A : Nat → Prop} {dC : Nat → ClassId} {dI : Nat → Nat → Nat} (o0 om ow os og : Nat) (z1 z2 z3 z4 : ClassId) (gW gC gV gB : Nat) (hg : mge gW gC gV gB) (mp wa sl sg : Nat → Int32) (hp am ar dn rd : Int32) (v : Nat) (hv : v < gV) (hx : p.tables.exec = Jvm.exec) (hb : c.code = cX2_dropVol) (hml : c.maxLocals = 3) (hown : s.vm.findClass RX2 = some m.cls) (hts : ∀ w ∈ TBG, w.before args s = true) (hK : va_K (dC, dI) vwCl [(z1, .int), (z2, .int), (z3, .int), (z4, .int)] s) (hN : nwOk nwL s) (hA : ∀ q : Nat, s.heap.size ≤ q → A q)  (K : ∀  (H : Heap) (locs : List Loc) (ls : Array Slot), va_P (dC, dI) vwCl (mo_w o0 om ow os og z1 z2 z3 z4 gW gC gV gB (mp, droN wa v 6, sl, sg, hp, am, ar, dn, rd)) H → va_D A (mo_w o0 om ow os og z1 z2 z3 z4 gW gC gV gB (mp, droN wa v 6, sl, sg, hp, am, ar, dn, rd)) → va_S A s.heap H locs → lv_has ls 3 [(0, .ref o0)] → W p l e ({ frames := 2, cells := 0, slots := 0, locals := 45 } : Room) s m args below meth c H locs 0 0 Q (F0 m 50 ls [])) : ∀ (n : Nat) (i : Nat) (H : Heap) (locs : List Loc) (ls : Array Slot), 6 - i < n → (i ≤ 6) → va_P (dC, dI) vwCl (mo_w o0 om ow os og z1 z2 z3 z4 gW gC gV gB (mp, droN wa v i, sl, sg, hp, am, ar, dn, rd)) H → va_D A (mo_w o0 om ow os og z1 z2 z3 z4 gW gC gV gB (mp, droN wa v i, sl, sg, hp, am, ar, dn, rd)) → va_S A s.heap H locs → lv_has ls 3 [(0, .ref o0), (1, .int (nI v)), (2, .int (nI i))] → W p l e ({ frames := 2, cells := 0, slots := 0, locals := 45 } : Room) s m args below meth c H locs 0 0 Q (F0 m 26 ls []) := by
  obtain ⟨⟨hW1, hW2⟩, ⟨hC1, hC2⟩, ⟨hV1, hV2⟩, ⟨hB1, hB2⟩⟩ := id hg
  intro n
  induction n with
  | zero => intro i H locs ls hfu; exact absurd hfu (by omega)
  | succ n ih =>
    intro i H locs ls hfu hi hP hD hS hl
    have hP : va_P (dC, dI) vwCl [(o0, .inr (2, [.int (nI gW), .int (nI gC), .int (nI gV), .int (nI gB), .ref om, .ref ow, .ref os, .ref og, .int hp, .int am, .int ar, .int dn, .int rd])), (om, .inl (z1, 24, .inl mp)), (ow, .inl (z2, 24, .inl (droN wa v i))), (os, .inl (z3, 52, .inl sl)), (og, .inl (z4, 4, .inl sg))] H := hP
    have hD : va_D A [(o0, .inr (2, [.int (nI gW), .int (nI gC), .int (nI gV), .int (nI gB), .ref om, .ref ow, .ref os, .ref og, .int hp, .int am, .int ar, .int dn, .int rd])), (om, .inl (z1, 24, .inl mp)), (ow, .inl (z2, 24, .inl (droN wa v i))), (os, .inl (z3, 52, .inl sl)), (og, .inl (z4, 4, .inl sg))] := hD
    refine lv_iload_n hx hb dX2_dropVol_26 rfl (lv_at hl 2 rfl) ?_
    refine lv_bipush (v := 6) hx hb dX2_dropVol_27 (by decide) ?_
    refine lv_icmp_ge (tgt := 50) hx hb dX2_dropVol_29 (by decide) (fun c_1 => ?_) (fun c_1 => ?_)
    · have c_1 : 6 ≤ i := (nI_leI (a := 6) (b := i) (by omega) (by omega)).mp c_1
      have hie : i = 6 := by omega
      rw [hie] at hP hD
      exact K  _ _ _  hP hD hS (lv_sub hl [0] rfl)
    · have c_1 : ¬ (6 ≤ i) := fun q9 => c_1 ((nI_leI (a := 6) (b := i) (by omega) (by omega)).mpr q9)
      refine lv_aload_n hx hb dX2_dropVol_32 rfl (lv_at hl 0 rfl) ?_
      refine va_get (D := (dC, dI)) (ci := 2) (v := .ref ow) (C := RX2) (T := TX2) (N := 13) hx hb hts inX2 hown hK hP 0 rfl rfl 5 (by decide) (hts _ tb_260) (fun _ h9 => h9) rfl dX2_dropVol_33 ?_
      refine lv_bipush (v := 6) hx hb dX2_dropVol_36 (by decide) ?_
      refine lv_iload_n hx hb dX2_dropVol_38 rfl (lv_at hl 1 rfl) ?_
      refine lv_imul hx hb dX2_dropVol_39 ?_
      refine lv_topi (fun z_2 ez_2 => ?_)
      obtain rfl : z_2 = nI (6 * v) := ez_2.trans (pk_mul 6 v)
      refine lv_iload_n hx hb dX2_dropVol_40 rfl (lv_at hl 2 rfl) ?_
      refine lv_iadd hx hb dX2_dropVol_41 ?_
      refine lv_topi (fun z_3 ez_3 => ?_)
      obtain rfl : z_3 = nI (6 * v + i) := ez_3.trans (nI_add (6 * v) i)
      refine lv_iconst (v := 0) hx hb dX2_dropVol_42 (by decide) ?_
      refine va_iast hx hb hK hP hD hS 2 1 rfl rfl (vp_in_nI (n := 6 * v + i) (by omega) (by omega)) dX2_dropVol_43 (fun H locs hP hD hS => ?_)
      have hP : va_P (dC, dI) vwCl [(o0, .inr (2, [.int (nI gW), .int (nI gC), .int (nI gV), .int (nI gB), .ref om, .ref ow, .ref os, .ref og, .int hp, .int am, .int ar, .int dn, .int rd])), (om, .inl (z1, 24, .inl mp)), (ow, .inl (z2, 24, .inl (upd (droN wa v i) (nI (6 * v + i)).toNatClampNeg 0))), (os, .inl (z3, 52, .inl sl)), (og, .inl (z4, 4, .inl sg))] H := hP
      have hD : va_D A [(o0, .inr (2, [.int (nI gW), .int (nI gC), .int (nI gV), .int (nI gB), .ref om, .ref ow, .ref os, .ref og, .int hp, .int am, .int ar, .int dn, .int rd])), (om, .inl (z1, 24, .inl mp)), (ow, .inl (z2, 24, .inl (upd (droN wa v i) (nI (6 * v + i)).toNatClampNeg 0))), (os, .inl (z3, 52, .inl sl)), (og, .inl (z4, 4, .inl sg))] := hD
      rw [nI_clamp (n := 6 * v + i) (by omega)] at hP hD
      refine lv_iinc (v := nI (i + 1)) (lv' := [(2, .int (nI (i + 1))), (0, .ref o0), (1, .int (nI v))]) hx hb dX2_dropVol_44 hl (k := 2) rfl (nI_1 i) (by decide) rfl (fun ls hl => ?_)
      have e9 : upd (droN wa v i) (6 * v + i) 0 = droN wa v (i + 1) := rfl
      rw [e9] at hP hD
      refine lv_goto (tgt := 26) hx hb dX2_dropVol_47 (by decide) ?_
      exact ih (i + 1) _ _ _ (by omega) (by omega) hP hD hS (lv_sub hl [1, 2, 0] rfl)
set_option maxHeartbeats 4000000 in
set_option maxRecDepth 100000 in
theorem k_X2_dropVol (l : Launch) (dC : Nat → ClassId) (dI : Nat → Nat → Nat) (o0 om ow os og : Nat) (z1 z2 z3 z4 : ClassId) (gW gC gV gB : Nat) (hg : mge gW gC gV gB) (sz : Nat) (mp wa sl sg : Nat → Int32) (hp am ar dn rd : Int32) (vol : Int32) : ctI nwL l yX2_dropVol wsX2_dropVol ({ frames := 2, cells := 0, slots := 0, locals := 45 } : Room) (dC, dI) [(z1, .int), (z2, .int), (z3, .int), (z4, .int)] (mo_w o0 om ow os og z1 z2 z3 z4 gW gC gV gB) (mp, wa, sl, sg, hp, am, ar, dn, rd) sz [.ref o0, .int vol] (fun (r : Int32) (u : MS) => r = (m_drop mp wa sl sg hp am ar dn rd gW gC gV gB vol).1 ∧ u = (m_drop mp wa sl sg hp am ar dn rd gW gC gV gB vol).2) := by
  refine Met.ofW (cc := cX2_dropVol) (maxL := 3) (ret := (some .int)) (by decide) rfl ?_
  intro p e s m args below meth c s₁ B hml hv
  obtain ⟨rfl, hsz, hP, hK, hD0, hN⟩ := hv
  have hx := B.exec
  have hb := B.bytes
  have hr := B.returns
  have hts := fun w h => atoms_spec (ws := wsX2_dropVol) B.pre w (List.mem_cons_of_mem _ h)
  have hown : s.vm.findClass RX2 = some m.cls := findClass_of_methodNamed B.named
  have hlocks := B.notSynchronized
  subst hsz
  have hD := hD0.self (sz := s.heap.size)
  generalize hAe : va_A ((mo_w o0 om ow os og z1 z2 z3 z4 gW gC gV gB) (mp, wa, sl, sg, hp, am, ar, dn, rd)) s.heap.size = A at hD ⊢
  have hA : ∀ q : Nat, s.heap.size ≤ q → A q := fun q h => by rw [← hAe]; exact Or.inr h
  have hS : va_S A s.heap s.heap [] := va_S.rf
  have hl := lv_entry ([.ref o0, .int vol]) (n := 3) (Nat.le_of_ble_eq_true rfl)
  rw [lg_entry_eq]
  generalize (lg_sl ([.ref o0, .int vol]) ++ List.replicate (3 - (lg_sl ([.ref o0, .int vol])).length) Slot.unset).toArray = ls at hl ⊢
  have hP : va_P (dC, dI) vwCl [(o0, .inr (2, [.int (nI gW), .int (nI gC), .int (nI gV), .int (nI gB), .ref om, .ref ow, .ref os, .ref og, .int hp, .int am, .int ar, .int dn, .int rd])), (om, .inl (z1, 24, .inl mp)), (ow, .inl (z2, 24, .inl wa)), (os, .inl (z3, 52, .inl sl)), (og, .inl (z4, 4, .inl sg))] s.heap := hP
  have hD : va_D A [(o0, .inr (2, [.int (nI gW), .int (nI gC), .int (nI gV), .int (nI gB), .ref om, .ref ow, .ref os, .ref og, .int hp, .int am, .int ar, .int dn, .int rd])), (om, .inl (z1, 24, .inl mp)), (ow, .inl (z2, 24, .inl wa)), (os, .inl (z3, 52, .inl sl)), (og, .inl (z4, 4, .inl sg))] := hD
  have hl : lv_has ls 3 [(0, .ref o0), (1, .int vol)] := hl
  obtain ⟨⟨hW1, hW2⟩, ⟨hC1, hC2⟩, ⟨hV1, hV2⟩, ⟨hB1, hB2⟩⟩ := id hg
  refine lv_aload_n hx hb dX2_dropVol_0 rfl (lv_at hl 0 rfl) ?_
  refine va_get (D := (dC, dI)) (ci := 2) (v := .int dn) (C := RX2) (T := TX2) (N := 13) hx hb hts inX2 hown hK hP 0 rfl rfl 11 (by decide) (hts _ tb_266) (fun _ h9 => h9) rfl dX2_dropVol_1 ?_
  refine lv_if_eq (tgt := 10) hx hb dX2_dropVol_4 (by decide) (fun c_1 => ?_) (fun c_1 => ?_)
  · refine lv_aload_n hx hb dX2_dropVol_10 rfl (lv_at hl 0 rfl) ?_
    refine lv_iload_n hx hb dX2_dropVol_11 rfl (lv_at hl 1 rfl) ?_
    refine xr_i (D := (dC, dI)) (wf := (mo_w o0 om ow os og z1 z2 z3 z4 gW gC gV gB)) (u0 := (mp, wa, sl, sg, hp, am, ar, dn, rd)) (wr := []) (va_runV (As := [.int vol]) (rest := []) ⟨hx, hb, hml, hown, hts⟩ (k_X2_volume l dC dI o0 om ow os og z1 z2 z3 z4 gW gC gV gB hg s.heap.size mp wa sl sg hp am ar dn rd vol) (cwV 1 hts gX2_59 rfl rfl rfl (by decide +kernel) ⟨Nat.le_of_ble_eq_true rfl, Nat.le_of_ble_eq_true rfl⟩) (xp_v nwL_ok hK hN hP hD [0, 1, 2, 3, 4] rfl rfl (va_recv hK hP (ci := 2) (q0 := 0) rfl rfl)) rfl rfl hl.1 rfl (lv_room (Nat.le_of_ble_eq_true rfl)) dX2_dropVol_12 ⟨Nat.zero_le _, Nat.zero_le _⟩) hP hD hS hA [0, 1, 2, 3, 4] [] rfl rfl (by decide) (by decide) (fun r_2 u_3 H locs hw hP hD hS => ?_)
    obtain ⟨er_2, eu_3⟩ := hw
    rw [eu_3] at hP hD
    rw [er_2]
    have hP : va_P (dC, dI) vwCl [(o0, .inr (2, [.int (nI gW), .int (nI gC), .int (nI gV), .int (nI gB), .ref om, .ref ow, .ref os, .ref og, .int hp, .int am, .int ar, .int dn, .int rd])), (om, .inl (z1, 24, .inl mp)), (ow, .inl (z2, 24, .inl wa)), (os, .inl (z3, 52, .inl sl)), (og, .inl (z4, 4, .inl sg))] H := hP
    have hD : va_D A [(o0, .inr (2, [.int (nI gW), .int (nI gC), .int (nI gV), .int (nI gB), .ref om, .ref ow, .ref os, .ref og, .int hp, .int am, .int ar, .int dn, .int rd])), (om, .inl (z1, 24, .inl mp)), (ow, .inl (z2, 24, .inl wa)), (os, .inl (z3, 52, .inl sl)), (og, .inl (z4, 4, .inl sg))] := hD
    refine lv_if_ne (tgt := 20) hx hb dX2_dropVol_15 (by decide) (fun c_4 => ?_) (fun c_4 => ?_)
    · obtain ⟨v, hv, ev⟩ := inR_nz (by omega) c_4
      have hl : lv_has ls 3 [(0, .ref o0), (1, .int (nI v))] := by have q9 := hl; rw [ev] at q9; exact q9
      refine lv_aload_n hx hb dX2_dropVol_20 rfl (lv_at hl 0 rfl) ?_
      refine xr_v (D := (dC, dI)) (wf := (mo_w o0 om ow os og z1 z2 z3 z4 gW gC gV gB)) (u0 := (mp, wa, sl, sg, hp, am, ar, dn, rd)) (wr := []) (va_runV (As := []) (rest := []) ⟨hx, hb, hml, hown, hts⟩ (k_X2_wantAsIs l dC dI o0 om ow os og z1 z2 z3 z4 gW gC gV gB hg H.size mp wa sl sg hp am ar dn rd ) (cwV 0 hts gX2_86 rfl rfl rfl (by decide +kernel) ⟨Nat.le_of_ble_eq_true rfl, Nat.le_of_ble_eq_true rfl⟩) (xp_v nwL_ok hK hN hP hD [0, 1, 2, 3, 4] rfl rfl (va_recv hK hP (ci := 2) (q0 := 0) rfl rfl)) rfl rfl hl.1 rfl (lv_room (Nat.le_of_ble_eq_true rfl)) dX2_dropVol_21 ⟨Nat.zero_le _, Nat.zero_le _⟩) hP hD hS hA [0, 1, 2, 3, 4] [] rfl rfl (by decide) (by decide) (fun u_6 H locs hw hP hD hS => ?_)
      rw [hw] at hP hD
      have hP : va_P (dC, dI) vwCl [(o0, .inr (2, [.int (nI gW), .int (nI gC), .int (nI gV), .int (nI gB), .ref om, .ref ow, .ref os, .ref og, .int hp, .int am, .int ar, .int dn, .int rd])), (om, .inl (z1, 24, .inl mp)), (ow, .inl (z2, 24, .inl (cpyN wa mp 24))), (os, .inl (z3, 52, .inl sl)), (og, .inl (z4, 4, .inl sg))] H := hP
      have hD : va_D A [(o0, .inr (2, [.int (nI gW), .int (nI gC), .int (nI gV), .int (nI gB), .ref om, .ref ow, .ref os, .ref og, .int hp, .int am, .int ar, .int dn, .int rd])), (om, .inl (z1, 24, .inl mp)), (ow, .inl (z2, 24, .inl (cpyN wa mp 24))), (os, .inl (z3, 52, .inl sl)), (og, .inl (z4, 4, .inl sg))] := hD
      refine lv_iconst (v := 0) hx hb dX2_dropVol_24 (by decide) ?_
      refine lv_istore_n (lv' := [(2, .int 0), (0, .ref o0), (1, .int (nI v))]) hx hb dX2_dropVol_25 rfl hl (by decide) rfl (fun ls hl => ?_)
      have hl : lv_has ls 3 [(2, .int (nI 0)), (0, .ref o0), (1, .int (nI v))] := hl
      refine lp_X2_dropVol_26 o0 om ow os og z1 z2 z3 z4 gW gC gV gB hg mp (cpyN wa mp 24) sl sg hp am ar dn rd v hv hx hb hml hown hts hK hN hA (fun  H locs ls  hP hD hS hl => ?_) 7 0 _ _ _ (by omega) (by omega) hP hD hS (lv_sub hl [1, 2, 0] rfl)
      have hP : va_P (dC, dI) vwCl [(o0, .inr (2, [.int (nI gW), .int (nI gC), .int (nI gV), .int (nI gB), .ref om, .ref ow, .ref os, .ref og, .int hp, .int am, .int ar, .int dn, .int rd])), (om, .inl (z1, 24, .inl mp)), (ow, .inl (z2, 24, .inl (droN (cpyN wa mp 24) v 6))), (os, .inl (z3, 52, .inl sl)), (og, .inl (z4, 4, .inl sg))] H := hP
      have hD : va_D A [(o0, .inr (2, [.int (nI gW), .int (nI gC), .int (nI gV), .int (nI gB), .ref om, .ref ow, .ref os, .ref og, .int hp, .int am, .int ar, .int dn, .int rd])), (om, .inl (z1, 24, .inl mp)), (ow, .inl (z2, 24, .inl (droN (cpyN wa mp 24) v 6))), (os, .inl (z3, 52, .inl sl)), (og, .inl (z4, 4, .inl sg))] := hD
      refine lv_aload_n hx hb dX2_dropVol_50 rfl (lv_at hl 0 rfl) ?_
      refine lv_aload_n hx hb dX2_dropVol_51 rfl (lv_at hl 0 rfl) ?_
      refine va_get (D := (dC, dI)) (ci := 2) (v := .int (nI gB)) (C := RX2) (T := TX2) (N := 13) hx hb hts inX2 hown hK hP 0 rfl rfl 3 (by decide) (hts _ tb_258) (fun _ h9 => h9) rfl dX2_dropVol_52 ?_
      refine xr_i (D := (dC, dI)) (wf := (mo_w o0 om ow os og z1 z2 z3 z4 gW gC gV gB)) (u0 := (mp, droN (cpyN wa mp 24) v 6, sl, sg, hp, am, ar, dn, rd)) (wr := []) (va_runV (As := [.int (nI gB)]) (rest := []) ⟨hx, hb, hml, hown, hts⟩ (k_X2_change l dC dI o0 om ow os og z1 z2 z3 z4 gW gC gV gB hg H.size mp (droN (cpyN wa mp 24) v 6) sl sg hp am ar dn rd (nI gB)) (cwV 1 hts gX2_89 rfl rfl rfl (by decide +kernel) ⟨Nat.le_of_ble_eq_true rfl, Nat.le_of_ble_eq_true rfl⟩) (xp_v nwL_ok hK hN hP hD [0, 1, 2, 3, 4] rfl rfl (va_recv hK hP (ci := 2) (q0 := 0) rfl rfl)) rfl rfl hl.1 rfl (lv_room (Nat.le_of_ble_eq_true rfl)) dX2_dropVol_55 ⟨Nat.zero_le _, Nat.zero_le _⟩) hP hD hS hA [0, 1, 2, 3, 4] [] rfl rfl (by decide) (by decide) (fun r_7 u_8 H locs hw hP hD hS => ?_)
      exact W.iret (v := r_7) hx hb hr (fun t ht hW => ⟨⟨r_7, u_8, rfl, ⟨by unfold m_drop; rw [if_pos c_1, if_neg c_4, ev, nI_clamp (n := v) (by omega)]; exact hw.1, by unfold m_drop; rw [if_pos c_1, if_neg c_4, ev, nI_clamp (n := v) (by omega)]; exact hw.2⟩, by rw [ht]; exact hP, hD⟩, hS.F ht⟩) hS.2.2 dX2_dropVol_58
    · refine lv_iconst (v := (-1)) hx hb dX2_dropVol_18 (by decide) ?_
      exact W.iret (v := (-1)) hx hb hr (fun t ht hW => ⟨⟨(-1), (mp, wa, sl, sg, hp, am, ar, dn, rd), rfl, ⟨by unfold m_drop; rw [if_pos c_1, if_pos c_4], by unfold m_drop; rw [if_pos c_1, if_pos c_4]⟩, by rw [ht]; exact hP, hD⟩, hS.F ht⟩) hS.2.2 dX2_dropVol_19
  · refine lv_bipush (v := (-4)) hx hb dX2_dropVol_7 (by decide) ?_
    exact W.iret (v := (-4)) hx hb hr (fun t ht hW => ⟨⟨(-4), (mp, wa, sl, sg, hp, am, ar, dn, rd), rfl, ⟨by unfold m_drop; rw [if_neg c_1], by unfold m_drop; rw [if_neg c_1]⟩, by rw [ht]; exact hP, hD⟩, hS.F ht⟩) hS.2.2 dX2_dropVol_9
set_option maxHeartbeats 4000000 in
set_option maxRecDepth 100000 in
theorem k_X2_chunksUsed (l : Launch) (dC : Nat → ClassId) (dI : Nat → Nat → Nat) (o0 om ow os og : Nat) (z1 z2 z3 z4 : ClassId) (gW gC gV gB : Nat) (hg : mge gW gC gV gB) (sz : Nat) (mp wa sl sg : Nat → Int32) (hp am ar dn rd : Int32)  : ctI nwL l yX2_chunksUsed wsX2_chunksUsed ({ frames := 2, cells := 0, slots := 0, locals := 45 } : Room) (dC, dI) [(z1, .int), (z2, .int), (z3, .int), (z4, .int)] (mo_w o0 om ow os og z1 z2 z3 z4 gW gC gV gB) (mp, wa, sl, sg, hp, am, ar, dn, rd) sz [.ref o0] (fun (r : Int32) (u : MS) => r = (m_used mp wa sl sg hp am ar dn rd gW gC gV gB ).1 ∧ u = (m_used mp wa sl sg hp am ar dn rd gW gC gV gB ).2) := by
  refine Met.ofW (cc := cX2_chunksUsed) (maxL := 1) (ret := (some .int)) (by decide) rfl ?_
  intro p e s m args below meth c s₁ B hml hv
  obtain ⟨rfl, hsz, hP, hK, hD0, hN⟩ := hv
  have hx := B.exec
  have hb := B.bytes
  have hr := B.returns
  have hts := fun w h => atoms_spec (ws := wsX2_chunksUsed) B.pre w (List.mem_cons_of_mem _ h)
  have hown : s.vm.findClass RX2 = some m.cls := findClass_of_methodNamed B.named
  have hlocks := B.notSynchronized
  subst hsz
  have hD := hD0.self (sz := s.heap.size)
  generalize hAe : va_A ((mo_w o0 om ow os og z1 z2 z3 z4 gW gC gV gB) (mp, wa, sl, sg, hp, am, ar, dn, rd)) s.heap.size = A at hD ⊢
  have hA : ∀ q : Nat, s.heap.size ≤ q → A q := fun q h => by rw [← hAe]; exact Or.inr h
  have hS : va_S A s.heap s.heap [] := va_S.rf
  have hl := lv_entry ([.ref o0]) (n := 1) (Nat.le_of_ble_eq_true rfl)
  rw [lg_entry_eq]
  generalize (lg_sl ([.ref o0]) ++ List.replicate (1 - (lg_sl ([.ref o0])).length) Slot.unset).toArray = ls at hl ⊢
  have hP : va_P (dC, dI) vwCl [(o0, .inr (2, [.int (nI gW), .int (nI gC), .int (nI gV), .int (nI gB), .ref om, .ref ow, .ref os, .ref og, .int hp, .int am, .int ar, .int dn, .int rd])), (om, .inl (z1, 24, .inl mp)), (ow, .inl (z2, 24, .inl wa)), (os, .inl (z3, 52, .inl sl)), (og, .inl (z4, 4, .inl sg))] s.heap := hP
  have hD : va_D A [(o0, .inr (2, [.int (nI gW), .int (nI gC), .int (nI gV), .int (nI gB), .ref om, .ref ow, .ref os, .ref og, .int hp, .int am, .int ar, .int dn, .int rd])), (om, .inl (z1, 24, .inl mp)), (ow, .inl (z2, 24, .inl wa)), (os, .inl (z3, 52, .inl sl)), (og, .inl (z4, 4, .inl sg))] := hD
  have hl : lv_has ls 1 [(0, .ref o0)] := hl
  obtain ⟨⟨hW1, hW2⟩, ⟨hC1, hC2⟩, ⟨hV1, hV2⟩, ⟨hB1, hB2⟩⟩ := id hg
  refine lv_aload_n hx hb dX2_chunksUsed_0 rfl (lv_at hl 0 rfl) ?_
  refine va_get (D := (dC, dI)) (ci := 2) (v := .int dn) (C := RX2) (T := TX2) (N := 13) hx hb hts inX2 hown hK hP 0 rfl rfl 11 (by decide) (hts _ tb_266) (fun _ h9 => h9) rfl dX2_chunksUsed_1 ?_
  refine lv_if_eq (tgt := 12) hx hb dX2_chunksUsed_4 (by decide) (fun c_1 => ?_) (fun c_1 => ?_)
  · refine lv_aload_n hx hb dX2_chunksUsed_12 rfl (lv_at hl 0 rfl) ?_
    refine xr_i (D := (dC, dI)) (wf := (mo_w o0 om ow os og z1 z2 z3 z4 gW gC gV gB)) (u0 := (mp, wa, sl, sg, hp, am, ar, dn, rd)) (wr := []) (va_runV (As := []) (rest := []) ⟨hx, hb, hml, hown, hts⟩ (k_X2_used l dC dI o0 om ow os og z1 z2 z3 z4 gW gC gV gB hg s.heap.size mp wa sl sg hp am ar dn rd ) (cwV 0 hts gX2_80 rfl rfl rfl (by decide +kernel) ⟨Nat.le_of_ble_eq_true rfl, Nat.le_of_ble_eq_true rfl⟩) (xp_v nwL_ok hK hN hP hD [0, 1, 2, 3, 4] rfl rfl (va_recv hK hP (ci := 2) (q0 := 0) rfl rfl)) rfl rfl hl.1 rfl (lv_room (Nat.le_of_ble_eq_true rfl)) dX2_chunksUsed_13 ⟨Nat.zero_le _, Nat.zero_le _⟩) hP hD hS hA [0, 1, 2, 3, 4] [] rfl rfl (by decide) (by decide) (fun r_2 u_3 H locs hw hP hD hS => ?_)
    obtain ⟨er_2, eu_3⟩ := hw
    rw [eu_3] at hP hD
    rw [er_2]
    have hP : va_P (dC, dI) vwCl [(o0, .inr (2, [.int (nI gW), .int (nI gC), .int (nI gV), .int (nI gB), .ref om, .ref ow, .ref os, .ref og, .int hp, .int am, .int ar, .int dn, .int rd])), (om, .inl (z1, 24, .inl mp)), (ow, .inl (z2, 24, .inl wa)), (os, .inl (z3, 52, .inl sl)), (og, .inl (z4, 4, .inl sg))] H := hP
    have hD : va_D A [(o0, .inr (2, [.int (nI gW), .int (nI gC), .int (nI gV), .int (nI gB), .ref om, .ref ow, .ref os, .ref og, .int hp, .int am, .int ar, .int dn, .int rd])), (om, .inl (z1, 24, .inl mp)), (ow, .inl (z2, 24, .inl wa)), (os, .inl (z3, 52, .inl sl)), (og, .inl (z4, 4, .inl sg))] := hD
    exact W.iret (v := nI (usN mp 0 24 (gC + 1))) hx hb hr (fun t ht hW => ⟨⟨nI (usN mp 0 24 (gC + 1)), (mp, wa, sl, sg, hp, am, ar, dn, rd), rfl, ⟨by unfold m_used; rw [if_pos c_1], by unfold m_used; rw [if_pos c_1]⟩, by rw [ht]; exact hP, hD⟩, hS.F ht⟩) hS.2.2 dX2_chunksUsed_16
  · refine lv_bipush (v := (-4)) hx hb dX2_chunksUsed_7 (by decide) ?_
    refine lv_goto (tgt := 16) hx hb dX2_chunksUsed_9 (by decide) ?_
    exact W.iret (v := (-4)) hx hb hr (fun t ht hW => ⟨⟨(-4), (mp, wa, sl, sg, hp, am, ar, dn, rd), rfl, ⟨by unfold m_used; rw [if_neg c_1], by unfold m_used; rw [if_neg c_1]⟩, by rw [ht]; exact hP, hD⟩, hS.F ht⟩) hS.2.2 dX2_chunksUsed_16
set_option maxHeartbeats 4000000 in
set_option maxRecDepth 100000 in
theorem k_X2_refsOf (l : Launch) (dC : Nat → ClassId) (dI : Nat → Nat → Nat) (o0 om ow os og : Nat) (z1 z2 z3 z4 : ClassId) (gW gC gV gB : Nat) (hg : mge gW gC gV gB) (sz : Nat) (mp wa sl sg : Nat → Int32) (hp am ar dn rd : Int32) (vol lb : Int32) : ctI nwL l yX2_refsOf wsX2_refsOf ({ frames := 2, cells := 0, slots := 0, locals := 43 } : Room) (dC, dI) [(z1, .int), (z2, .int), (z3, .int), (z4, .int)] (mo_w o0 om ow os og z1 z2 z3 z4 gW gC gV gB) (mp, wa, sl, sg, hp, am, ar, dn, rd) sz [.ref o0, .int vol, .int lb] (fun (r : Int32) (u : MS) => r = (m_refs mp wa sl sg hp am ar dn rd gW gC gV gB vol lb).1 ∧ u = (m_refs mp wa sl sg hp am ar dn rd gW gC gV gB vol lb).2) := by
  refine Met.ofW (cc := cX2_refsOf) (maxL := 3) (ret := (some .int)) (by decide) rfl ?_
  intro p e s m args below meth c s₁ B hml hv
  obtain ⟨rfl, hsz, hP, hK, hD0, hN⟩ := hv
  have hx := B.exec
  have hb := B.bytes
  have hr := B.returns
  have hts := fun w h => atoms_spec (ws := wsX2_refsOf) B.pre w (List.mem_cons_of_mem _ h)
  have hown : s.vm.findClass RX2 = some m.cls := findClass_of_methodNamed B.named
  have hlocks := B.notSynchronized
  subst hsz
  have hD := hD0.self (sz := s.heap.size)
  generalize hAe : va_A ((mo_w o0 om ow os og z1 z2 z3 z4 gW gC gV gB) (mp, wa, sl, sg, hp, am, ar, dn, rd)) s.heap.size = A at hD ⊢
  have hA : ∀ q : Nat, s.heap.size ≤ q → A q := fun q h => by rw [← hAe]; exact Or.inr h
  have hS : va_S A s.heap s.heap [] := va_S.rf
  have hl := lv_entry ([.ref o0, .int vol, .int lb]) (n := 3) (Nat.le_of_ble_eq_true rfl)
  rw [lg_entry_eq]
  generalize (lg_sl ([.ref o0, .int vol, .int lb]) ++ List.replicate (3 - (lg_sl ([.ref o0, .int vol, .int lb])).length) Slot.unset).toArray = ls at hl ⊢
  have hP : va_P (dC, dI) vwCl [(o0, .inr (2, [.int (nI gW), .int (nI gC), .int (nI gV), .int (nI gB), .ref om, .ref ow, .ref os, .ref og, .int hp, .int am, .int ar, .int dn, .int rd])), (om, .inl (z1, 24, .inl mp)), (ow, .inl (z2, 24, .inl wa)), (os, .inl (z3, 52, .inl sl)), (og, .inl (z4, 4, .inl sg))] s.heap := hP
  have hD : va_D A [(o0, .inr (2, [.int (nI gW), .int (nI gC), .int (nI gV), .int (nI gB), .ref om, .ref ow, .ref os, .ref og, .int hp, .int am, .int ar, .int dn, .int rd])), (om, .inl (z1, 24, .inl mp)), (ow, .inl (z2, 24, .inl wa)), (os, .inl (z3, 52, .inl sl)), (og, .inl (z4, 4, .inl sg))] := hD
  have hl : lv_has ls 3 [(0, .ref o0), (1, .int vol), (2, .int lb)] := hl
  obtain ⟨⟨hW1, hW2⟩, ⟨hC1, hC2⟩, ⟨hV1, hV2⟩, ⟨hB1, hB2⟩⟩ := id hg
  refine lv_aload_n hx hb dX2_refsOf_0 rfl (lv_at hl 0 rfl) ?_
  refine va_get (D := (dC, dI)) (ci := 2) (v := .int dn) (C := RX2) (T := TX2) (N := 13) hx hb hts inX2 hown hK hP 0 rfl rfl 11 (by decide) (hts _ tb_266) (fun _ h9 => h9) rfl dX2_refsOf_1 ?_
  refine lv_if_eq (tgt := 10) hx hb dX2_refsOf_4 (by decide) (fun c_1 => ?_) (fun c_1 => ?_)
  · refine lv_aload_n hx hb dX2_refsOf_10 rfl (lv_at hl 0 rfl) ?_
    refine lv_iload_n hx hb dX2_refsOf_11 rfl (lv_at hl 1 rfl) ?_
    refine lv_iload_n hx hb dX2_refsOf_12 rfl (lv_at hl 2 rfl) ?_
    refine xr_i (D := (dC, dI)) (wf := (mo_w o0 om ow os og z1 z2 z3 z4 gW gC gV gB)) (u0 := (mp, wa, sl, sg, hp, am, ar, dn, rd)) (wr := []) (va_runV (As := [.int vol, .int lb]) (rest := []) ⟨hx, hb, hml, hown, hts⟩ (k_X2_block l dC dI o0 om ow os og z1 z2 z3 z4 gW gC gV gB hg s.heap.size mp wa sl sg hp am ar dn rd vol lb) (cwV 2 hts gX2_72 rfl rfl rfl (by decide +kernel) ⟨Nat.le_of_ble_eq_true rfl, Nat.le_of_ble_eq_true rfl⟩) (xp_v nwL_ok hK hN hP hD [0, 1, 2, 3, 4] rfl rfl (va_recv hK hP (ci := 2) (q0 := 0) rfl rfl)) rfl rfl hl.1 rfl (lv_room (Nat.le_of_ble_eq_true rfl)) dX2_refsOf_13 ⟨Nat.zero_le _, Nat.zero_le _⟩) hP hD hS hA [0, 1, 2, 3, 4] [] rfl rfl (by decide) (by decide) (fun r_2 u_3 H locs hw hP hD hS => ?_)
    obtain ⟨er_2, eu_3⟩ := hw
    rw [eu_3] at hP hD
    rw [er_2]
    have hP : va_P (dC, dI) vwCl [(o0, .inr (2, [.int (nI gW), .int (nI gC), .int (nI gV), .int (nI gB), .ref om, .ref ow, .ref os, .ref og, .int hp, .int am, .int ar, .int dn, .int rd])), (om, .inl (z1, 24, .inl mp)), (ow, .inl (z2, 24, .inl wa)), (os, .inl (z3, 52, .inl sl)), (og, .inl (z4, 4, .inl sg))] H := hP
    have hD : va_D A [(o0, .inr (2, [.int (nI gW), .int (nI gC), .int (nI gV), .int (nI gB), .ref om, .ref ow, .ref os, .ref og, .int hp, .int am, .int ar, .int dn, .int rd])), (om, .inl (z1, 24, .inl mp)), (ow, .inl (z2, 24, .inl wa)), (os, .inl (z3, 52, .inl sl)), (og, .inl (z4, 4, .inl sg))] := hD
    refine lv_if_eq (tgt := 53) hx hb dX2_refsOf_16 (by decide) (fun c_4 => ?_) (fun c_4 => ?_)
    · refine lv_iconst (v := 0) hx hb dX2_refsOf_53 (by decide) ?_
      exact W.iret (v := 0) hx hb hr (fun t ht hW => ⟨⟨0, (mp, wa, sl, sg, hp, am, ar, dn, rd), rfl, ⟨by unfold m_refs; rw [if_pos c_1, if_pos c_4], by unfold m_refs; rw [if_pos c_1, if_pos c_4]⟩, by rw [ht]; exact hP, hD⟩, hS.F ht⟩) hS.2.2 dX2_refsOf_54
    · obtain ⟨v, b, hv, hb9, ev, eb⟩ := inB_nz (by omega) (by omega) c_4
      have hl : lv_has ls 3 [(0, .ref o0), (1, .int (nI v)), (2, .int lb)] := by have q9 := hl; rw [ev] at q9; exact q9
      have hl : lv_has ls 3 [(0, .ref o0), (1, .int (nI v)), (2, .int (nI b))] := by have q9 := hl; rw [eb] at q9; exact q9
      refine lv_aload_n hx hb dX2_refsOf_19 rfl (lv_at hl 0 rfl) ?_
      refine va_get (D := (dC, dI)) (ci := 2) (v := .ref om) (C := RX2) (T := TX2) (N := 13) hx hb hts inX2 hown hK hP 0 rfl rfl 4 (by decide) (hts _ tb_259) (fun _ h9 => h9) rfl dX2_refsOf_20 ?_
      refine lv_bipush (v := 6) hx hb dX2_refsOf_23 (by decide) ?_
      refine lv_iload_n hx hb dX2_refsOf_25 rfl (lv_at hl 1 rfl) ?_
      refine lv_imul hx hb dX2_refsOf_26 ?_
      refine lv_topi (fun z_5 ez_5 => ?_)
      obtain rfl : z_5 = nI (6 * v) := ez_5.trans (pk_mul 6 v)
      refine lv_iload_n hx hb dX2_refsOf_27 rfl (lv_at hl 2 rfl) ?_
      refine lv_iadd hx hb dX2_refsOf_28 ?_
      refine lv_topi (fun z_6 ez_6 => ?_)
      obtain rfl : z_6 = nI (6 * v + b) := ez_6.trans (nI_add (6 * v) b)
      refine va_iald hx hb hK hP 1 0 rfl rfl (vp_in_nI (n := 6 * v + b) (by omega) (by omega)) dX2_refsOf_29 ?_
      refine lv_topi (fun z_7 ez_7 => ?_)
      obtain rfl : z_7 = mp (6 * v + b) := ez_7.trans (by rw [nI_clamp (n := 6 * v + b) (by omega)])
      refine lv_if_le (tgt := 53) hx hb dX2_refsOf_30 (by decide) (fun c_8 => ?_) (fun c_8 => ?_)
      · refine lv_iconst (v := 0) hx hb dX2_refsOf_53 (by decide) ?_
        exact W.iret (v := 0) hx hb hr (fun t ht hW => ⟨⟨0, (mp, wa, sl, sg, hp, am, ar, dn, rd), rfl, ⟨by unfold m_refs; rw [if_pos c_1, if_neg c_4, ev, eb, nI_clamp (n := v) (by omega), nI_clamp (n := b) (by omega), if_pos c_8], by unfold m_refs; rw [if_pos c_1, if_neg c_4, ev, eb, nI_clamp (n := v) (by omega), nI_clamp (n := b) (by omega), if_pos c_8]⟩, by rw [ht]; exact hP, hD⟩, hS.F ht⟩) hS.2.2 dX2_refsOf_54
      · refine lv_aload_n hx hb dX2_refsOf_33 rfl (lv_at hl 0 rfl) ?_
        refine lv_aload_n hx hb dX2_refsOf_34 rfl (lv_at hl 0 rfl) ?_
        refine va_get (D := (dC, dI)) (ci := 2) (v := .ref om) (C := RX2) (T := TX2) (N := 13) hx hb hts inX2 hown hK hP 0 rfl rfl 4 (by decide) (hts _ tb_259) (fun _ h9 => h9) rfl dX2_refsOf_35 ?_
        refine lv_bipush (v := 6) hx hb dX2_refsOf_38 (by decide) ?_
        refine lv_iload_n hx hb dX2_refsOf_40 rfl (lv_at hl 1 rfl) ?_
        refine lv_imul hx hb dX2_refsOf_41 ?_
        refine lv_topi (fun z_9 ez_9 => ?_)
        obtain rfl : z_9 = nI (6 * v) := ez_9.trans (pk_mul 6 v)
        refine lv_iload_n hx hb dX2_refsOf_42 rfl (lv_at hl 2 rfl) ?_
        refine lv_iadd hx hb dX2_refsOf_43 ?_
        refine lv_topi (fun z_10 ez_10 => ?_)
        obtain rfl : z_10 = nI (6 * v + b) := ez_10.trans (nI_add (6 * v) b)
        refine va_iald hx hb hK hP 1 0 rfl rfl (vp_in_nI (n := 6 * v + b) (by omega) (by omega)) dX2_refsOf_44 ?_
        refine lv_topi (fun z_11 ez_11 => ?_)
        obtain rfl : z_11 = mp (6 * v + b) := ez_11.trans (by rw [nI_clamp (n := 6 * v + b) (by omega)])
        refine lv_iconst (v := 1) hx hb dX2_refsOf_45 (by decide) ?_
        refine lv_isub hx hb dX2_refsOf_46 ?_
        refine xr_i (D := (dC, dI)) (wf := (mo_w o0 om ow os og z1 z2 z3 z4 gW gC gV gB)) (u0 := (mp, wa, sl, sg, hp, am, ar, dn, rd)) (wr := []) (va_runV (As := [.int (mp (6 * v + b) - 1)]) (rest := []) ⟨hx, hb, hml, hown, hts⟩ (k_X2_refs l dC dI o0 om ow os og z1 z2 z3 z4 gW gC gV gB hg H.size mp wa sl sg hp am ar dn rd (mp (6 * v + b) - 1)) (cwV 1 hts gX2_63 rfl rfl rfl (by decide +kernel) ⟨Nat.le_of_ble_eq_true rfl, Nat.le_of_ble_eq_true rfl⟩) (xp_v nwL_ok hK hN hP hD [0, 1, 2, 3, 4] rfl rfl (va_recv hK hP (ci := 2) (q0 := 0) rfl rfl)) rfl rfl hl.1 rfl (lv_room (Nat.le_of_ble_eq_true rfl)) dX2_refsOf_47 ⟨Nat.zero_le _, Nat.zero_le _⟩) hP hD hS hA [0, 1, 2, 3, 4] [] rfl rfl (by decide) (by decide) (fun r_12 u_13 H locs hw hP hD hS => ?_)
        obtain ⟨er_12, eu_13⟩ := hw
        rw [eu_13] at hP hD
        rw [er_12]
        have hP : va_P (dC, dI) vwCl [(o0, .inr (2, [.int (nI gW), .int (nI gC), .int (nI gV), .int (nI gB), .ref om, .ref ow, .ref os, .ref og, .int hp, .int am, .int ar, .int dn, .int rd])), (om, .inl (z1, 24, .inl mp)), (ow, .inl (z2, 24, .inl wa)), (os, .inl (z3, 52, .inl sl)), (og, .inl (z4, 4, .inl sg))] H := hP
        have hD : va_D A [(o0, .inr (2, [.int (nI gW), .int (nI gC), .int (nI gV), .int (nI gB), .ref om, .ref ow, .ref os, .ref og, .int hp, .int am, .int ar, .int dn, .int rd])), (om, .inl (z1, 24, .inl mp)), (ow, .inl (z2, 24, .inl wa)), (os, .inl (z3, 52, .inl sl)), (og, .inl (z4, 4, .inl sg))] := hD
        refine lv_goto (tgt := 54) hx hb dX2_refsOf_50 (by decide) ?_
        exact W.iret (v := nI (cntC mp 0 (mp (6 * v + b) - 1 + 1) 24)) hx hb hr (fun t ht hW => ⟨⟨nI (cntC mp 0 (mp (6 * v + b) - 1 + 1) 24), (mp, wa, sl, sg, hp, am, ar, dn, rd), rfl, ⟨by unfold m_refs; rw [if_pos c_1, if_neg c_4, ev, eb, nI_clamp (n := v) (by omega), nI_clamp (n := b) (by omega), if_neg c_8], by unfold m_refs; rw [if_pos c_1, if_neg c_4, ev, eb, nI_clamp (n := v) (by omega), nI_clamp (n := b) (by omega), if_neg c_8]⟩, by rw [ht]; exact hP, hD⟩, hS.F ht⟩) hS.2.2 dX2_refsOf_54
  · refine lv_bipush (v := (-4)) hx hb dX2_refsOf_7 (by decide) ?_
    exact W.iret (v := (-4)) hx hb hr (fun t ht hW => ⟨⟨(-4), (mp, wa, sl, sg, hp, am, ar, dn, rd), rfl, ⟨by unfold m_refs; rw [if_neg c_1], by unfold m_refs; rw [if_neg c_1]⟩, by rw [ht]; exact hP, hD⟩, hS.F ht⟩) hS.2.2 dX2_refsOf_9
set_option maxHeartbeats 4000000 in
set_option maxRecDepth 100000 in
theorem k_X2_slotOf (l : Launch) (dC : Nat → ClassId) (dI : Nat → Nat → Nat) (o0 om ow os og : Nat) (z1 z2 z3 z4 : ClassId) (gW gC gV gB : Nat) (hg : mge gW gC gV gB) (sz : Nat) (mp wa sl sg : Nat → Int32) (hp am ar dn rd : Int32) (vol lb : Int32) : ctI nwL l yX2_slotOf wsX2_slotOf ({ frames := 2, cells := 0, slots := 0, locals := 43 } : Room) (dC, dI) [(z1, .int), (z2, .int), (z3, .int), (z4, .int)] (mo_w o0 om ow os og z1 z2 z3 z4 gW gC gV gB) (mp, wa, sl, sg, hp, am, ar, dn, rd) sz [.ref o0, .int vol, .int lb] (fun (r : Int32) (u : MS) => r = (m_slot mp wa sl sg hp am ar dn rd gW gC gV gB vol lb).1 ∧ u = (m_slot mp wa sl sg hp am ar dn rd gW gC gV gB vol lb).2) := by
  refine Met.ofW (cc := cX2_slotOf) (maxL := 3) (ret := (some .int)) (by decide) rfl ?_
  intro p e s m args below meth c s₁ B hml hv
  obtain ⟨rfl, hsz, hP, hK, hD0, hN⟩ := hv
  have hx := B.exec
  have hb := B.bytes
  have hr := B.returns
  have hts := fun w h => atoms_spec (ws := wsX2_slotOf) B.pre w (List.mem_cons_of_mem _ h)
  have hown : s.vm.findClass RX2 = some m.cls := findClass_of_methodNamed B.named
  have hlocks := B.notSynchronized
  subst hsz
  have hD := hD0.self (sz := s.heap.size)
  generalize hAe : va_A ((mo_w o0 om ow os og z1 z2 z3 z4 gW gC gV gB) (mp, wa, sl, sg, hp, am, ar, dn, rd)) s.heap.size = A at hD ⊢
  have hA : ∀ q : Nat, s.heap.size ≤ q → A q := fun q h => by rw [← hAe]; exact Or.inr h
  have hS : va_S A s.heap s.heap [] := va_S.rf
  have hl := lv_entry ([.ref o0, .int vol, .int lb]) (n := 3) (Nat.le_of_ble_eq_true rfl)
  rw [lg_entry_eq]
  generalize (lg_sl ([.ref o0, .int vol, .int lb]) ++ List.replicate (3 - (lg_sl ([.ref o0, .int vol, .int lb])).length) Slot.unset).toArray = ls at hl ⊢
  have hP : va_P (dC, dI) vwCl [(o0, .inr (2, [.int (nI gW), .int (nI gC), .int (nI gV), .int (nI gB), .ref om, .ref ow, .ref os, .ref og, .int hp, .int am, .int ar, .int dn, .int rd])), (om, .inl (z1, 24, .inl mp)), (ow, .inl (z2, 24, .inl wa)), (os, .inl (z3, 52, .inl sl)), (og, .inl (z4, 4, .inl sg))] s.heap := hP
  have hD : va_D A [(o0, .inr (2, [.int (nI gW), .int (nI gC), .int (nI gV), .int (nI gB), .ref om, .ref ow, .ref os, .ref og, .int hp, .int am, .int ar, .int dn, .int rd])), (om, .inl (z1, 24, .inl mp)), (ow, .inl (z2, 24, .inl wa)), (os, .inl (z3, 52, .inl sl)), (og, .inl (z4, 4, .inl sg))] := hD
  have hl : lv_has ls 3 [(0, .ref o0), (1, .int vol), (2, .int lb)] := hl
  obtain ⟨⟨hW1, hW2⟩, ⟨hC1, hC2⟩, ⟨hV1, hV2⟩, ⟨hB1, hB2⟩⟩ := id hg
  refine lv_aload_n hx hb dX2_slotOf_0 rfl (lv_at hl 0 rfl) ?_
  refine va_get (D := (dC, dI)) (ci := 2) (v := .int dn) (C := RX2) (T := TX2) (N := 13) hx hb hts inX2 hown hK hP 0 rfl rfl 11 (by decide) (hts _ tb_266) (fun _ h9 => h9) rfl dX2_slotOf_1 ?_
  refine lv_if_eq (tgt := 10) hx hb dX2_slotOf_4 (by decide) (fun c_1 => ?_) (fun c_1 => ?_)
  · refine lv_aload_n hx hb dX2_slotOf_10 rfl (lv_at hl 0 rfl) ?_
    refine lv_iload_n hx hb dX2_slotOf_11 rfl (lv_at hl 1 rfl) ?_
    refine lv_iload_n hx hb dX2_slotOf_12 rfl (lv_at hl 2 rfl) ?_
    refine xr_i (D := (dC, dI)) (wf := (mo_w o0 om ow os og z1 z2 z3 z4 gW gC gV gB)) (u0 := (mp, wa, sl, sg, hp, am, ar, dn, rd)) (wr := []) (va_runV (As := [.int vol, .int lb]) (rest := []) ⟨hx, hb, hml, hown, hts⟩ (k_X2_block l dC dI o0 om ow os og z1 z2 z3 z4 gW gC gV gB hg s.heap.size mp wa sl sg hp am ar dn rd vol lb) (cwV 2 hts gX2_72 rfl rfl rfl (by decide +kernel) ⟨Nat.le_of_ble_eq_true rfl, Nat.le_of_ble_eq_true rfl⟩) (xp_v nwL_ok hK hN hP hD [0, 1, 2, 3, 4] rfl rfl (va_recv hK hP (ci := 2) (q0 := 0) rfl rfl)) rfl rfl hl.1 rfl (lv_room (Nat.le_of_ble_eq_true rfl)) dX2_slotOf_13 ⟨Nat.zero_le _, Nat.zero_le _⟩) hP hD hS hA [0, 1, 2, 3, 4] [] rfl rfl (by decide) (by decide) (fun r_2 u_3 H locs hw hP hD hS => ?_)
    obtain ⟨er_2, eu_3⟩ := hw
    rw [eu_3] at hP hD
    rw [er_2]
    have hP : va_P (dC, dI) vwCl [(o0, .inr (2, [.int (nI gW), .int (nI gC), .int (nI gV), .int (nI gB), .ref om, .ref ow, .ref os, .ref og, .int hp, .int am, .int ar, .int dn, .int rd])), (om, .inl (z1, 24, .inl mp)), (ow, .inl (z2, 24, .inl wa)), (os, .inl (z3, 52, .inl sl)), (og, .inl (z4, 4, .inl sg))] H := hP
    have hD : va_D A [(o0, .inr (2, [.int (nI gW), .int (nI gC), .int (nI gV), .int (nI gB), .ref om, .ref ow, .ref os, .ref og, .int hp, .int am, .int ar, .int dn, .int rd])), (om, .inl (z1, 24, .inl mp)), (ow, .inl (z2, 24, .inl wa)), (os, .inl (z3, 52, .inl sl)), (og, .inl (z4, 4, .inl sg))] := hD
    refine lv_if_ne (tgt := 21) hx hb dX2_slotOf_16 (by decide) (fun c_4 => ?_) (fun c_4 => ?_)
    · obtain ⟨v, b, hv, hb9, ev, eb⟩ := inB_nz (by omega) (by omega) c_4
      have hl : lv_has ls 3 [(0, .ref o0), (1, .int (nI v)), (2, .int lb)] := by have q9 := hl; rw [ev] at q9; exact q9
      have hl : lv_has ls 3 [(0, .ref o0), (1, .int (nI v)), (2, .int (nI b))] := by have q9 := hl; rw [eb] at q9; exact q9
      refine lv_aload_n hx hb dX2_slotOf_21 rfl (lv_at hl 0 rfl) ?_
      refine va_get (D := (dC, dI)) (ci := 2) (v := .ref om) (C := RX2) (T := TX2) (N := 13) hx hb hts inX2 hown hK hP 0 rfl rfl 4 (by decide) (hts _ tb_259) (fun _ h9 => h9) rfl dX2_slotOf_22 ?_
      refine lv_bipush (v := 6) hx hb dX2_slotOf_25 (by decide) ?_
      refine lv_iload_n hx hb dX2_slotOf_27 rfl (lv_at hl 1 rfl) ?_
      refine lv_imul hx hb dX2_slotOf_28 ?_
      refine lv_topi (fun z_5 ez_5 => ?_)
      obtain rfl : z_5 = nI (6 * v) := ez_5.trans (pk_mul 6 v)
      refine lv_iload_n hx hb dX2_slotOf_29 rfl (lv_at hl 2 rfl) ?_
      refine lv_iadd hx hb dX2_slotOf_30 ?_
      refine lv_topi (fun z_6 ez_6 => ?_)
      obtain rfl : z_6 = nI (6 * v + b) := ez_6.trans (nI_add (6 * v) b)
      refine va_iald hx hb hK hP 1 0 rfl rfl (vp_in_nI (n := 6 * v + b) (by omega) (by omega)) dX2_slotOf_31 ?_
      refine lv_topi (fun z_7 ez_7 => ?_)
      obtain rfl : z_7 = mp (6 * v + b) := ez_7.trans (by rw [nI_clamp (n := 6 * v + b) (by omega)])
      refine lv_if_ne (tgt := 40) hx hb dX2_slotOf_32 (by decide) (fun c_8 => ?_) (fun c_8 => ?_)
      · refine lv_aload_n hx hb dX2_slotOf_40 rfl (lv_at hl 0 rfl) ?_
        refine va_get (D := (dC, dI)) (ci := 2) (v := .ref om) (C := RX2) (T := TX2) (N := 13) hx hb hts inX2 hown hK hP 0 rfl rfl 4 (by decide) (hts _ tb_259) (fun _ h9 => h9) rfl dX2_slotOf_41 ?_
        refine lv_bipush (v := 6) hx hb dX2_slotOf_44 (by decide) ?_
        refine lv_iload_n hx hb dX2_slotOf_46 rfl (lv_at hl 1 rfl) ?_
        refine lv_imul hx hb dX2_slotOf_47 ?_
        refine lv_topi (fun z_9 ez_9 => ?_)
        obtain rfl : z_9 = nI (6 * v) := ez_9.trans (pk_mul 6 v)
        refine lv_iload_n hx hb dX2_slotOf_48 rfl (lv_at hl 2 rfl) ?_
        refine lv_iadd hx hb dX2_slotOf_49 ?_
        refine lv_topi (fun z_10 ez_10 => ?_)
        obtain rfl : z_10 = nI (6 * v + b) := ez_10.trans (nI_add (6 * v) b)
        refine va_iald hx hb hK hP 1 0 rfl rfl (vp_in_nI (n := 6 * v + b) (by omega) (by omega)) dX2_slotOf_50 ?_
        refine lv_topi (fun z_11 ez_11 => ?_)
        obtain rfl : z_11 = mp (6 * v + b) := ez_11.trans (by rw [nI_clamp (n := 6 * v + b) (by omega)])
        refine lv_iconst (v := 1) hx hb dX2_slotOf_51 (by decide) ?_
        refine lv_isub hx hb dX2_slotOf_52 ?_
        exact W.iret (v := mp (6 * v + b) - 1) hx hb hr (fun t ht hW => ⟨⟨mp (6 * v + b) - 1, (mp, wa, sl, sg, hp, am, ar, dn, rd), rfl, ⟨by unfold m_slot; rw [if_pos c_1, if_neg c_4, ev, eb, nI_clamp (n := v) (by omega), nI_clamp (n := b) (by omega), if_neg c_8], by unfold m_slot; rw [if_pos c_1, if_neg c_4, ev, eb, nI_clamp (n := v) (by omega), nI_clamp (n := b) (by omega), if_neg c_8]⟩, by rw [ht]; exact hP, hD⟩, hS.F ht⟩) hS.2.2 dX2_slotOf_53
      · refine lv_bipush (v := (-3)) hx hb dX2_slotOf_35 (by decide) ?_
        refine lv_goto (tgt := 53) hx hb dX2_slotOf_37 (by decide) ?_
        exact W.iret (v := (-3)) hx hb hr (fun t ht hW => ⟨⟨(-3), (mp, wa, sl, sg, hp, am, ar, dn, rd), rfl, ⟨by unfold m_slot; rw [if_pos c_1, if_neg c_4, ev, eb, nI_clamp (n := v) (by omega), nI_clamp (n := b) (by omega), if_pos c_8], by unfold m_slot; rw [if_pos c_1, if_neg c_4, ev, eb, nI_clamp (n := v) (by omega), nI_clamp (n := b) (by omega), if_pos c_8]⟩, by rw [ht]; exact hP, hD⟩, hS.F ht⟩) hS.2.2 dX2_slotOf_53
    · refine lv_iconst (v := (-1)) hx hb dX2_slotOf_19 (by decide) ?_
      exact W.iret (v := (-1)) hx hb hr (fun t ht hW => ⟨⟨(-1), (mp, wa, sl, sg, hp, am, ar, dn, rd), rfl, ⟨by unfold m_slot; rw [if_pos c_1, if_pos c_4], by unfold m_slot; rw [if_pos c_1, if_pos c_4]⟩, by rw [ht]; exact hP, hD⟩, hS.F ht⟩) hS.2.2 dX2_slotOf_20
  · refine lv_bipush (v := (-4)) hx hb dX2_slotOf_7 (by decide) ?_
    exact W.iret (v := (-4)) hx hb hr (fun t ht hW => ⟨⟨(-4), (mp, wa, sl, sg, hp, am, ar, dn, rd), rfl, ⟨by unfold m_slot; rw [if_neg c_1], by unfold m_slot; rw [if_neg c_1]⟩, by rw [ht]; exact hP, hD⟩, hS.F ht⟩) hS.2.2 dX2_slotOf_9
set_option maxHeartbeats 4000000 in
set_option maxRecDepth 100000 in
theorem k_X2_slotWord (l : Launch) (dC : Nat → ClassId) (dI : Nat → Nat → Nat) (o0 om ow os og : Nat) (z1 z2 z3 z4 : ClassId) (gW gC gV gB : Nat) (hg : mge gW gC gV gB) (sz : Nat) (mp wa sl sg : Nat → Int32) (hp am ar dn rd : Int32) (slot i : Int32) : ctI nwL l yX2_slotWord wsX2_slotWord ({ frames := 1, cells := 0, slots := 0, locals := 21 } : Room) (dC, dI) [(z1, .int), (z2, .int), (z3, .int), (z4, .int)] (mo_w o0 om ow os og z1 z2 z3 z4 gW gC gV gB) (mp, wa, sl, sg, hp, am, ar, dn, rd) sz [.ref o0, .int slot, .int i] (fun (r : Int32) (u : MS) => r = (m_word mp wa sl sg hp am ar dn rd gW gC gV gB slot i).1 ∧ u = (m_word mp wa sl sg hp am ar dn rd gW gC gV gB slot i).2) := by
  refine Met.ofW (cc := cX2_slotWord) (maxL := 3) (ret := (some .int)) (by decide) rfl ?_
  intro p e s m args below meth c s₁ B hml hv
  obtain ⟨rfl, hsz, hP, hK, hD0, hN⟩ := hv
  have hx := B.exec
  have hb := B.bytes
  have hr := B.returns
  have hts := fun w h => atoms_spec (ws := wsX2_slotWord) B.pre w (List.mem_cons_of_mem _ h)
  have hown : s.vm.findClass RX2 = some m.cls := findClass_of_methodNamed B.named
  have hlocks := B.notSynchronized
  subst hsz
  have hD := hD0.self (sz := s.heap.size)
  generalize hAe : va_A ((mo_w o0 om ow os og z1 z2 z3 z4 gW gC gV gB) (mp, wa, sl, sg, hp, am, ar, dn, rd)) s.heap.size = A at hD ⊢
  have hA : ∀ q : Nat, s.heap.size ≤ q → A q := fun q h => by rw [← hAe]; exact Or.inr h
  have hS : va_S A s.heap s.heap [] := va_S.rf
  have hl := lv_entry ([.ref o0, .int slot, .int i]) (n := 3) (Nat.le_of_ble_eq_true rfl)
  rw [lg_entry_eq]
  generalize (lg_sl ([.ref o0, .int slot, .int i]) ++ List.replicate (3 - (lg_sl ([.ref o0, .int slot, .int i])).length) Slot.unset).toArray = ls at hl ⊢
  have hP : va_P (dC, dI) vwCl [(o0, .inr (2, [.int (nI gW), .int (nI gC), .int (nI gV), .int (nI gB), .ref om, .ref ow, .ref os, .ref og, .int hp, .int am, .int ar, .int dn, .int rd])), (om, .inl (z1, 24, .inl mp)), (ow, .inl (z2, 24, .inl wa)), (os, .inl (z3, 52, .inl sl)), (og, .inl (z4, 4, .inl sg))] s.heap := hP
  have hD : va_D A [(o0, .inr (2, [.int (nI gW), .int (nI gC), .int (nI gV), .int (nI gB), .ref om, .ref ow, .ref os, .ref og, .int hp, .int am, .int ar, .int dn, .int rd])), (om, .inl (z1, 24, .inl mp)), (ow, .inl (z2, 24, .inl wa)), (os, .inl (z3, 52, .inl sl)), (og, .inl (z4, 4, .inl sg))] := hD
  have hl : lv_has ls 3 [(0, .ref o0), (1, .int slot), (2, .int i)] := hl
  obtain ⟨⟨hW1, hW2⟩, ⟨hC1, hC2⟩, ⟨hV1, hV2⟩, ⟨hB1, hB2⟩⟩ := id hg
  refine lv_aload_n hx hb dX2_slotWord_0 rfl (lv_at hl 0 rfl) ?_
  refine va_get (D := (dC, dI)) (ci := 2) (v := .int dn) (C := RX2) (T := TX2) (N := 13) hx hb hts inX2 hown hK hP 0 rfl rfl 11 (by decide) (hts _ tb_266) (fun _ h9 => h9) rfl dX2_slotWord_1 ?_
  refine lv_if_eq (tgt := 10) hx hb dX2_slotWord_4 (by decide) (fun c_1 => ?_) (fun c_1 => ?_)
  · refine lv_iload_n hx hb dX2_slotWord_10 rfl (lv_at hl 1 rfl) ?_
    refine lv_if_lt (tgt := 43) hx hb dX2_slotWord_11 (by decide) (fun c_2 => ?_) (fun c_2 => ?_)
    · refine lv_iconst (v := 0) hx hb dX2_slotWord_43 (by decide) ?_
      exact W.iret (v := 0) hx hb hr (fun t ht hW => ⟨⟨0, (mp, wa, sl, sg, hp, am, ar, dn, rd), rfl, ⟨by unfold m_word; rw [if_pos c_1, if_pos c_2], by unfold m_word; rw [if_pos c_1, if_pos c_2]⟩, by rw [ht]; exact hP, hD⟩, hS.F ht⟩) hS.2.2 dX2_slotWord_44
    · refine lv_iload_n hx hb dX2_slotWord_14 rfl (lv_at hl 1 rfl) ?_
      refine lv_aload_n hx hb dX2_slotWord_15 rfl (lv_at hl 0 rfl) ?_
      refine va_get (D := (dC, dI)) (ci := 2) (v := .int (nI gC)) (C := RX2) (T := TX2) (N := 13) hx hb hts inX2 hown hK hP 0 rfl rfl 1 (by decide) (hts _ tb_256) (fun _ h9 => h9) rfl dX2_slotWord_16 ?_
      refine lv_icmp_gt (tgt := 43) hx hb dX2_slotWord_19 (by decide) (fun c_3 => ?_) (fun c_3 => ?_)
      · refine lv_iconst (v := 0) hx hb dX2_slotWord_43 (by decide) ?_
        exact W.iret (v := 0) hx hb hr (fun t ht hW => ⟨⟨0, (mp, wa, sl, sg, hp, am, ar, dn, rd), rfl, ⟨by unfold m_word; rw [if_pos c_1, if_neg c_2, if_pos c_3], by unfold m_word; rw [if_pos c_1, if_neg c_2, if_pos c_3]⟩, by rw [ht]; exact hP, hD⟩, hS.F ht⟩) hS.2.2 dX2_slotWord_44
      · obtain ⟨k, hk, ek⟩ := nI_of3 (by omega) c_2 c_3
        have hl : lv_has ls 3 [(0, .ref o0), (1, .int (nI k)), (2, .int i)] := by have q9 := hl; rw [ek] at q9; exact q9
        refine lv_aload_n hx hb dX2_slotWord_22 rfl (lv_at hl 0 rfl) ?_
        refine lv_iload_n hx hb dX2_slotWord_23 rfl (lv_at hl 2 rfl) ?_
        refine xr_i (D := (dC, dI)) (wf := (mo_w o0 om ow os og z1 z2 z3 z4 gW gC gV gB)) (u0 := (mp, wa, sl, sg, hp, am, ar, dn, rd)) (wr := []) (va_runV (As := [.int i]) (rest := []) ⟨hx, hb, hml, hown, hts⟩ (k_X2_isWord l dC dI o0 om ow os og z1 z2 z3 z4 gW gC gV gB hg s.heap.size mp wa sl sg hp am ar dn rd i) (cwV 1 hts gX2_69 rfl rfl rfl (by decide +kernel) ⟨Nat.le_of_ble_eq_true rfl, Nat.le_of_ble_eq_true rfl⟩) (xp_v nwL_ok hK hN hP hD [0, 1, 2, 3, 4] rfl rfl (va_recv hK hP (ci := 2) (q0 := 0) rfl rfl)) rfl rfl hl.1 rfl (lv_room (Nat.le_of_ble_eq_true rfl)) dX2_slotWord_24 ⟨Nat.zero_le _, Nat.zero_le _⟩) hP hD hS hA [0, 1, 2, 3, 4] [] rfl rfl (by decide) (by decide) (fun r_4 u_5 H locs hw hP hD hS => ?_)
        obtain ⟨er_4, eu_5⟩ := hw
        rw [eu_5] at hP hD
        rw [er_4]
        have hP : va_P (dC, dI) vwCl [(o0, .inr (2, [.int (nI gW), .int (nI gC), .int (nI gV), .int (nI gB), .ref om, .ref ow, .ref os, .ref og, .int hp, .int am, .int ar, .int dn, .int rd])), (om, .inl (z1, 24, .inl mp)), (ow, .inl (z2, 24, .inl wa)), (os, .inl (z3, 52, .inl sl)), (og, .inl (z4, 4, .inl sg))] H := hP
        have hD : va_D A [(o0, .inr (2, [.int (nI gW), .int (nI gC), .int (nI gV), .int (nI gB), .ref om, .ref ow, .ref os, .ref og, .int hp, .int am, .int ar, .int dn, .int rd])), (om, .inl (z1, 24, .inl mp)), (ow, .inl (z2, 24, .inl wa)), (os, .inl (z3, 52, .inl sl)), (og, .inl (z4, 4, .inl sg))] := hD
        refine lv_if_eq (tgt := 43) hx hb dX2_slotWord_27 (by decide) (fun c_6 => ?_) (fun c_6 => ?_)
        · refine lv_iconst (v := 0) hx hb dX2_slotWord_43 (by decide) ?_
          exact W.iret (v := 0) hx hb hr (fun t ht hW => ⟨⟨0, (mp, wa, sl, sg, hp, am, ar, dn, rd), rfl, ⟨by unfold m_word; rw [if_pos c_1, if_neg c_2, if_neg c_3, if_pos c_6], by unfold m_word; rw [if_pos c_1, if_neg c_2, if_neg c_3, if_pos c_6]⟩, by rw [ht]; exact hP, hD⟩, hS.F ht⟩) hS.2.2 dX2_slotWord_44
        · obtain ⟨j, hj, ej⟩ := inR_nz (by omega) c_6
          have hl : lv_has ls 3 [(0, .ref o0), (1, .int (nI k)), (2, .int (nI j))] := by have q9 := hl; rw [ej] at q9; exact q9
          refine lv_aload_n hx hb dX2_slotWord_30 rfl (lv_at hl 0 rfl) ?_
          refine va_get (D := (dC, dI)) (ci := 2) (v := .ref os) (C := RX2) (T := TX2) (N := 13) hx hb hts inX2 hown hK hP 0 rfl rfl 6 (by decide) (hts _ tb_261) (fun _ h9 => h9) rfl dX2_slotWord_31 ?_
          refine lv_iconst (v := 4) hx hb dX2_slotWord_34 (by decide) ?_
          refine lv_iload_n hx hb dX2_slotWord_35 rfl (lv_at hl 1 rfl) ?_
          refine lv_imul hx hb dX2_slotWord_36 ?_
          refine lv_topi (fun z_7 ez_7 => ?_)
          obtain rfl : z_7 = nI (4 * k) := ez_7.trans (pk_mul 4 k)
          refine lv_iload_n hx hb dX2_slotWord_37 rfl (lv_at hl 2 rfl) ?_
          refine lv_iadd hx hb dX2_slotWord_38 ?_
          refine lv_topi (fun z_8 ez_8 => ?_)
          obtain rfl : z_8 = nI (4 * k + j) := ez_8.trans (nI_add (4 * k) j)
          refine va_iald hx hb hK hP 3 2 rfl rfl (vp_in_nI (n := 4 * k + j) (by omega) (by omega)) dX2_slotWord_39 ?_
          refine lv_topi (fun z_9 ez_9 => ?_)
          obtain rfl : z_9 = sl (4 * k + j) := ez_9.trans (by rw [nI_clamp (n := 4 * k + j) (by omega)])
          refine lv_goto (tgt := 44) hx hb dX2_slotWord_40 (by decide) ?_
          exact W.iret (v := sl (4 * k + j)) hx hb hr (fun t ht hW => ⟨⟨sl (4 * k + j), (mp, wa, sl, sg, hp, am, ar, dn, rd), rfl, ⟨by unfold m_word; rw [if_pos c_1, if_neg c_2, if_neg c_3, if_neg c_6, ek, nI_clamp (n := k) (by omega), ej, nI_clamp (n := j) (by omega)], by unfold m_word; rw [if_pos c_1, if_neg c_2, if_neg c_3, if_neg c_6, ek, nI_clamp (n := k) (by omega), ej, nI_clamp (n := j) (by omega)]⟩, by rw [ht]; exact hP, hD⟩, hS.F ht⟩) hS.2.2 dX2_slotWord_44
  · refine lv_bipush (v := (-4)) hx hb dX2_slotWord_7 (by decide) ?_
    exact W.iret (v := (-4)) hx hb hr (fun t ht hW => ⟨⟨(-4), (mp, wa, sl, sg, hp, am, ar, dn, rd), rfl, ⟨by unfold m_word; rw [if_neg c_1], by unfold m_word; rw [if_neg c_1]⟩, by rw [ht]; exact hP, hD⟩, hS.F ht⟩) hS.2.2 dX2_slotWord_9
set_option maxHeartbeats 4000000 in
set_option maxRecDepth 100000 in
theorem k_X2_crashAfter (l : Launch) (dC : Nat → ClassId) (dI : Nat → Nat → Nat) (o0 om ow os og : Nat) (z1 z2 z3 z4 : ClassId) (gW gC gV gB : Nat) (hg : mge gW gC gV gB) (sz : Nat) (mp wa sl sg : Nat → Int32) (hp am ar dn rd : Int32) (n : Int32) : ctV nwL l yX2_crashAfter wsX2_crashAfter ({ frames := 0, cells := 0, slots := 0, locals := 0 } : Room) (dC, dI) [(z1, .int), (z2, .int), (z3, .int), (z4, .int)] (mo_w o0 om ow os og z1 z2 z3 z4 gW gC gV gB) (mp, wa, sl, sg, hp, am, ar, dn, rd) sz [.ref o0, .int n] (fun (u : MS) => u = m_arm mp wa sl sg hp am ar dn rd gW gC gV gB n) := by
  refine Met.ofW (cc := cX2_crashAfter) (maxL := 2) (ret := none) (by decide) rfl ?_
  intro p e s m args below meth c s₁ B hml hv
  obtain ⟨rfl, hsz, hP, hK, hD0, hN⟩ := hv
  have hx := B.exec
  have hb := B.bytes
  have hr := B.returns
  have hts := fun w h => atoms_spec (ws := wsX2_crashAfter) B.pre w (List.mem_cons_of_mem _ h)
  have hown : s.vm.findClass RX2 = some m.cls := findClass_of_methodNamed B.named
  have hlocks := B.notSynchronized
  subst hsz
  have hD := hD0.self (sz := s.heap.size)
  generalize hAe : va_A ((mo_w o0 om ow os og z1 z2 z3 z4 gW gC gV gB) (mp, wa, sl, sg, hp, am, ar, dn, rd)) s.heap.size = A at hD ⊢
  have hA : ∀ q : Nat, s.heap.size ≤ q → A q := fun q h => by rw [← hAe]; exact Or.inr h
  have hS : va_S A s.heap s.heap [] := va_S.rf
  have hl := lv_entry ([.ref o0, .int n]) (n := 2) (Nat.le_of_ble_eq_true rfl)
  rw [lg_entry_eq]
  generalize (lg_sl ([.ref o0, .int n]) ++ List.replicate (2 - (lg_sl ([.ref o0, .int n])).length) Slot.unset).toArray = ls at hl ⊢
  have hP : va_P (dC, dI) vwCl [(o0, .inr (2, [.int (nI gW), .int (nI gC), .int (nI gV), .int (nI gB), .ref om, .ref ow, .ref os, .ref og, .int hp, .int am, .int ar, .int dn, .int rd])), (om, .inl (z1, 24, .inl mp)), (ow, .inl (z2, 24, .inl wa)), (os, .inl (z3, 52, .inl sl)), (og, .inl (z4, 4, .inl sg))] s.heap := hP
  have hD : va_D A [(o0, .inr (2, [.int (nI gW), .int (nI gC), .int (nI gV), .int (nI gB), .ref om, .ref ow, .ref os, .ref og, .int hp, .int am, .int ar, .int dn, .int rd])), (om, .inl (z1, 24, .inl mp)), (ow, .inl (z2, 24, .inl wa)), (os, .inl (z3, 52, .inl sl)), (og, .inl (z4, 4, .inl sg))] := hD
  have hl : lv_has ls 2 [(0, .ref o0), (1, .int n)] := hl
  obtain ⟨⟨hW1, hW2⟩, ⟨hC1, hC2⟩, ⟨hV1, hV2⟩, ⟨hB1, hB2⟩⟩ := id hg
  refine lv_aload_n hx hb dX2_crashAfter_0 rfl (lv_at hl 0 rfl) ?_
  refine va_get (D := (dC, dI)) (ci := 2) (v := .int dn) (C := RX2) (T := TX2) (N := 13) hx hb hts inX2 hown hK hP 0 rfl rfl 11 (by decide) (hts _ tb_266) (fun _ h9 => h9) rfl dX2_crashAfter_1 ?_
  refine lv_if_eq (tgt := 8) hx hb dX2_crashAfter_4 (by decide) (fun c_1 => ?_) (fun c_1 => ?_)
  · refine lv_iload_n hx hb dX2_crashAfter_8 rfl (lv_at hl 1 rfl) ?_
    refine lv_iconst (v := 1) hx hb dX2_crashAfter_9 (by decide) ?_
    refine lv_icmp_ge (tgt := 21) hx hb dX2_crashAfter_10 (by decide) (fun c_2 => ?_) (fun c_2 => ?_)
    · refine lv_aload_n hx hb dX2_crashAfter_21 rfl (lv_at hl 0 rfl) ?_
      refine va_get (D := (dC, dI)) (ci := 2) (v := .int ar) (C := RX2) (T := TX2) (N := 13) hx hb hts inX2 hown hK hP 0 rfl rfl 10 (by decide) (hts _ tb_265) (fun _ h9 => h9) rfl dX2_crashAfter_22 ?_
      refine lv_bipush (v := 30) hx hb dX2_crashAfter_25 (by decide) ?_
      refine lv_icmp_ge (tgt := 45) hx hb dX2_crashAfter_27 (by decide) (fun c_3 => ?_) (fun c_3 => ?_)
      · exact W.vret hx hb hr (fun t ht hW => ⟨⟨(mp, wa, sl, sg, hp, am, ar, dn, rd), rfl, by unfold m_arm; rw [if_pos c_1, if_pos c_2, if_pos c_3], by rw [ht]; exact hP, hD⟩, hS.F ht⟩) hS.2.2 dX2_crashAfter_45
      · refine lv_aload_n hx hb dX2_crashAfter_30 rfl (lv_at hl 0 rfl) ?_
        refine lv_iload_n hx hb dX2_crashAfter_31 rfl (lv_at hl 1 rfl) ?_
        refine va_put (D := (dC, dI)) (ci := 2) (v := .int n) (ty := .int) (C := RX2) (T := TX2) (N := 13) hx hb hts inX2 tyX2 okX2 nmX2 hown hK hP hD hS 0 rfl rfl 9 (by decide) (hts _ tb_264) (fun _ h9 => h9) rfl (by decide +kernel) rfl rfl (Nat.le_of_ble_eq_true rfl) dX2_crashAfter_32 (fun H locs hP hD hS => ?_)
        have hP : va_P (dC, dI) vwCl [(o0, .inr (2, [.int (nI gW), .int (nI gC), .int (nI gV), .int (nI gB), .ref om, .ref ow, .ref os, .ref og, .int hp, .int n, .int ar, .int dn, .int rd])), (om, .inl (z1, 24, .inl mp)), (ow, .inl (z2, 24, .inl wa)), (os, .inl (z3, 52, .inl sl)), (og, .inl (z4, 4, .inl sg))] H := hP
        have hD : va_D A [(o0, .inr (2, [.int (nI gW), .int (nI gC), .int (nI gV), .int (nI gB), .ref om, .ref ow, .ref os, .ref og, .int hp, .int n, .int ar, .int dn, .int rd])), (om, .inl (z1, 24, .inl mp)), (ow, .inl (z2, 24, .inl wa)), (os, .inl (z3, 52, .inl sl)), (og, .inl (z4, 4, .inl sg))] := hD
        refine lv_aload_n hx hb dX2_crashAfter_35 rfl (lv_at hl 0 rfl) ?_
        refine lv_dup hx hb dX2_crashAfter_36 rfl ?_
        refine va_get (D := (dC, dI)) (ci := 2) (v := .int ar) (C := RX2) (T := TX2) (N := 13) hx hb hts inX2 hown hK hP 0 rfl rfl 10 (by decide) (hts _ tb_265) (fun _ h9 => h9) rfl dX2_crashAfter_37 ?_
        refine lv_iconst (v := 1) hx hb dX2_crashAfter_40 (by decide) ?_
        refine lv_iadd hx hb dX2_crashAfter_41 ?_
        refine va_put (D := (dC, dI)) (ci := 2) (v := .int (ar + 1)) (ty := .int) (C := RX2) (T := TX2) (N := 13) hx hb hts inX2 tyX2 okX2 nmX2 hown hK hP hD hS 0 rfl rfl 10 (by decide) (hts _ tb_265) (fun _ h9 => h9) rfl (by decide +kernel) rfl rfl (Nat.le_of_ble_eq_true rfl) dX2_crashAfter_42 (fun H locs hP hD hS => ?_)
        have hP : va_P (dC, dI) vwCl [(o0, .inr (2, [.int (nI gW), .int (nI gC), .int (nI gV), .int (nI gB), .ref om, .ref ow, .ref os, .ref og, .int hp, .int n, .int (ar + 1), .int dn, .int rd])), (om, .inl (z1, 24, .inl mp)), (ow, .inl (z2, 24, .inl wa)), (os, .inl (z3, 52, .inl sl)), (og, .inl (z4, 4, .inl sg))] H := hP
        have hD : va_D A [(o0, .inr (2, [.int (nI gW), .int (nI gC), .int (nI gV), .int (nI gB), .ref om, .ref ow, .ref os, .ref og, .int hp, .int n, .int (ar + 1), .int dn, .int rd])), (om, .inl (z1, 24, .inl mp)), (ow, .inl (z2, 24, .inl wa)), (os, .inl (z3, 52, .inl sl)), (og, .inl (z4, 4, .inl sg))] := hD
        exact W.vret hx hb hr (fun t ht hW => ⟨⟨(mp, wa, sl, sg, hp, n, ar + 1, dn, rd), rfl, by unfold m_arm; rw [if_pos c_1, if_pos c_2, if_neg c_3], by rw [ht]; exact hP, hD⟩, hS.F ht⟩) hS.2.2 dX2_crashAfter_45
    · refine lv_aload_n hx hb dX2_crashAfter_13 rfl (lv_at hl 0 rfl) ?_
      refine lv_iconst (v := 0) hx hb dX2_crashAfter_14 (by decide) ?_
      refine va_put (D := (dC, dI)) (ci := 2) (v := .int 0) (ty := .int) (C := RX2) (T := TX2) (N := 13) hx hb hts inX2 tyX2 okX2 nmX2 hown hK hP hD hS 0 rfl rfl 9 (by decide) (hts _ tb_264) (fun _ h9 => h9) rfl (by decide +kernel) rfl rfl (Nat.le_of_ble_eq_true rfl) dX2_crashAfter_15 (fun H locs hP hD hS => ?_)
      have hP : va_P (dC, dI) vwCl [(o0, .inr (2, [.int (nI gW), .int (nI gC), .int (nI gV), .int (nI gB), .ref om, .ref ow, .ref os, .ref og, .int hp, .int 0, .int ar, .int dn, .int rd])), (om, .inl (z1, 24, .inl mp)), (ow, .inl (z2, 24, .inl wa)), (os, .inl (z3, 52, .inl sl)), (og, .inl (z4, 4, .inl sg))] H := hP
      have hD : va_D A [(o0, .inr (2, [.int (nI gW), .int (nI gC), .int (nI gV), .int (nI gB), .ref om, .ref ow, .ref os, .ref og, .int hp, .int 0, .int ar, .int dn, .int rd])), (om, .inl (z1, 24, .inl mp)), (ow, .inl (z2, 24, .inl wa)), (os, .inl (z3, 52, .inl sl)), (og, .inl (z4, 4, .inl sg))] := hD
      refine lv_goto (tgt := 45) hx hb dX2_crashAfter_18 (by decide) ?_
      exact W.vret hx hb hr (fun t ht hW => ⟨⟨(mp, wa, sl, sg, hp, 0, ar, dn, rd), rfl, by unfold m_arm; rw [if_pos c_1, if_neg c_2], by rw [ht]; exact hP, hD⟩, hS.F ht⟩) hS.2.2 dX2_crashAfter_45
  · exact W.vret hx hb hr (fun t ht hW => ⟨⟨(mp, wa, sl, sg, hp, am, ar, dn, rd), rfl, by unfold m_arm; rw [if_neg c_1], by rw [ht]; exact hP, hD⟩, hS.F ht⟩) hS.2.2 dX2_crashAfter_7
set_option maxHeartbeats 4000000 in
set_option maxRecDepth 100000 in
theorem k_X2_down (l : Launch) (dC : Nat → ClassId) (dI : Nat → Nat → Nat) (o0 om ow os og : Nat) (z1 z2 z3 z4 : ClassId) (gW gC gV gB : Nat) (hg : mge gW gC gV gB) (sz : Nat) (mp wa sl sg : Nat → Int32) (hp am ar dn rd : Int32) (hz : dn = 0 ∨ dn = 1) : ctI nwL l yX2_down wsX2_down ({ frames := 0, cells := 0, slots := 0, locals := 0 } : Room) (dC, dI) [(z1, .int), (z2, .int), (z3, .int), (z4, .int)] (mo_w o0 om ow os og z1 z2 z3 z4 gW gC gV gB) (mp, wa, sl, sg, hp, am, ar, dn, rd) sz [.ref o0] (fun (r : Int32) (u : MS) => r = dn ∧ u = (mp, wa, sl, sg, hp, am, ar, dn, rd)) := by
  refine Met.ofW (cc := cX2_down) (maxL := 1) (ret := (some .boolean)) (by decide) rfl ?_
  intro p e s m args below meth c s₁ B hml hv
  obtain ⟨rfl, hsz, hP, hK, hD0, hN⟩ := hv
  have hx := B.exec
  have hb := B.bytes
  have hr := B.returns
  have hts := fun w h => atoms_spec (ws := wsX2_down) B.pre w (List.mem_cons_of_mem _ h)
  have hown : s.vm.findClass RX2 = some m.cls := findClass_of_methodNamed B.named
  have hlocks := B.notSynchronized
  subst hsz
  have hD := hD0.self (sz := s.heap.size)
  generalize hAe : va_A ((mo_w o0 om ow os og z1 z2 z3 z4 gW gC gV gB) (mp, wa, sl, sg, hp, am, ar, dn, rd)) s.heap.size = A at hD ⊢
  have hA : ∀ q : Nat, s.heap.size ≤ q → A q := fun q h => by rw [← hAe]; exact Or.inr h
  have hS : va_S A s.heap s.heap [] := va_S.rf
  have hl := lv_entry ([.ref o0]) (n := 1) (Nat.le_of_ble_eq_true rfl)
  rw [lg_entry_eq]
  generalize (lg_sl ([.ref o0]) ++ List.replicate (1 - (lg_sl ([.ref o0])).length) Slot.unset).toArray = ls at hl ⊢
  have hP : va_P (dC, dI) vwCl [(o0, .inr (2, [.int (nI gW), .int (nI gC), .int (nI gV), .int (nI gB), .ref om, .ref ow, .ref os, .ref og, .int hp, .int am, .int ar, .int dn, .int rd])), (om, .inl (z1, 24, .inl mp)), (ow, .inl (z2, 24, .inl wa)), (os, .inl (z3, 52, .inl sl)), (og, .inl (z4, 4, .inl sg))] s.heap := hP
  have hD : va_D A [(o0, .inr (2, [.int (nI gW), .int (nI gC), .int (nI gV), .int (nI gB), .ref om, .ref ow, .ref os, .ref og, .int hp, .int am, .int ar, .int dn, .int rd])), (om, .inl (z1, 24, .inl mp)), (ow, .inl (z2, 24, .inl wa)), (os, .inl (z3, 52, .inl sl)), (og, .inl (z4, 4, .inl sg))] := hD
  have hl : lv_has ls 1 [(0, .ref o0)] := hl
  obtain ⟨⟨hW1, hW2⟩, ⟨hC1, hC2⟩, ⟨hV1, hV2⟩, ⟨hB1, hB2⟩⟩ := id hg
  refine lv_aload_n hx hb dX2_down_0 rfl (lv_at hl 0 rfl) ?_
  refine va_get (D := (dC, dI)) (ci := 2) (v := .int dn) (C := RX2) (T := TX2) (N := 13) hx hb hts inX2 hown hK hP 0 rfl rfl 11 (by decide) (hts _ tb_266) (fun _ h9 => h9) rfl dX2_down_1 ?_
  exact W.zret (v := dn) hx hb hr (nar_z hz) (fun t ht hW => ⟨⟨dn, (mp, wa, sl, sg, hp, am, ar, dn, rd), rfl, ⟨rfl, rfl⟩, by rw [ht]; exact hP, hD⟩, hS.F ht⟩) hS.2.2 dX2_down_4
set_option maxHeartbeats 4000000 in
set_option maxRecDepth 100000 in
theorem k_X2_writes (l : Launch) (dC : Nat → ClassId) (dI : Nat → Nat → Nat) (o0 om ow os og : Nat) (z1 z2 z3 z4 : ClassId) (gW gC gV gB : Nat) (hg : mge gW gC gV gB) (sz : Nat) (mp wa sl sg : Nat → Int32) (hp am ar dn rd : Int32)  : ctI nwL l yX2_writes wsX2_writes ({ frames := 0, cells := 0, slots := 0, locals := 0 } : Room) (dC, dI) [(z1, .int), (z2, .int), (z3, .int), (z4, .int)] (mo_w o0 om ow os og z1 z2 z3 z4 gW gC gV gB) (mp, wa, sl, sg, hp, am, ar, dn, rd) sz [.ref o0] (fun (r : Int32) (u : MS) => r = hp ∧ u = (mp, wa, sl, sg, hp, am, ar, dn, rd)) := by
  refine Met.ofW (cc := cX2_writes) (maxL := 1) (ret := (some .int)) (by decide) rfl ?_
  intro p e s m args below meth c s₁ B hml hv
  obtain ⟨rfl, hsz, hP, hK, hD0, hN⟩ := hv
  have hx := B.exec
  have hb := B.bytes
  have hr := B.returns
  have hts := fun w h => atoms_spec (ws := wsX2_writes) B.pre w (List.mem_cons_of_mem _ h)
  have hown : s.vm.findClass RX2 = some m.cls := findClass_of_methodNamed B.named
  have hlocks := B.notSynchronized
  subst hsz
  have hD := hD0.self (sz := s.heap.size)
  generalize hAe : va_A ((mo_w o0 om ow os og z1 z2 z3 z4 gW gC gV gB) (mp, wa, sl, sg, hp, am, ar, dn, rd)) s.heap.size = A at hD ⊢
  have hA : ∀ q : Nat, s.heap.size ≤ q → A q := fun q h => by rw [← hAe]; exact Or.inr h
  have hS : va_S A s.heap s.heap [] := va_S.rf
  have hl := lv_entry ([.ref o0]) (n := 1) (Nat.le_of_ble_eq_true rfl)
  rw [lg_entry_eq]
  generalize (lg_sl ([.ref o0]) ++ List.replicate (1 - (lg_sl ([.ref o0])).length) Slot.unset).toArray = ls at hl ⊢
  have hP : va_P (dC, dI) vwCl [(o0, .inr (2, [.int (nI gW), .int (nI gC), .int (nI gV), .int (nI gB), .ref om, .ref ow, .ref os, .ref og, .int hp, .int am, .int ar, .int dn, .int rd])), (om, .inl (z1, 24, .inl mp)), (ow, .inl (z2, 24, .inl wa)), (os, .inl (z3, 52, .inl sl)), (og, .inl (z4, 4, .inl sg))] s.heap := hP
  have hD : va_D A [(o0, .inr (2, [.int (nI gW), .int (nI gC), .int (nI gV), .int (nI gB), .ref om, .ref ow, .ref os, .ref og, .int hp, .int am, .int ar, .int dn, .int rd])), (om, .inl (z1, 24, .inl mp)), (ow, .inl (z2, 24, .inl wa)), (os, .inl (z3, 52, .inl sl)), (og, .inl (z4, 4, .inl sg))] := hD
  have hl : lv_has ls 1 [(0, .ref o0)] := hl
  obtain ⟨⟨hW1, hW2⟩, ⟨hC1, hC2⟩, ⟨hV1, hV2⟩, ⟨hB1, hB2⟩⟩ := id hg
  refine lv_aload_n hx hb dX2_writes_0 rfl (lv_at hl 0 rfl) ?_
  refine va_get (D := (dC, dI)) (ci := 2) (v := .int hp) (C := RX2) (T := TX2) (N := 13) hx hb hts inX2 hown hK hP 0 rfl rfl 8 (by decide) (hts _ tb_263) (fun _ h9 => h9) rfl dX2_writes_1 ?_
  exact W.iret (v := hp) hx hb hr (fun t ht hW => ⟨⟨hp, (mp, wa, sl, sg, hp, am, ar, dn, rd), rfl, ⟨rfl, rfl⟩, by rw [ht]; exact hP, hD⟩, hS.F ht⟩) hS.2.2 dX2_writes_4
set_option maxHeartbeats 4000000 in
set_option maxRecDepth 100000 in
theorem k_X2_recover (l : Launch) (dC : Nat → ClassId) (dI : Nat → Nat → Nat) (o0 om ow os og : Nat) (z1 z2 z3 z4 : ClassId) (gW gC gV gB : Nat) (hg : mge gW gC gV gB) (sz : Nat) (mp wa sl sg : Nat → Int32) (hp am ar dn rd : Int32)  : ctI nwL l yX2_recover wsX2_recover ({ frames := 1, cells := 0, slots := 0, locals := 21 } : Room) (dC, dI) [(z1, .int), (z2, .int), (z3, .int), (z4, .int)] (mo_w o0 om ow os og z1 z2 z3 z4 gW gC gV gB) (mp, wa, sl, sg, hp, am, ar, dn, rd) sz [.ref o0] (fun (r : Int32) (u : MS) => r = (m_rec mp wa sl sg hp am ar dn rd gW gC gV gB ).1 ∧ u = (m_rec mp wa sl sg hp am ar dn rd gW gC gV gB ).2) := by
  refine Met.ofW (cc := cX2_recover) (maxL := 1) (ret := (some .int)) (by decide) rfl ?_
  intro p e s m args below meth c s₁ B hml hv
  obtain ⟨rfl, hsz, hP, hK, hD0, hN⟩ := hv
  have hx := B.exec
  have hb := B.bytes
  have hr := B.returns
  have hts := fun w h => atoms_spec (ws := wsX2_recover) B.pre w (List.mem_cons_of_mem _ h)
  have hown : s.vm.findClass RX2 = some m.cls := findClass_of_methodNamed B.named
  have hlocks := B.notSynchronized
  subst hsz
  have hD := hD0.self (sz := s.heap.size)
  generalize hAe : va_A ((mo_w o0 om ow os og z1 z2 z3 z4 gW gC gV gB) (mp, wa, sl, sg, hp, am, ar, dn, rd)) s.heap.size = A at hD ⊢
  have hA : ∀ q : Nat, s.heap.size ≤ q → A q := fun q h => by rw [← hAe]; exact Or.inr h
  have hS : va_S A s.heap s.heap [] := va_S.rf
  have hl := lv_entry ([.ref o0]) (n := 1) (Nat.le_of_ble_eq_true rfl)
  rw [lg_entry_eq]
  generalize (lg_sl ([.ref o0]) ++ List.replicate (1 - (lg_sl ([.ref o0])).length) Slot.unset).toArray = ls at hl ⊢
  have hP : va_P (dC, dI) vwCl [(o0, .inr (2, [.int (nI gW), .int (nI gC), .int (nI gV), .int (nI gB), .ref om, .ref ow, .ref os, .ref og, .int hp, .int am, .int ar, .int dn, .int rd])), (om, .inl (z1, 24, .inl mp)), (ow, .inl (z2, 24, .inl wa)), (os, .inl (z3, 52, .inl sl)), (og, .inl (z4, 4, .inl sg))] s.heap := hP
  have hD : va_D A [(o0, .inr (2, [.int (nI gW), .int (nI gC), .int (nI gV), .int (nI gB), .ref om, .ref ow, .ref os, .ref og, .int hp, .int am, .int ar, .int dn, .int rd])), (om, .inl (z1, 24, .inl mp)), (ow, .inl (z2, 24, .inl wa)), (os, .inl (z3, 52, .inl sl)), (og, .inl (z4, 4, .inl sg))] := hD
  have hl : lv_has ls 1 [(0, .ref o0)] := hl
  obtain ⟨⟨hW1, hW2⟩, ⟨hC1, hC2⟩, ⟨hV1, hV2⟩, ⟨hB1, hB2⟩⟩ := id hg
  refine lv_aload_n hx hb dX2_recover_0 rfl (lv_at hl 0 rfl) ?_
  refine va_get (D := (dC, dI)) (ci := 2) (v := .int dn) (C := RX2) (T := TX2) (N := 13) hx hb hts inX2 hown hK hP 0 rfl rfl 11 (by decide) (hts _ tb_266) (fun _ h9 => h9) rfl dX2_recover_1 ?_
  refine lv_if_eq (tgt := 50) hx hb dX2_recover_4 (by decide) (fun c_1 => ?_) (fun c_1 => ?_)
  · refine lv_iconst (v := 0) hx hb dX2_recover_50 (by decide) ?_
    exact W.iret (v := 0) hx hb hr (fun t ht hW => ⟨⟨0, (mp, wa, sl, sg, hp, am, ar, dn, rd), rfl, ⟨by unfold m_rec; rw [if_pos c_1], by unfold m_rec; rw [if_pos c_1]⟩, by rw [ht]; exact hP, hD⟩, hS.F ht⟩) hS.2.2 dX2_recover_51
  · refine lv_aload_n hx hb dX2_recover_7 rfl (lv_at hl 0 rfl) ?_
    refine lv_iconst (v := 0) hx hb dX2_recover_8 (by decide) ?_
    refine va_put (D := (dC, dI)) (ci := 2) (v := .int 0) (ty := .boolean) (C := RX2) (T := TX2) (N := 13) hx hb hts inX2 tyX2 okX2 nmX2 hown hK hP hD hS 0 rfl rfl 11 (by decide) (hts _ tb_266) (fun _ h9 => h9) rfl (by decide +kernel) rfl rfl (Nat.le_of_ble_eq_true rfl) dX2_recover_9 (fun H locs hP hD hS => ?_)
    have hP : va_P (dC, dI) vwCl [(o0, .inr (2, [.int (nI gW), .int (nI gC), .int (nI gV), .int (nI gB), .ref om, .ref ow, .ref os, .ref og, .int hp, .int am, .int ar, .int 0, .int rd])), (om, .inl (z1, 24, .inl mp)), (ow, .inl (z2, 24, .inl wa)), (os, .inl (z3, 52, .inl sl)), (og, .inl (z4, 4, .inl sg))] H := hP
    have hD : va_D A [(o0, .inr (2, [.int (nI gW), .int (nI gC), .int (nI gV), .int (nI gB), .ref om, .ref ow, .ref os, .ref og, .int hp, .int am, .int ar, .int 0, .int rd])), (om, .inl (z1, 24, .inl mp)), (ow, .inl (z2, 24, .inl wa)), (os, .inl (z3, 52, .inl sl)), (og, .inl (z4, 4, .inl sg))] := hD
    refine lv_aload_n hx hb dX2_recover_12 rfl (lv_at hl 0 rfl) ?_
    refine xr_v (D := (dC, dI)) (wf := (mo_w o0 om ow os og z1 z2 z3 z4 gW gC gV gB)) (u0 := (mp, wa, sl, sg, hp, am, ar, 0, rd)) (wr := []) (va_runV (As := []) (rest := []) ⟨hx, hb, hml, hown, hts⟩ (k_X2_clearStage l dC dI o0 om ow os og z1 z2 z3 z4 gW gC gV gB hg H.size mp wa sl sg hp am ar 0 rd ) (cwV 0 hts gX2_39 rfl rfl rfl (by decide +kernel) ⟨Nat.le_of_ble_eq_true rfl, Nat.le_of_ble_eq_true rfl⟩) (xp_v nwL_ok hK hN hP hD [0, 1, 2, 3, 4] rfl rfl (va_recv hK hP (ci := 2) (q0 := 0) rfl rfl)) rfl rfl hl.1 rfl (lv_room (Nat.le_of_ble_eq_true rfl)) dX2_recover_13 ⟨Nat.zero_le _, Nat.zero_le _⟩) hP hD hS hA [0, 1, 2, 3, 4] [] rfl rfl (by decide) (by decide) (fun u_3 H locs hw hP hD hS => ?_)
    rw [hw] at hP hD
    have hP : va_P (dC, dI) vwCl [(o0, .inr (2, [.int (nI gW), .int (nI gC), .int (nI gV), .int (nI gB), .ref om, .ref ow, .ref os, .ref og, .int hp, .int am, .int ar, .int 0, .int rd])), (om, .inl (z1, 24, .inl mp)), (ow, .inl (z2, 24, .inl wa)), (os, .inl (z3, 52, .inl sl)), (og, .inl (z4, 4, .inl (fillN sg 4 0)))] H := hP
    have hD : va_D A [(o0, .inr (2, [.int (nI gW), .int (nI gC), .int (nI gV), .int (nI gB), .ref om, .ref ow, .ref os, .ref og, .int hp, .int am, .int ar, .int 0, .int rd])), (om, .inl (z1, 24, .inl mp)), (ow, .inl (z2, 24, .inl wa)), (os, .inl (z3, 52, .inl sl)), (og, .inl (z4, 4, .inl (fillN sg 4 0)))] := hD
    refine lv_aload_n hx hb dX2_recover_16 rfl (lv_at hl 0 rfl) ?_
    refine lv_aload_n hx hb dX2_recover_17 rfl (lv_at hl 0 rfl) ?_
    refine va_get (D := (dC, dI)) (ci := 2) (v := .int rd) (C := RX2) (T := TX2) (N := 13) hx hb hts inX2 hown hK hP 0 rfl rfl 12 (by decide) (hts _ tb_267) (fun _ h9 => h9) rfl dX2_recover_18 ?_
    refine lv_if_le (tgt := 38) hx hb dX2_recover_21 (by decide) (fun c_4 => ?_) (fun c_4 => ?_)
    · refine lv_aload_n hx hb dX2_recover_38 rfl (lv_at hl 0 rfl) ?_
      refine va_get (D := (dC, dI)) (ci := 2) (v := .int hp) (C := RX2) (T := TX2) (N := 13) hx hb hts inX2 hown hK hP 0 rfl rfl 8 (by decide) (hts _ tb_263) (fun _ h9 => h9) rfl dX2_recover_39 ?_
      refine va_put (D := (dC, dI)) (ci := 2) (v := .int hp) (ty := .int) (C := RX2) (T := TX2) (N := 13) hx hb hts inX2 tyX2 okX2 nmX2 hown hK hP hD hS 0 rfl rfl 8 (by decide) (hts _ tb_263) (fun _ h9 => h9) rfl (by decide +kernel) rfl rfl (Nat.le_of_ble_eq_true rfl) dX2_recover_42 (fun H locs hP hD hS => ?_)
      have hP : va_P (dC, dI) vwCl [(o0, .inr (2, [.int (nI gW), .int (nI gC), .int (nI gV), .int (nI gB), .ref om, .ref ow, .ref os, .ref og, .int hp, .int am, .int ar, .int 0, .int rd])), (om, .inl (z1, 24, .inl mp)), (ow, .inl (z2, 24, .inl wa)), (os, .inl (z3, 52, .inl sl)), (og, .inl (z4, 4, .inl (fillN sg 4 0)))] H := hP
      have hD : va_D A [(o0, .inr (2, [.int (nI gW), .int (nI gC), .int (nI gV), .int (nI gB), .ref om, .ref ow, .ref os, .ref og, .int hp, .int am, .int ar, .int 0, .int rd])), (om, .inl (z1, 24, .inl mp)), (ow, .inl (z2, 24, .inl wa)), (os, .inl (z3, 52, .inl sl)), (og, .inl (z4, 4, .inl (fillN sg 4 0)))] := hD
      refine lv_aload_n hx hb dX2_recover_45 rfl (lv_at hl 0 rfl) ?_
      refine lv_iconst (v := 0) hx hb dX2_recover_46 (by decide) ?_
      refine va_put (D := (dC, dI)) (ci := 2) (v := .int 0) (ty := .int) (C := RX2) (T := TX2) (N := 13) hx hb hts inX2 tyX2 okX2 nmX2 hown hK hP hD hS 0 rfl rfl 12 (by decide) (hts _ tb_267) (fun _ h9 => h9) rfl (by decide +kernel) rfl rfl (Nat.le_of_ble_eq_true rfl) dX2_recover_47 (fun H locs hP hD hS => ?_)
      have hP : va_P (dC, dI) vwCl [(o0, .inr (2, [.int (nI gW), .int (nI gC), .int (nI gV), .int (nI gB), .ref om, .ref ow, .ref os, .ref og, .int hp, .int am, .int ar, .int 0, .int 0])), (om, .inl (z1, 24, .inl mp)), (ow, .inl (z2, 24, .inl wa)), (os, .inl (z3, 52, .inl sl)), (og, .inl (z4, 4, .inl (fillN sg 4 0)))] H := hP
      have hD : va_D A [(o0, .inr (2, [.int (nI gW), .int (nI gC), .int (nI gV), .int (nI gB), .ref om, .ref ow, .ref os, .ref og, .int hp, .int am, .int ar, .int 0, .int 0])), (om, .inl (z1, 24, .inl mp)), (ow, .inl (z2, 24, .inl wa)), (os, .inl (z3, 52, .inl sl)), (og, .inl (z4, 4, .inl (fillN sg 4 0)))] := hD
      refine lv_iconst (v := 0) hx hb dX2_recover_50 (by decide) ?_
      exact W.iret (v := 0) hx hb hr (fun t ht hW => ⟨⟨0, (mp, wa, sl, fillN sg 4 0, hp, am, ar, 0, 0), rfl, ⟨by unfold m_rec; rw [if_neg c_1, if_pos c_4], by unfold m_rec; rw [if_neg c_1, if_pos c_4]⟩, by rw [ht]; exact hP, hD⟩, hS.F ht⟩) hS.2.2 dX2_recover_51
    · refine lv_aload_n hx hb dX2_recover_24 rfl (lv_at hl 0 rfl) ?_
      refine va_get (D := (dC, dI)) (ci := 2) (v := .int hp) (C := RX2) (T := TX2) (N := 13) hx hb hts inX2 hown hK hP 0 rfl rfl 8 (by decide) (hts _ tb_263) (fun _ h9 => h9) rfl dX2_recover_25 ?_
      refine lv_aload_n hx hb dX2_recover_28 rfl (lv_at hl 0 rfl) ?_
      refine va_get (D := (dC, dI)) (ci := 2) (v := .int rd) (C := RX2) (T := TX2) (N := 13) hx hb hts inX2 hown hK hP 0 rfl rfl 12 (by decide) (hts _ tb_267) (fun _ h9 => h9) rfl dX2_recover_29 ?_
      refine lv_iadd hx hb dX2_recover_32 ?_
      refine lv_iconst (v := 1) hx hb dX2_recover_33 (by decide) ?_
      refine lv_iadd hx hb dX2_recover_34 ?_
      refine lv_goto (tgt := 42) hx hb dX2_recover_35 (by decide) ?_
      refine va_put (D := (dC, dI)) (ci := 2) (v := .int (hp + rd + 1)) (ty := .int) (C := RX2) (T := TX2) (N := 13) hx hb hts inX2 tyX2 okX2 nmX2 hown hK hP hD hS 0 rfl rfl 8 (by decide) (hts _ tb_263) (fun _ h9 => h9) rfl (by decide +kernel) rfl rfl (Nat.le_of_ble_eq_true rfl) dX2_recover_42 (fun H locs hP hD hS => ?_)
      have hP : va_P (dC, dI) vwCl [(o0, .inr (2, [.int (nI gW), .int (nI gC), .int (nI gV), .int (nI gB), .ref om, .ref ow, .ref os, .ref og, .int (hp + rd + 1), .int am, .int ar, .int 0, .int rd])), (om, .inl (z1, 24, .inl mp)), (ow, .inl (z2, 24, .inl wa)), (os, .inl (z3, 52, .inl sl)), (og, .inl (z4, 4, .inl (fillN sg 4 0)))] H := hP
      have hD : va_D A [(o0, .inr (2, [.int (nI gW), .int (nI gC), .int (nI gV), .int (nI gB), .ref om, .ref ow, .ref os, .ref og, .int (hp + rd + 1), .int am, .int ar, .int 0, .int rd])), (om, .inl (z1, 24, .inl mp)), (ow, .inl (z2, 24, .inl wa)), (os, .inl (z3, 52, .inl sl)), (og, .inl (z4, 4, .inl (fillN sg 4 0)))] := hD
      refine lv_aload_n hx hb dX2_recover_45 rfl (lv_at hl 0 rfl) ?_
      refine lv_iconst (v := 0) hx hb dX2_recover_46 (by decide) ?_
      refine va_put (D := (dC, dI)) (ci := 2) (v := .int 0) (ty := .int) (C := RX2) (T := TX2) (N := 13) hx hb hts inX2 tyX2 okX2 nmX2 hown hK hP hD hS 0 rfl rfl 12 (by decide) (hts _ tb_267) (fun _ h9 => h9) rfl (by decide +kernel) rfl rfl (Nat.le_of_ble_eq_true rfl) dX2_recover_47 (fun H locs hP hD hS => ?_)
      have hP : va_P (dC, dI) vwCl [(o0, .inr (2, [.int (nI gW), .int (nI gC), .int (nI gV), .int (nI gB), .ref om, .ref ow, .ref os, .ref og, .int (hp + rd + 1), .int am, .int ar, .int 0, .int 0])), (om, .inl (z1, 24, .inl mp)), (ow, .inl (z2, 24, .inl wa)), (os, .inl (z3, 52, .inl sl)), (og, .inl (z4, 4, .inl (fillN sg 4 0)))] H := hP
      have hD : va_D A [(o0, .inr (2, [.int (nI gW), .int (nI gC), .int (nI gV), .int (nI gB), .ref om, .ref ow, .ref os, .ref og, .int (hp + rd + 1), .int am, .int ar, .int 0, .int 0])), (om, .inl (z1, 24, .inl mp)), (ow, .inl (z2, 24, .inl wa)), (os, .inl (z3, 52, .inl sl)), (og, .inl (z4, 4, .inl (fillN sg 4 0)))] := hD
      refine lv_iconst (v := 0) hx hb dX2_recover_50 (by decide) ?_
      exact W.iret (v := 0) hx hb hr (fun t ht hW => ⟨⟨0, (mp, wa, sl, fillN sg 4 0, hp + rd + 1, am, ar, 0, 0), rfl, ⟨by unfold m_rec; rw [if_neg c_1, if_neg c_4], by unfold m_rec; rw [if_neg c_1, if_neg c_4]⟩, by rw [ht]; exact hP, hD⟩, hS.F ht⟩) hS.2.2 dX2_recover_51
