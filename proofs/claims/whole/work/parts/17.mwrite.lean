set_option maxHeartbeats 4000000 in
set_option maxRecDepth 100000 in
theorem lp_X2_writeBlock_132 {p : Program} {l : Launch} {e : Env} {s : State} {m : MethodId} {args : Array Value} {below : List Frame} {meth : Method} {c : Code} {Q : State → Prop} {A : Nat → Prop} {dC : Nat → ClassId} {dI : Nat → Nat → Nat} (o0 om ow os og : Nat) (z1 z2 z3 z4 : ClassId) (gW gC gV gB : Nat) (hg : mge gW gC gV gB) (mp wa sl sg : Nat → Int32) (hp am ar dn rd : Int32) (v b k q : Nat) (hk : k ≤ 12) (hq : q ≤ gW) (hx : p.tables.exec = Jvm.exec) (hb : c.code = cX2_writeBlock) (hml : c.maxLocals = 8) (hown : s.vm.findClass RX2 = some m.cls) (hts : ∀ w ∈ TBG, w.before args s = true) (hK : va_K (dC, dI) vwCl [(z1, .int), (z2, .int), (z3, .int), (z4, .int)] s) (hN : nwOk nwL s) (hA : ∀ q : Nat, s.heap.size ≤ q → A q)  (K : ∀  (H : Heap) (locs : List Loc) (ls : Array Slot), va_P (dC, dI) vwCl (mo_w o0 om ow os og z1 z2 z3 z4 gW gC gV gB (mp, wa, wrtN sl sg (4 * k) q, sg, hp, am, ar, dn, rd)) H → va_D A (mo_w o0 om ow os og z1 z2 z3 z4 gW gC gV gB (mp, wa, wrtN sl sg (4 * k) q, sg, hp, am, ar, dn, rd)) → va_S A s.heap H locs → lv_has ls 8 [(0, .ref o0), (3, .int (nI (6 * v + b))), (4, .int (nI k))] → W p l e ({ frames := 2, cells := 0, slots := 0, locals := 45 } : Room) s m args below meth c H locs 0 0 Q (F0 m 164 ls [])) : ∀ (n : Nat) (i : Nat) (H : Heap) (locs : List Loc) (ls : Array Slot), q - i < n → (i ≤ q) → va_P (dC, dI) vwCl (mo_w o0 om ow os og z1 z2 z3 z4 gW gC gV gB (mp, wa, wrtN sl sg (4 * k) i, sg, hp, am, ar, dn, rd)) H → va_D A (mo_w o0 om ow os og z1 z2 z3 z4 gW gC gV gB (mp, wa, wrtN sl sg (4 * k) i, sg, hp, am, ar, dn, rd)) → va_S A s.heap H locs → lv_has ls 8 [(0, .ref o0), (3, .int (nI (6 * v + b))), (4, .int (nI k)), (6, .int (nI q)), (7, .int (nI i))] → W p l e ({ frames := 2, cells := 0, slots := 0, locals := 45 } : Room) s m args below meth c H locs 0 0 Q (F0 m 132 ls []) := by
  obtain ⟨⟨hW1, hW2⟩, ⟨hC1, hC2⟩, ⟨hV1, hV2⟩, ⟨hB1, hB2⟩⟩ := id hg
  intro n
  induction n with
  | zero => intro i H locs ls hfu; exact absurd hfu (by omega)
  | succ n ih =>
    intro i H locs ls hfu hi hP hD hS hl
    have hP : va_P (dC, dI) vwCl [(o0, .inr (2, [.int (nI gW), .int (nI gC), .int (nI gV), .int (nI gB), .ref om, .ref ow, .ref os, .ref og, .int hp, .int am, .int ar, .int dn, .int rd])), (om, .inl (z1, 24, .inl mp)), (ow, .inl (z2, 24, .inl wa)), (os, .inl (z3, 52, .inl (wrtN sl sg (4 * k) i))), (og, .inl (z4, 4, .inl sg))] H := hP
    have hD : va_D A [(o0, .inr (2, [.int (nI gW), .int (nI gC), .int (nI gV), .int (nI gB), .ref om, .ref ow, .ref os, .ref og, .int hp, .int am, .int ar, .int dn, .int rd])), (om, .inl (z1, 24, .inl mp)), (ow, .inl (z2, 24, .inl wa)), (os, .inl (z3, 52, .inl (wrtN sl sg (4 * k) i))), (og, .inl (z4, 4, .inl sg))] := hD
    refine lv_iload hx hb dX2_writeBlock_132 (lv_at hl 4 rfl) ?_
    refine lv_iload hx hb dX2_writeBlock_134 (lv_at hl 3 rfl) ?_
    refine lv_icmp_ge (tgt := 164) hx hb dX2_writeBlock_136 (by decide) (fun c_1 => ?_) (fun c_1 => ?_)
    · have c_1 : q ≤ i := (nI_leI (a := q) (b := i) (by omega) (by omega)).mp c_1
      have hie : i = q := by omega
      rw [hie] at hP hD
      exact K  _ _ _  hP hD hS (lv_sub hl [0, 1, 2] rfl)
    · have c_1 : ¬ (q ≤ i) := fun q9 => c_1 ((nI_leI (a := q) (b := i) (by omega) (by omega)).mpr q9)
      refine lv_aload_n hx hb dX2_writeBlock_139 rfl (lv_at hl 0 rfl) ?_
      refine va_get (D := (dC, dI)) (ci := 2) (v := .ref os) (C := RX2) (T := TX2) (N := 13) hx hb hts inX2 hown hK hP 0 rfl rfl 6 (by decide) (hts _ tb_261) (fun _ h9 => h9) rfl dX2_writeBlock_140 ?_
      refine lv_iconst (v := 4) hx hb dX2_writeBlock_143 (by decide) ?_
      refine lv_iload hx hb dX2_writeBlock_144 (lv_at hl 2 rfl) ?_
      refine lv_imul hx hb dX2_writeBlock_146 ?_
      refine lv_topi (fun z_2 ez_2 => ?_)
      obtain rfl : z_2 = nI (4 * k) := ez_2.trans (pk_mul 4 k)
      refine lv_iload hx hb dX2_writeBlock_147 (lv_at hl 4 rfl) ?_
      refine lv_iadd hx hb dX2_writeBlock_149 ?_
      refine lv_topi (fun z_3 ez_3 => ?_)
      obtain rfl : z_3 = nI (4 * k + i) := ez_3.trans (nI_add (4 * k) i)
      refine lv_aload_n hx hb dX2_writeBlock_150 rfl (lv_at hl 0 rfl) ?_
      refine va_get (D := (dC, dI)) (ci := 2) (v := .ref og) (C := RX2) (T := TX2) (N := 13) hx hb hts inX2 hown hK hP 0 rfl rfl 7 (by decide) (hts _ tb_262) (fun _ h9 => h9) rfl dX2_writeBlock_151 ?_
      refine lv_iload hx hb dX2_writeBlock_154 (lv_at hl 4 rfl) ?_
      refine va_iald hx hb hK hP 4 3 rfl rfl (vp_in_nI (n := i) (by omega) (by omega)) dX2_writeBlock_156 ?_
      refine lv_topi (fun z_4 ez_4 => ?_)
      obtain rfl : z_4 = sg i := ez_4.trans (by rw [nI_clamp (n := i) (by omega)])
      refine va_iast hx hb hK hP hD hS 3 2 rfl rfl (vp_in_nI (n := 4 * k + i) (by omega) (by omega)) dX2_writeBlock_157 (fun H locs hP hD hS => ?_)
      have hP : va_P (dC, dI) vwCl [(o0, .inr (2, [.int (nI gW), .int (nI gC), .int (nI gV), .int (nI gB), .ref om, .ref ow, .ref os, .ref og, .int hp, .int am, .int ar, .int dn, .int rd])), (om, .inl (z1, 24, .inl mp)), (ow, .inl (z2, 24, .inl wa)), (os, .inl (z3, 52, .inl (upd (wrtN sl sg (4 * k) i) (nI (4 * k + i)).toNatClampNeg (sg i)))), (og, .inl (z4, 4, .inl sg))] H := hP
      have hD : va_D A [(o0, .inr (2, [.int (nI gW), .int (nI gC), .int (nI gV), .int (nI gB), .ref om, .ref ow, .ref os, .ref og, .int hp, .int am, .int ar, .int dn, .int rd])), (om, .inl (z1, 24, .inl mp)), (ow, .inl (z2, 24, .inl wa)), (os, .inl (z3, 52, .inl (upd (wrtN sl sg (4 * k) i) (nI (4 * k + i)).toNatClampNeg (sg i)))), (og, .inl (z4, 4, .inl sg))] := hD
      rw [nI_clamp (n := 4 * k + i) (by omega)] at hP hD
      refine lv_iinc (v := nI (i + 1)) (lv' := [(7, .int (nI (i + 1))), (0, .ref o0), (3, .int (nI (6 * v + b))), (4, .int (nI k)), (6, .int (nI q))]) hx hb dX2_writeBlock_158 hl (k := 4) rfl (nI_1 i) (by decide) rfl (fun ls hl => ?_)
      have e9 : upd (wrtN sl sg (4 * k) i) (4 * k + i) (sg i) = wrtN sl sg (4 * k) (i + 1) := rfl
      rw [e9] at hP hD
      refine lv_goto (tgt := 132) hx hb dX2_writeBlock_161 (by decide) ?_
      exact ih (i + 1) _ _ _ (by omega) (by omega) hP hD hS (lv_sub hl [1, 2, 3, 4, 0] rfl)
set_option maxHeartbeats 4000000 in
set_option maxRecDepth 100000 in
theorem k_X2_writeBlock (l : Launch) (dC : Nat → ClassId) (dI : Nat → Nat → Nat) (o0 om ow os og : Nat) (z1 z2 z3 z4 : ClassId) (gW gC gV gB : Nat) (hg : mge gW gC gV gB) (sz : Nat) (mp wa sl sg : Nat → Int32) (hp am ar dn rd : Int32) (hlow : dn = 0 → ∃ N, N ≤ 12 ∧ usd mp 0 24 (nI N) = 0) (a : Nat) (ha : a < 2 ^ 31) (ea : am = nI a) (vol lb : Int32) : ctI nwL l yX2_writeBlock wsX2_writeBlock ({ frames := 2, cells := 0, slots := 0, locals := 45 } : Room) (dC, dI) [(z1, .int), (z2, .int), (z3, .int), (z4, .int)] (mo_w o0 om ow os og z1 z2 z3 z4 gW gC gV gB) (mp, wa, sl, sg, hp, am, ar, dn, rd) sz [.ref o0, .int vol, .int lb] (fun (r : Int32) (u : MS) => m_wb mp wa sl sg hp am ar dn rd gW gC gV gB vol lb r u) := by
  refine Met.ofW (cc := cX2_writeBlock) (maxL := 8) (ret := (some .int)) (by decide) rfl ?_
  intro p e s m args below meth c s₁ B hml hv
  obtain ⟨rfl, hsz, hP, hK, hD0, hN⟩ := hv
  have hx := B.exec
  have hb := B.bytes
  have hr := B.returns
  have hts := fun w h => atoms_spec (ws := wsX2_writeBlock) B.pre w (List.mem_cons_of_mem _ h)
  have hown : s.vm.findClass RX2 = some m.cls := findClass_of_methodNamed B.named
  have hlocks := B.notSynchronized
  subst hsz
  have hD := hD0.self (sz := s.heap.size)
  generalize hAe : va_A ((mo_w o0 om ow os og z1 z2 z3 z4 gW gC gV gB) (mp, wa, sl, sg, hp, am, ar, dn, rd)) s.heap.size = A at hD ⊢
  have hA : ∀ q : Nat, s.heap.size ≤ q → A q := fun q h => by rw [← hAe]; exact Or.inr h
  have hS : va_S A s.heap s.heap [] := va_S.rf
  have hl := lv_entry ([.ref o0, .int vol, .int lb]) (n := 8) (Nat.le_of_ble_eq_true rfl)
  rw [lg_entry_eq]
  generalize (lg_sl ([.ref o0, .int vol, .int lb]) ++ List.replicate (8 - (lg_sl ([.ref o0, .int vol, .int lb])).length) Slot.unset).toArray = ls at hl ⊢
  have hP : va_P (dC, dI) vwCl [(o0, .inr (2, [.int (nI gW), .int (nI gC), .int (nI gV), .int (nI gB), .ref om, .ref ow, .ref os, .ref og, .int hp, .int am, .int ar, .int dn, .int rd])), (om, .inl (z1, 24, .inl mp)), (ow, .inl (z2, 24, .inl wa)), (os, .inl (z3, 52, .inl sl)), (og, .inl (z4, 4, .inl sg))] s.heap := hP
  have hD : va_D A [(o0, .inr (2, [.int (nI gW), .int (nI gC), .int (nI gV), .int (nI gB), .ref om, .ref ow, .ref os, .ref og, .int hp, .int am, .int ar, .int dn, .int rd])), (om, .inl (z1, 24, .inl mp)), (ow, .inl (z2, 24, .inl wa)), (os, .inl (z3, 52, .inl sl)), (og, .inl (z4, 4, .inl sg))] := hD
  have hl : lv_has ls 8 [(0, .ref o0), (1, .int vol), (2, .int lb)] := hl
  obtain ⟨⟨hW1, hW2⟩, ⟨hC1, hC2⟩, ⟨hV1, hV2⟩, ⟨hB1, hB2⟩⟩ := id hg
  have hul := usN_le mp 0 24 (gC + 1)
  refine lv_aload_n hx hb dX2_writeBlock_0 rfl (lv_at hl 0 rfl) ?_
  refine va_get (D := (dC, dI)) (ci := 2) (v := .int dn) (C := RX2) (T := TX2) (N := 13) hx hb hts inX2 hown hK hP 0 rfl rfl 11 (by decide) (hts _ tb_266) (fun _ h9 => h9) rfl dX2_writeBlock_1 ?_
  refine lv_if_eq (tgt := 10) hx hb dX2_writeBlock_4 (by decide) (fun c_1 => ?_) (fun c_1 => ?_)
  · refine lv_aload_n hx hb dX2_writeBlock_10 rfl (lv_at hl 0 rfl) ?_
    refine lv_iload_n hx hb dX2_writeBlock_11 rfl (lv_at hl 1 rfl) ?_
    refine lv_iload_n hx hb dX2_writeBlock_12 rfl (lv_at hl 2 rfl) ?_
    refine xr_i (D := (dC, dI)) (wf := (mo_w o0 om ow os og z1 z2 z3 z4 gW gC gV gB)) (u0 := (mp, wa, sl, sg, hp, am, ar, dn, rd)) (wr := []) (va_runV (As := [.int vol, .int lb]) (rest := []) ⟨hx, hb, hml, hown, hts⟩ (k_X2_block l dC dI o0 om ow os og z1 z2 z3 z4 gW gC gV gB hg s.heap.size mp wa sl sg hp am ar dn rd vol lb) (cwV 2 hts gX2_72 rfl rfl rfl (by decide +kernel) ⟨Nat.le_of_ble_eq_true rfl, Nat.le_of_ble_eq_true rfl⟩) (xp_v nwL_ok hK hN hP hD [0, 1, 2, 3, 4] rfl rfl (va_recv hK hP (ci := 2) (q0 := 0) rfl rfl)) rfl rfl hl.1 rfl (lv_room (Nat.le_of_ble_eq_true rfl)) dX2_writeBlock_13 ⟨Nat.zero_le _, Nat.zero_le _⟩) hP hD hS hA [0, 1, 2, 3, 4] [] rfl rfl (by decide) (by decide) (fun r_2 u_3 H locs hw hP hD hS => ?_)
    obtain ⟨er_2, eu_3⟩ := hw
    rw [eu_3] at hP hD
    rw [er_2]
    have hP : va_P (dC, dI) vwCl [(o0, .inr (2, [.int (nI gW), .int (nI gC), .int (nI gV), .int (nI gB), .ref om, .ref ow, .ref os, .ref og, .int hp, .int am, .int ar, .int dn, .int rd])), (om, .inl (z1, 24, .inl mp)), (ow, .inl (z2, 24, .inl wa)), (os, .inl (z3, 52, .inl sl)), (og, .inl (z4, 4, .inl sg))] H := hP
    have hD : va_D A [(o0, .inr (2, [.int (nI gW), .int (nI gC), .int (nI gV), .int (nI gB), .ref om, .ref ow, .ref os, .ref og, .int hp, .int am, .int ar, .int dn, .int rd])), (om, .inl (z1, 24, .inl mp)), (ow, .inl (z2, 24, .inl wa)), (os, .inl (z3, 52, .inl sl)), (og, .inl (z4, 4, .inl sg))] := hD
    refine lv_if_ne (tgt := 21) hx hb dX2_writeBlock_16 (by decide) (fun c_4 => ?_) (fun c_4 => ?_)
    · obtain ⟨v, b, hv, hb9, ev, eb⟩ := inB_nz (by omega) (by omega) c_4
      have hl : lv_has ls 8 [(0, .ref o0), (1, .int (nI v)), (2, .int lb)] := by have q9 := hl; rw [ev] at q9; exact q9
      have hl : lv_has ls 8 [(0, .ref o0), (1, .int (nI v)), (2, .int (nI b))] := by have q9 := hl; rw [eb] at q9; exact q9
      have hcl := cntC_le mp 0 (mp (6 * v + b) - 1 + 1) 24
      refine lv_bipush (v := 6) hx hb dX2_writeBlock_21 (by decide) ?_
      refine lv_iload_n hx hb dX2_writeBlock_23 rfl (lv_at hl 1 rfl) ?_
      refine lv_imul hx hb dX2_writeBlock_24 ?_
      refine lv_topi (fun z_5 ez_5 => ?_)
      obtain rfl : z_5 = nI (6 * v) := ez_5.trans (pk_mul 6 v)
      refine lv_iload_n hx hb dX2_writeBlock_25 rfl (lv_at hl 2 rfl) ?_
      refine lv_iadd hx hb dX2_writeBlock_26 ?_
      refine lv_topi (fun z_6 ez_6 => ?_)
      obtain rfl : z_6 = nI (6 * v + b) := ez_6.trans (nI_add (6 * v) b)
      refine lv_istore_n (lv' := [(3, .int (nI (6 * v + b))), (0, .ref o0), (1, .int (nI v)), (2, .int (nI b))]) hx hb dX2_writeBlock_27 rfl hl (by decide) rfl (fun ls hl => ?_)
      refine lv_aload_n hx hb dX2_writeBlock_28 rfl (lv_at hl 1 rfl) ?_
      refine xr_i (D := (dC, dI)) (wf := (mo_w o0 om ow os og z1 z2 z3 z4 gW gC gV gB)) (u0 := (mp, wa, sl, sg, hp, am, ar, dn, rd)) (wr := []) (va_runV (As := []) (rest := []) ⟨hx, hb, hml, hown, hts⟩ (k_X2_sharing l dC dI o0 om ow os og z1 z2 z3 z4 gW gC gV gB hg H.size mp wa sl sg hp am ar dn rd ) (cwV 0 hts gX2_76 rfl rfl rfl (by decide +kernel) ⟨Nat.le_of_ble_eq_true rfl, Nat.le_of_ble_eq_true rfl⟩) (xp_v nwL_ok hK hN hP hD [0, 1, 2, 3, 4] rfl rfl (va_recv hK hP (ci := 2) (q0 := 0) rfl rfl)) rfl rfl hl.1 rfl (lv_room (Nat.le_of_ble_eq_true rfl)) dX2_writeBlock_29 ⟨Nat.zero_le _, Nat.zero_le _⟩) hP hD hS hA [0, 1, 2, 3, 4] [] rfl rfl (by decide) (by decide) (fun r_7 u_8 H locs hw hP hD hS => ?_)
      obtain ⟨er_7, eu_8⟩ := hw
      rw [eu_8] at hP hD
      rw [er_7]
      have hP : va_P (dC, dI) vwCl [(o0, .inr (2, [.int (nI gW), .int (nI gC), .int (nI gV), .int (nI gB), .ref om, .ref ow, .ref os, .ref og, .int hp, .int am, .int ar, .int dn, .int rd])), (om, .inl (z1, 24, .inl mp)), (ow, .inl (z2, 24, .inl wa)), (os, .inl (z3, 52, .inl sl)), (og, .inl (z4, 4, .inl sg))] H := hP
      have hD : va_D A [(o0, .inr (2, [.int (nI gW), .int (nI gC), .int (nI gV), .int (nI gB), .ref om, .ref ow, .ref os, .ref og, .int hp, .int am, .int ar, .int dn, .int rd])), (om, .inl (z1, 24, .inl mp)), (ow, .inl (z2, 24, .inl wa)), (os, .inl (z3, 52, .inl sl)), (og, .inl (z4, 4, .inl sg))] := hD
      rcases shrN_or mp sl sg gW (gC + 1) with es | ⟨i, hi, es⟩
      · rw [es]
        refine lv_istore (lv' := [(4, .int (-1)), (3, .int (nI (6 * v + b))), (0, .ref o0), (1, .int (nI v)), (2, .int (nI b))]) hx hb dX2_writeBlock_32 hl (by decide) rfl (fun ls hl => ?_)
        refine lv_iload hx hb dX2_writeBlock_34 (lv_at hl 0 rfl) ?_
        refine lv_if_lt (tgt := 54) hx hb dX2_writeBlock_36 (by decide) (fun c_9 => ?_) (fun c_9 => ?_)
        · refine lv_iload hx hb dX2_writeBlock_54 (lv_at hl 0 rfl) ?_
          refine lv_if_ge (tgt := 174) hx hb dX2_writeBlock_56 (by decide) (fun c_10 => ?_) (fun c_10 => ?_)
          · exact absurd c_10 (by decide)
          · refine lv_aload_n hx hb dX2_writeBlock_59 rfl (lv_at hl 2 rfl) ?_
            refine va_get (D := (dC, dI)) (ci := 2) (v := .ref om) (C := RX2) (T := TX2) (N := 13) hx hb hts inX2 hown hK hP 0 rfl rfl 4 (by decide) (hts _ tb_259) (fun _ h9 => h9) rfl dX2_writeBlock_60 ?_
            refine lv_iload_n hx hb dX2_writeBlock_63 rfl (lv_at hl 1 rfl) ?_
            refine va_iald hx hb hK hP 1 0 rfl rfl (vp_in_nI (n := 6 * v + b) (by omega) (by omega)) dX2_writeBlock_64 ?_
            refine lv_topi (fun z_11 ez_11 => ?_)
            obtain rfl : z_11 = mp (6 * v + b) := ez_11.trans (by rw [nI_clamp (n := 6 * v + b) (by omega)])
            refine lv_if_le (tgt := 93) hx hb dX2_writeBlock_65 (by decide) (fun c_12 => ?_) (fun c_12 => ?_)
            · refine lv_aload_n hx hb dX2_writeBlock_93 rfl (lv_at hl 2 rfl) ?_
              refine xr_i (D := (dC, dI)) (wf := (mo_w o0 om ow os og z1 z2 z3 z4 gW gC gV gB)) (u0 := (mp, wa, sl, sg, hp, am, ar, dn, rd)) (wr := []) (va_runV (As := []) (rest := []) ⟨hx, hb, hml, hown, hts⟩ (k_X2_used l dC dI o0 om ow os og z1 z2 z3 z4 gW gC gV gB hg H.size mp wa sl sg hp am ar dn rd ) (cwV 0 hts gX2_80 rfl rfl rfl (by decide +kernel) ⟨Nat.le_of_ble_eq_true rfl, Nat.le_of_ble_eq_true rfl⟩) (xp_v nwL_ok hK hN hP hD [0, 1, 2, 3, 4] rfl rfl (va_recv hK hP (ci := 2) (q0 := 0) rfl rfl)) rfl rfl hl.1 rfl (lv_room (Nat.le_of_ble_eq_true rfl)) dX2_writeBlock_94 ⟨Nat.zero_le _, Nat.zero_le _⟩) hP hD hS hA [0, 1, 2, 3, 4] [] rfl rfl (by decide) (by decide) (fun r_13 u_14 H locs hw hP hD hS => ?_)
              obtain ⟨er_13, eu_14⟩ := hw
              rw [eu_14] at hP hD
              rw [er_13]
              have hP : va_P (dC, dI) vwCl [(o0, .inr (2, [.int (nI gW), .int (nI gC), .int (nI gV), .int (nI gB), .ref om, .ref ow, .ref os, .ref og, .int hp, .int am, .int ar, .int dn, .int rd])), (om, .inl (z1, 24, .inl mp)), (ow, .inl (z2, 24, .inl wa)), (os, .inl (z3, 52, .inl sl)), (og, .inl (z4, 4, .inl sg))] H := hP
              have hD : va_D A [(o0, .inr (2, [.int (nI gW), .int (nI gC), .int (nI gV), .int (nI gB), .ref om, .ref ow, .ref os, .ref og, .int hp, .int am, .int ar, .int dn, .int rd])), (om, .inl (z1, 24, .inl mp)), (ow, .inl (z2, 24, .inl wa)), (os, .inl (z3, 52, .inl sl)), (og, .inl (z4, 4, .inl sg))] := hD
              refine lv_istore (lv' := [(5, .int (nI (usN mp 0 24 (gC + 1)))), (4, .int (-1)), (3, .int (nI (6 * v + b))), (0, .ref o0), (1, .int (nI v)), (2, .int (nI b))]) hx hb dX2_writeBlock_97 hl (by decide) rfl (fun ls hl => ?_)
              refine lv_iload hx hb dX2_writeBlock_99 (lv_at hl 0 rfl) ?_
              refine lv_iconst (v := 1) hx hb dX2_writeBlock_101 (by decide) ?_
              refine lv_iadd hx hb dX2_writeBlock_102 ?_
              refine lv_topi (fun z_15 ez_15 => ?_)
              obtain rfl : z_15 = nI (usN mp 0 24 (gC + 1) + 1) := ez_15.trans (nI_1 (usN mp 0 24 (gC + 1)))
              refine lv_aload_n hx hb dX2_writeBlock_103 rfl (lv_at hl 3 rfl) ?_
              refine va_get (D := (dC, dI)) (ci := 2) (v := .int (nI gC)) (C := RX2) (T := TX2) (N := 13) hx hb hts inX2 hown hK hP 0 rfl rfl 1 (by decide) (hts _ tb_256) (fun _ h9 => h9) rfl dX2_writeBlock_104 ?_
              refine lv_icmp_le (tgt := 113) hx hb dX2_writeBlock_107 (by decide) (fun c_16 => ?_) (fun c_16 => ?_)
              · have c_16 : usN mp 0 24 (gC + 1) + 1 ≤ gC := (nI_leI (a := usN mp 0 24 (gC + 1) + 1) (b := gC) (by omega) (by omega)).mp c_16
                refine lv_aload_n hx hb dX2_writeBlock_113 rfl (lv_at hl 3 rfl) ?_
                obtain ⟨N, hN9, hlo⟩ := hlow c_1
                refine xr_i (D := (dC, dI)) (wf := (mo_w o0 om ow os og z1 z2 z3 z4 gW gC gV gB)) (u0 := (mp, wa, sl, sg, hp, am, ar, dn, rd)) (wr := []) (va_runV (As := []) (rest := []) ⟨hx, hb, hml, hown, hts⟩ (k_X2_lowestUnused l dC dI o0 om ow os og z1 z2 z3 z4 gW gC gV gB hg H.size mp wa sl sg hp am ar dn rd N (by omega) hlo) (cwV 0 hts gX2_83 rfl rfl rfl (by decide +kernel) ⟨Nat.le_of_ble_eq_true rfl, Nat.le_of_ble_eq_true rfl⟩) (xp_v nwL_ok hK hN hP hD [0, 1, 2, 3, 4] rfl rfl (va_recv hK hP (ci := 2) (q0 := 0) rfl rfl)) rfl rfl hl.1 rfl (lv_room (Nat.le_of_ble_eq_true rfl)) dX2_writeBlock_114 ⟨Nat.zero_le _, Nat.zero_le _⟩) hP hD hS hA [0, 1, 2, 3, 4] [] rfl rfl (by decide) (by decide) (fun r_17 u_18 H locs hw hP hD hS => ?_)
                obtain ⟨⟨k, er_17, hkN, hkj, hku⟩, eu_18⟩ := hw
                rw [eu_18] at hP hD
                rw [er_17]
                have hP : va_P (dC, dI) vwCl [(o0, .inr (2, [.int (nI gW), .int (nI gC), .int (nI gV), .int (nI gB), .ref om, .ref ow, .ref os, .ref og, .int hp, .int am, .int ar, .int dn, .int rd])), (om, .inl (z1, 24, .inl mp)), (ow, .inl (z2, 24, .inl wa)), (os, .inl (z3, 52, .inl sl)), (og, .inl (z4, 4, .inl sg))] H := hP
                have hD : va_D A [(o0, .inr (2, [.int (nI gW), .int (nI gC), .int (nI gV), .int (nI gB), .ref om, .ref ow, .ref os, .ref og, .int hp, .int am, .int ar, .int dn, .int rd])), (om, .inl (z1, 24, .inl mp)), (ow, .inl (z2, 24, .inl wa)), (os, .inl (z3, 52, .inl sl)), (og, .inl (z4, 4, .inl sg))] := hD
                refine lv_istore (lv' := [(4, .int (nI k)), (5, .int (nI (usN mp 0 24 (gC + 1)))), (3, .int (nI (6 * v + b))), (0, .ref o0), (1, .int (nI v)), (2, .int (nI b))]) hx hb dX2_writeBlock_117 hl (by decide) rfl (fun ls hl => ?_)
                refine lv_aload_n hx hb dX2_writeBlock_119 rfl (lv_at hl 3 rfl) ?_
                refine lv_aload_n hx hb dX2_writeBlock_120 rfl (lv_at hl 3 rfl) ?_
                refine va_get (D := (dC, dI)) (ci := 2) (v := .int (nI gW)) (C := RX2) (T := TX2) (N := 13) hx hb hts inX2 hown hK hP 0 rfl rfl 0 (by decide) (hts _ tb_255) (fun _ h9 => h9) rfl dX2_writeBlock_121 ?_
                refine xr_i (D := (dC, dI)) (wf := (mo_w o0 om ow os og z1 z2 z3 z4 gW gC gV gB)) (u0 := (mp, wa, sl, sg, hp, am, ar, dn, rd)) (wr := []) (va_runV (As := [.int (nI gW)]) (rest := []) ⟨hx, hb, hml, hown, hts⟩ (k_X2_spend l dC dI o0 om ow os og z1 z2 z3 z4 gW gC gV gB hg H.size mp wa sl sg hp am ar dn rd (nI gW)) (cwV 1 hts gX2_55 rfl rfl rfl (by decide +kernel) ⟨Nat.le_of_ble_eq_true rfl, Nat.le_of_ble_eq_true rfl⟩) (xp_v nwL_ok hK hN hP hD [0, 1, 2, 3, 4] rfl rfl (va_recv hK hP (ci := 2) (q0 := 0) rfl rfl)) rfl rfl hl.1 rfl (lv_room (Nat.le_of_ble_eq_true rfl)) dX2_writeBlock_124 ⟨Nat.zero_le _, Nat.zero_le _⟩) hP hD hS hA [0, 1, 2, 3, 4] [] rfl rfl (by decide) (by decide) (fun r_19 u_20 H locs hw hP hD hS => ?_)
                obtain ⟨er_19, hw⟩ := hw
                rw [er_19]
                rw [hw] at hP hD
                have hP : va_P (dC, dI) vwCl [(o0, .inr (2, [.int (nI gW), .int (nI gC), .int (nI gV), .int (nI gB), .ref om, .ref ow, .ref os, .ref og, .int (hp + m_many am (nI gW)), .int (m_left am (nI gW)), .int ar, .int (m_dn am (nI gW) dn), .int rd])), (om, .inl (z1, 24, .inl mp)), (ow, .inl (z2, 24, .inl wa)), (os, .inl (z3, 52, .inl sl)), (og, .inl (z4, 4, .inl sg))] H := hP
                have hD : va_D A [(o0, .inr (2, [.int (nI gW), .int (nI gC), .int (nI gV), .int (nI gB), .ref om, .ref ow, .ref os, .ref og, .int (hp + m_many am (nI gW)), .int (m_left am (nI gW)), .int ar, .int (m_dn am (nI gW) dn), .int rd])), (om, .inl (z1, 24, .inl mp)), (ow, .inl (z2, 24, .inl wa)), (os, .inl (z3, 52, .inl sl)), (og, .inl (z4, 4, .inl sg))] := hD
                obtain ⟨q, hq, eq9⟩ : ∃ q, q ≤ gW ∧ m_many am (nI gW) = nI q := m_many_nat ha ea (by omega)
                refine lv_topi (fun z_21 ez_21 => ?_)
                obtain rfl : z_21 = nI q := ez_21.trans (eq9)
                refine lv_istore (lv' := [(6, .int (nI q)), (4, .int (nI k)), (5, .int (nI (usN mp 0 24 (gC + 1)))), (3, .int (nI (6 * v + b))), (0, .ref o0), (1, .int (nI v)), (2, .int (nI b))]) hx hb dX2_writeBlock_127 hl (by decide) rfl (fun ls hl => ?_)
                refine lv_iconst (v := 0) hx hb dX2_writeBlock_129 (by decide) ?_
                refine lv_istore (lv' := [(7, .int 0), (6, .int (nI q)), (4, .int (nI k)), (5, .int (nI (usN mp 0 24 (gC + 1)))), (3, .int (nI (6 * v + b))), (0, .ref o0), (1, .int (nI v)), (2, .int (nI b))]) hx hb dX2_writeBlock_130 hl (by decide) rfl (fun ls hl => ?_)
                have hl : lv_has ls 8 [(7, .int (nI 0)), (6, .int (nI q)), (4, .int (nI k)), (3, .int (nI (6 * v + b))), (0, .ref o0)] := lv_sub hl [0, 1, 2, 4, 5] rfl
                refine lp_X2_writeBlock_132 o0 om ow os og z1 z2 z3 z4 gW gC gV gB hg mp wa sl sg (hp + m_many am (nI gW)) (m_left am (nI gW)) ar (m_dn am (nI gW) dn) rd v b k q (by omega) hq hx hb hml hown hts hK hN hA (fun  H locs ls  hP hD hS hl => ?_) (gW + 1) 0 _ _ _ (by omega) (by omega) hP hD hS (lv_sub hl [4, 3, 2, 1, 0] rfl)
                have hP : va_P (dC, dI) vwCl [(o0, .inr (2, [.int (nI gW), .int (nI gC), .int (nI gV), .int (nI gB), .ref om, .ref ow, .ref os, .ref og, .int (hp + m_many am (nI gW)), .int (m_left am (nI gW)), .int ar, .int (m_dn am (nI gW) dn), .int rd])), (om, .inl (z1, 24, .inl mp)), (ow, .inl (z2, 24, .inl wa)), (os, .inl (z3, 52, .inl (wrtN sl sg (4 * k) q))), (og, .inl (z4, 4, .inl sg))] H := hP
                have hD : va_D A [(o0, .inr (2, [.int (nI gW), .int (nI gC), .int (nI gV), .int (nI gB), .ref om, .ref ow, .ref os, .ref og, .int (hp + m_many am (nI gW)), .int (m_left am (nI gW)), .int ar, .int (m_dn am (nI gW) dn), .int rd])), (om, .inl (z1, 24, .inl mp)), (ow, .inl (z2, 24, .inl wa)), (os, .inl (z3, 52, .inl (wrtN sl sg (4 * k) q))), (og, .inl (z4, 4, .inl sg))] := hD
                refine lv_aload_n hx hb dX2_writeBlock_164 rfl (lv_at hl 0 rfl) ?_
                refine va_get (D := (dC, dI)) (ci := 2) (v := .int (m_dn am (nI gW) dn)) (C := RX2) (T := TX2) (N := 13) hx hb hts inX2 hown hK hP 0 rfl rfl 11 (by decide) (hts _ tb_266) (fun _ h9 => h9) rfl dX2_writeBlock_165 ?_
                refine lv_if_eq (tgt := 174) hx hb dX2_writeBlock_168 (by decide) (fun c_22 => ?_) (fun c_22 => ?_)
                · refine lv_aload_n hx hb dX2_writeBlock_174 rfl (lv_at hl 0 rfl) ?_
                  refine xr_v (D := (dC, dI)) (wf := (mo_w o0 om ow os og z1 z2 z3 z4 gW gC gV gB)) (u0 := (mp, wa, wrtN sl sg (4 * k) q, sg, hp + m_many am (nI gW), m_left am (nI gW), ar, m_dn am (nI gW) dn, rd)) (wr := []) (va_runV (As := []) (rest := []) ⟨hx, hb, hml, hown, hts⟩ (k_X2_wantAsIs l dC dI o0 om ow os og z1 z2 z3 z4 gW gC gV gB hg H.size mp wa (wrtN sl sg (4 * k) q) sg (hp + m_many am (nI gW)) (m_left am (nI gW)) ar (m_dn am (nI gW) dn) rd ) (cwV 0 hts gX2_86 rfl rfl rfl (by decide +kernel) ⟨Nat.le_of_ble_eq_true rfl, Nat.le_of_ble_eq_true rfl⟩) (xp_v nwL_ok hK hN hP hD [0, 1, 2, 3, 4] rfl rfl (va_recv hK hP (ci := 2) (q0 := 0) rfl rfl)) rfl rfl hl.1 rfl (lv_room (Nat.le_of_ble_eq_true rfl)) dX2_writeBlock_175 ⟨Nat.zero_le _, Nat.zero_le _⟩) hP hD hS hA [0, 1, 2, 3, 4] [] rfl rfl (by decide) (by decide) (fun u_24 H locs hw hP hD hS => ?_)
                  rw [hw] at hP hD
                  have hP : va_P (dC, dI) vwCl [(o0, .inr (2, [.int (nI gW), .int (nI gC), .int (nI gV), .int (nI gB), .ref om, .ref ow, .ref os, .ref og, .int (hp + m_many am (nI gW)), .int (m_left am (nI gW)), .int ar, .int (m_dn am (nI gW) dn), .int rd])), (om, .inl (z1, 24, .inl mp)), (ow, .inl (z2, 24, .inl (cpyN wa mp 24))), (os, .inl (z3, 52, .inl (wrtN sl sg (4 * k) q))), (og, .inl (z4, 4, .inl sg))] H := hP
                  have hD : va_D A [(o0, .inr (2, [.int (nI gW), .int (nI gC), .int (nI gV), .int (nI gB), .ref om, .ref ow, .ref os, .ref og, .int (hp + m_many am (nI gW)), .int (m_left am (nI gW)), .int ar, .int (m_dn am (nI gW) dn), .int rd])), (om, .inl (z1, 24, .inl mp)), (ow, .inl (z2, 24, .inl (cpyN wa mp 24))), (os, .inl (z3, 52, .inl (wrtN sl sg (4 * k) q))), (og, .inl (z4, 4, .inl sg))] := hD
                  refine lv_aload_n hx hb dX2_writeBlock_178 rfl (lv_at hl 0 rfl) ?_
                  refine va_get (D := (dC, dI)) (ci := 2) (v := .ref ow) (C := RX2) (T := TX2) (N := 13) hx hb hts inX2 hown hK hP 0 rfl rfl 5 (by decide) (hts _ tb_260) (fun _ h9 => h9) rfl dX2_writeBlock_179 ?_
                  refine lv_iload_n hx hb dX2_writeBlock_182 rfl (lv_at hl 1 rfl) ?_
                  refine lv_iload hx hb dX2_writeBlock_183 (lv_at hl 2 rfl) ?_
                  refine lv_iconst (v := 1) hx hb dX2_writeBlock_185 (by decide) ?_
                  refine lv_iadd hx hb dX2_writeBlock_186 ?_
                  refine lv_topi (fun z_25 ez_25 => ?_)
                  obtain rfl : z_25 = nI (k + 1) := ez_25.trans (nI_1 k)
                  refine va_iast hx hb hK hP hD hS 2 1 rfl rfl (vp_in_nI (n := 6 * v + b) (by omega) (by omega)) dX2_writeBlock_187 (fun H locs hP hD hS => ?_)
                  have hP : va_P (dC, dI) vwCl [(o0, .inr (2, [.int (nI gW), .int (nI gC), .int (nI gV), .int (nI gB), .ref om, .ref ow, .ref os, .ref og, .int (hp + m_many am (nI gW)), .int (m_left am (nI gW)), .int ar, .int (m_dn am (nI gW) dn), .int rd])), (om, .inl (z1, 24, .inl mp)), (ow, .inl (z2, 24, .inl (upd (cpyN wa mp 24) (nI (6 * v + b)).toNatClampNeg (nI (k + 1))))), (os, .inl (z3, 52, .inl (wrtN sl sg (4 * k) q))), (og, .inl (z4, 4, .inl sg))] H := hP
                  have hD : va_D A [(o0, .inr (2, [.int (nI gW), .int (nI gC), .int (nI gV), .int (nI gB), .ref om, .ref ow, .ref os, .ref og, .int (hp + m_many am (nI gW)), .int (m_left am (nI gW)), .int ar, .int (m_dn am (nI gW) dn), .int rd])), (om, .inl (z1, 24, .inl mp)), (ow, .inl (z2, 24, .inl (upd (cpyN wa mp 24) (nI (6 * v + b)).toNatClampNeg (nI (k + 1))))), (os, .inl (z3, 52, .inl (wrtN sl sg (4 * k) q))), (og, .inl (z4, 4, .inl sg))] := hD
                  rw [nI_clamp (n := 6 * v + b) (by omega)] at hP hD
                  refine lv_aload_n hx hb dX2_writeBlock_188 rfl (lv_at hl 0 rfl) ?_
                  refine lv_iconst (v := 1) hx hb dX2_writeBlock_189 (by decide) ?_
                  refine xr_i (D := (dC, dI)) (wf := (mo_w o0 om ow os og z1 z2 z3 z4 gW gC gV gB)) (u0 := (mp, upd (cpyN wa mp 24) (6 * v + b) (nI (k + 1)), wrtN sl sg (4 * k) q, sg, hp + m_many am (nI gW), m_left am (nI gW), ar, m_dn am (nI gW) dn, rd)) (wr := []) (va_runV (As := [.int 1]) (rest := []) ⟨hx, hb, hml, hown, hts⟩ (k_X2_change l dC dI o0 om ow os og z1 z2 z3 z4 gW gC gV gB hg H.size mp (upd (cpyN wa mp 24) (6 * v + b) (nI (k + 1))) (wrtN sl sg (4 * k) q) sg (hp + m_many am (nI gW)) (m_left am (nI gW)) ar (m_dn am (nI gW) dn) rd 1) (cwV 1 hts gX2_89 rfl rfl rfl (by decide +kernel) ⟨Nat.le_of_ble_eq_true rfl, Nat.le_of_ble_eq_true rfl⟩) (xp_v nwL_ok hK hN hP hD [0, 1, 2, 3, 4] rfl rfl (va_recv hK hP (ci := 2) (q0 := 0) rfl rfl)) rfl rfl hl.1 rfl (lv_room (Nat.le_of_ble_eq_true rfl)) dX2_writeBlock_190 ⟨Nat.zero_le _, Nat.zero_le _⟩) hP hD hS hA [0, 1, 2, 3, 4] [] rfl rfl (by decide) (by decide) (fun r_26 u_27 H locs hw hP hD hS => ?_)
                  exact W.iret (v := r_26) hx hb hr (fun t ht hW => ⟨⟨r_26, u_27, rfl, Or.inr (Or.inr ⟨c_1, c_4, v, b, hv, hb9, ev, eb, Or.inr (Or.inr (Or.inr ⟨es, by unfold m_lft; rw [if_pos c_12]; exact c_16, k, by omega, hkj, hku, q, hq, eq9, Or.inr ⟨c_22, hw.1, hw.2⟩⟩))⟩), by rw [ht]; exact hP, hD⟩, hS.F ht⟩) hS.2.2 dX2_writeBlock_193
                · refine lv_bipush (v := (-4)) hx hb dX2_writeBlock_171 (by decide) ?_
                  exact W.iret (v := (-4)) hx hb hr (fun t ht hW => ⟨⟨(-4), (mp, wa, wrtN sl sg (4 * k) q, sg, hp + m_many am (nI gW), m_left am (nI gW), ar, m_dn am (nI gW) dn, rd), rfl, Or.inr (Or.inr ⟨c_1, c_4, v, b, hv, hb9, ev, eb, Or.inr (Or.inr (Or.inr ⟨es, by unfold m_lft; rw [if_pos c_12]; exact c_16, k, by omega, hkj, hku, q, hq, eq9, Or.inl ⟨c_22, rfl, rfl⟩⟩))⟩), by rw [ht]; exact hP, hD⟩, hS.F ht⟩) hS.2.2 dX2_writeBlock_173
              · have c_16 : ¬ (usN mp 0 24 (gC + 1) + 1 ≤ gC) := fun q9 => c_16 ((nI_leI (a := usN mp 0 24 (gC + 1) + 1) (b := gC) (by omega) (by omega)).mpr q9)
                refine lv_bipush (v := (-2)) hx hb dX2_writeBlock_110 (by decide) ?_
                exact W.iret (v := (-2)) hx hb hr (fun t ht hW => ⟨⟨(-2), (mp, wa, sl, sg, hp, am, ar, dn, rd), rfl, Or.inr (Or.inr ⟨c_1, c_4, v, b, hv, hb9, ev, eb, Or.inr (Or.inr (Or.inl ⟨es, by unfold m_lft; rw [if_pos c_12]; exact c_16, rfl, rfl⟩))⟩), by rw [ht]; exact hP, hD⟩, hS.F ht⟩) hS.2.2 dX2_writeBlock_112
            · refine lv_aload_n hx hb dX2_writeBlock_68 rfl (lv_at hl 2 rfl) ?_
              refine lv_aload_n hx hb dX2_writeBlock_69 rfl (lv_at hl 2 rfl) ?_
              refine va_get (D := (dC, dI)) (ci := 2) (v := .ref om) (C := RX2) (T := TX2) (N := 13) hx hb hts inX2 hown hK hP 0 rfl rfl 4 (by decide) (hts _ tb_259) (fun _ h9 => h9) rfl dX2_writeBlock_70 ?_
              refine lv_iload_n hx hb dX2_writeBlock_73 rfl (lv_at hl 1 rfl) ?_
              refine va_iald hx hb hK hP 1 0 rfl rfl (vp_in_nI (n := 6 * v + b) (by omega) (by omega)) dX2_writeBlock_74 ?_
              refine lv_topi (fun z_28 ez_28 => ?_)
              obtain rfl : z_28 = mp (6 * v + b) := ez_28.trans (by rw [nI_clamp (n := 6 * v + b) (by omega)])
              refine lv_iconst (v := 1) hx hb dX2_writeBlock_75 (by decide) ?_
              refine lv_isub hx hb dX2_writeBlock_76 ?_
              refine xr_i (D := (dC, dI)) (wf := (mo_w o0 om ow os og z1 z2 z3 z4 gW gC gV gB)) (u0 := (mp, wa, sl, sg, hp, am, ar, dn, rd)) (wr := []) (va_runV (As := [.int (mp (6 * v + b) - 1)]) (rest := []) ⟨hx, hb, hml, hown, hts⟩ (k_X2_refs l dC dI o0 om ow os og z1 z2 z3 z4 gW gC gV gB hg H.size mp wa sl sg hp am ar dn rd (mp (6 * v + b) - 1)) (cwV 1 hts gX2_63 rfl rfl rfl (by decide +kernel) ⟨Nat.le_of_ble_eq_true rfl, Nat.le_of_ble_eq_true rfl⟩) (xp_v nwL_ok hK hN hP hD [0, 1, 2, 3, 4] rfl rfl (va_recv hK hP (ci := 2) (q0 := 0) rfl rfl)) rfl rfl hl.1 rfl (lv_room (Nat.le_of_ble_eq_true rfl)) dX2_writeBlock_77 ⟨Nat.zero_le _, Nat.zero_le _⟩) hP hD hS hA [0, 1, 2, 3, 4] [] rfl rfl (by decide) (by decide) (fun r_29 u_30 H locs hw hP hD hS => ?_)
              obtain ⟨er_29, eu_30⟩ := hw
              rw [eu_30] at hP hD
              rw [er_29]
              have hP : va_P (dC, dI) vwCl [(o0, .inr (2, [.int (nI gW), .int (nI gC), .int (nI gV), .int (nI gB), .ref om, .ref ow, .ref os, .ref og, .int hp, .int am, .int ar, .int dn, .int rd])), (om, .inl (z1, 24, .inl mp)), (ow, .inl (z2, 24, .inl wa)), (os, .inl (z3, 52, .inl sl)), (og, .inl (z4, 4, .inl sg))] H := hP
              have hD : va_D A [(o0, .inr (2, [.int (nI gW), .int (nI gC), .int (nI gV), .int (nI gB), .ref om, .ref ow, .ref os, .ref og, .int hp, .int am, .int ar, .int dn, .int rd])), (om, .inl (z1, 24, .inl mp)), (ow, .inl (z2, 24, .inl wa)), (os, .inl (z3, 52, .inl sl)), (og, .inl (z4, 4, .inl sg))] := hD
              refine lv_iconst (v := 1) hx hb dX2_writeBlock_80 (by decide) ?_
              refine lv_icmp_ne (tgt := 93) hx hb dX2_writeBlock_81 (by decide) (fun c_31 => ?_) (fun c_31 => ?_)
              · have c_31 : ¬ (cntC mp 0 (mp (6 * v + b) - 1 + 1) 24 = 1) := fun q9 => c_31 ((nI_eq (a := cntC mp 0 (mp (6 * v + b) - 1 + 1) 24) (b := 1) (by omega) (by omega)).mpr q9)
                refine lv_aload_n hx hb dX2_writeBlock_93 rfl (lv_at hl 2 rfl) ?_
                refine xr_i (D := (dC, dI)) (wf := (mo_w o0 om ow os og z1 z2 z3 z4 gW gC gV gB)) (u0 := (mp, wa, sl, sg, hp, am, ar, dn, rd)) (wr := []) (va_runV (As := []) (rest := []) ⟨hx, hb, hml, hown, hts⟩ (k_X2_used l dC dI o0 om ow os og z1 z2 z3 z4 gW gC gV gB hg H.size mp wa sl sg hp am ar dn rd ) (cwV 0 hts gX2_80 rfl rfl rfl (by decide +kernel) ⟨Nat.le_of_ble_eq_true rfl, Nat.le_of_ble_eq_true rfl⟩) (xp_v nwL_ok hK hN hP hD [0, 1, 2, 3, 4] rfl rfl (va_recv hK hP (ci := 2) (q0 := 0) rfl rfl)) rfl rfl hl.1 rfl (lv_room (Nat.le_of_ble_eq_true rfl)) dX2_writeBlock_94 ⟨Nat.zero_le _, Nat.zero_le _⟩) hP hD hS hA [0, 1, 2, 3, 4] [] rfl rfl (by decide) (by decide) (fun r_32 u_33 H locs hw hP hD hS => ?_)
                obtain ⟨er_32, eu_33⟩ := hw
                rw [eu_33] at hP hD
                rw [er_32]
                have hP : va_P (dC, dI) vwCl [(o0, .inr (2, [.int (nI gW), .int (nI gC), .int (nI gV), .int (nI gB), .ref om, .ref ow, .ref os, .ref og, .int hp, .int am, .int ar, .int dn, .int rd])), (om, .inl (z1, 24, .inl mp)), (ow, .inl (z2, 24, .inl wa)), (os, .inl (z3, 52, .inl sl)), (og, .inl (z4, 4, .inl sg))] H := hP
                have hD : va_D A [(o0, .inr (2, [.int (nI gW), .int (nI gC), .int (nI gV), .int (nI gB), .ref om, .ref ow, .ref os, .ref og, .int hp, .int am, .int ar, .int dn, .int rd])), (om, .inl (z1, 24, .inl mp)), (ow, .inl (z2, 24, .inl wa)), (os, .inl (z3, 52, .inl sl)), (og, .inl (z4, 4, .inl sg))] := hD
                refine lv_istore (lv' := [(5, .int (nI (usN mp 0 24 (gC + 1)))), (4, .int (-1)), (3, .int (nI (6 * v + b))), (0, .ref o0), (1, .int (nI v)), (2, .int (nI b))]) hx hb dX2_writeBlock_97 hl (by decide) rfl (fun ls hl => ?_)
                refine lv_iload hx hb dX2_writeBlock_99 (lv_at hl 0 rfl) ?_
                refine lv_iconst (v := 1) hx hb dX2_writeBlock_101 (by decide) ?_
                refine lv_iadd hx hb dX2_writeBlock_102 ?_
                refine lv_topi (fun z_34 ez_34 => ?_)
                obtain rfl : z_34 = nI (usN mp 0 24 (gC + 1) + 1) := ez_34.trans (nI_1 (usN mp 0 24 (gC + 1)))
                refine lv_aload_n hx hb dX2_writeBlock_103 rfl (lv_at hl 3 rfl) ?_
                refine va_get (D := (dC, dI)) (ci := 2) (v := .int (nI gC)) (C := RX2) (T := TX2) (N := 13) hx hb hts inX2 hown hK hP 0 rfl rfl 1 (by decide) (hts _ tb_256) (fun _ h9 => h9) rfl dX2_writeBlock_104 ?_
                refine lv_icmp_le (tgt := 113) hx hb dX2_writeBlock_107 (by decide) (fun c_35 => ?_) (fun c_35 => ?_)
                · have c_35 : usN mp 0 24 (gC + 1) + 1 ≤ gC := (nI_leI (a := usN mp 0 24 (gC + 1) + 1) (b := gC) (by omega) (by omega)).mp c_35
                  refine lv_aload_n hx hb dX2_writeBlock_113 rfl (lv_at hl 3 rfl) ?_
                  obtain ⟨N, hN9, hlo⟩ := hlow c_1
                  refine xr_i (D := (dC, dI)) (wf := (mo_w o0 om ow os og z1 z2 z3 z4 gW gC gV gB)) (u0 := (mp, wa, sl, sg, hp, am, ar, dn, rd)) (wr := []) (va_runV (As := []) (rest := []) ⟨hx, hb, hml, hown, hts⟩ (k_X2_lowestUnused l dC dI o0 om ow os og z1 z2 z3 z4 gW gC gV gB hg H.size mp wa sl sg hp am ar dn rd N (by omega) hlo) (cwV 0 hts gX2_83 rfl rfl rfl (by decide +kernel) ⟨Nat.le_of_ble_eq_true rfl, Nat.le_of_ble_eq_true rfl⟩) (xp_v nwL_ok hK hN hP hD [0, 1, 2, 3, 4] rfl rfl (va_recv hK hP (ci := 2) (q0 := 0) rfl rfl)) rfl rfl hl.1 rfl (lv_room (Nat.le_of_ble_eq_true rfl)) dX2_writeBlock_114 ⟨Nat.zero_le _, Nat.zero_le _⟩) hP hD hS hA [0, 1, 2, 3, 4] [] rfl rfl (by decide) (by decide) (fun r_36 u_37 H locs hw hP hD hS => ?_)
                  obtain ⟨⟨k, er_36, hkN, hkj, hku⟩, eu_37⟩ := hw
                  rw [eu_37] at hP hD
                  rw [er_36]
                  have hP : va_P (dC, dI) vwCl [(o0, .inr (2, [.int (nI gW), .int (nI gC), .int (nI gV), .int (nI gB), .ref om, .ref ow, .ref os, .ref og, .int hp, .int am, .int ar, .int dn, .int rd])), (om, .inl (z1, 24, .inl mp)), (ow, .inl (z2, 24, .inl wa)), (os, .inl (z3, 52, .inl sl)), (og, .inl (z4, 4, .inl sg))] H := hP
                  have hD : va_D A [(o0, .inr (2, [.int (nI gW), .int (nI gC), .int (nI gV), .int (nI gB), .ref om, .ref ow, .ref os, .ref og, .int hp, .int am, .int ar, .int dn, .int rd])), (om, .inl (z1, 24, .inl mp)), (ow, .inl (z2, 24, .inl wa)), (os, .inl (z3, 52, .inl sl)), (og, .inl (z4, 4, .inl sg))] := hD
                  refine lv_istore (lv' := [(4, .int (nI k)), (5, .int (nI (usN mp 0 24 (gC + 1)))), (3, .int (nI (6 * v + b))), (0, .ref o0), (1, .int (nI v)), (2, .int (nI b))]) hx hb dX2_writeBlock_117 hl (by decide) rfl (fun ls hl => ?_)
                  refine lv_aload_n hx hb dX2_writeBlock_119 rfl (lv_at hl 3 rfl) ?_
                  refine lv_aload_n hx hb dX2_writeBlock_120 rfl (lv_at hl 3 rfl) ?_
                  refine va_get (D := (dC, dI)) (ci := 2) (v := .int (nI gW)) (C := RX2) (T := TX2) (N := 13) hx hb hts inX2 hown hK hP 0 rfl rfl 0 (by decide) (hts _ tb_255) (fun _ h9 => h9) rfl dX2_writeBlock_121 ?_
                  refine xr_i (D := (dC, dI)) (wf := (mo_w o0 om ow os og z1 z2 z3 z4 gW gC gV gB)) (u0 := (mp, wa, sl, sg, hp, am, ar, dn, rd)) (wr := []) (va_runV (As := [.int (nI gW)]) (rest := []) ⟨hx, hb, hml, hown, hts⟩ (k_X2_spend l dC dI o0 om ow os og z1 z2 z3 z4 gW gC gV gB hg H.size mp wa sl sg hp am ar dn rd (nI gW)) (cwV 1 hts gX2_55 rfl rfl rfl (by decide +kernel) ⟨Nat.le_of_ble_eq_true rfl, Nat.le_of_ble_eq_true rfl⟩) (xp_v nwL_ok hK hN hP hD [0, 1, 2, 3, 4] rfl rfl (va_recv hK hP (ci := 2) (q0 := 0) rfl rfl)) rfl rfl hl.1 rfl (lv_room (Nat.le_of_ble_eq_true rfl)) dX2_writeBlock_124 ⟨Nat.zero_le _, Nat.zero_le _⟩) hP hD hS hA [0, 1, 2, 3, 4] [] rfl rfl (by decide) (by decide) (fun r_38 u_39 H locs hw hP hD hS => ?_)
                  obtain ⟨er_38, hw⟩ := hw
                  rw [er_38]
                  rw [hw] at hP hD
                  have hP : va_P (dC, dI) vwCl [(o0, .inr (2, [.int (nI gW), .int (nI gC), .int (nI gV), .int (nI gB), .ref om, .ref ow, .ref os, .ref og, .int (hp + m_many am (nI gW)), .int (m_left am (nI gW)), .int ar, .int (m_dn am (nI gW) dn), .int rd])), (om, .inl (z1, 24, .inl mp)), (ow, .inl (z2, 24, .inl wa)), (os, .inl (z3, 52, .inl sl)), (og, .inl (z4, 4, .inl sg))] H := hP
                  have hD : va_D A [(o0, .inr (2, [.int (nI gW), .int (nI gC), .int (nI gV), .int (nI gB), .ref om, .ref ow, .ref os, .ref og, .int (hp + m_many am (nI gW)), .int (m_left am (nI gW)), .int ar, .int (m_dn am (nI gW) dn), .int rd])), (om, .inl (z1, 24, .inl mp)), (ow, .inl (z2, 24, .inl wa)), (os, .inl (z3, 52, .inl sl)), (og, .inl (z4, 4, .inl sg))] := hD
                  obtain ⟨q, hq, eq9⟩ : ∃ q, q ≤ gW ∧ m_many am (nI gW) = nI q := m_many_nat ha ea (by omega)
                  refine lv_topi (fun z_40 ez_40 => ?_)
                  obtain rfl : z_40 = nI q := ez_40.trans (eq9)
                  refine lv_istore (lv' := [(6, .int (nI q)), (4, .int (nI k)), (5, .int (nI (usN mp 0 24 (gC + 1)))), (3, .int (nI (6 * v + b))), (0, .ref o0), (1, .int (nI v)), (2, .int (nI b))]) hx hb dX2_writeBlock_127 hl (by decide) rfl (fun ls hl => ?_)
                  refine lv_iconst (v := 0) hx hb dX2_writeBlock_129 (by decide) ?_
                  refine lv_istore (lv' := [(7, .int 0), (6, .int (nI q)), (4, .int (nI k)), (5, .int (nI (usN mp 0 24 (gC + 1)))), (3, .int (nI (6 * v + b))), (0, .ref o0), (1, .int (nI v)), (2, .int (nI b))]) hx hb dX2_writeBlock_130 hl (by decide) rfl (fun ls hl => ?_)
                  have hl : lv_has ls 8 [(7, .int (nI 0)), (6, .int (nI q)), (4, .int (nI k)), (3, .int (nI (6 * v + b))), (0, .ref o0)] := lv_sub hl [0, 1, 2, 4, 5] rfl
                  refine lp_X2_writeBlock_132 o0 om ow os og z1 z2 z3 z4 gW gC gV gB hg mp wa sl sg (hp + m_many am (nI gW)) (m_left am (nI gW)) ar (m_dn am (nI gW) dn) rd v b k q (by omega) hq hx hb hml hown hts hK hN hA (fun  H locs ls  hP hD hS hl => ?_) (gW + 1) 0 _ _ _ (by omega) (by omega) hP hD hS (lv_sub hl [4, 3, 2, 1, 0] rfl)
                  have hP : va_P (dC, dI) vwCl [(o0, .inr (2, [.int (nI gW), .int (nI gC), .int (nI gV), .int (nI gB), .ref om, .ref ow, .ref os, .ref og, .int (hp + m_many am (nI gW)), .int (m_left am (nI gW)), .int ar, .int (m_dn am (nI gW) dn), .int rd])), (om, .inl (z1, 24, .inl mp)), (ow, .inl (z2, 24, .inl wa)), (os, .inl (z3, 52, .inl (wrtN sl sg (4 * k) q))), (og, .inl (z4, 4, .inl sg))] H := hP
                  have hD : va_D A [(o0, .inr (2, [.int (nI gW), .int (nI gC), .int (nI gV), .int (nI gB), .ref om, .ref ow, .ref os, .ref og, .int (hp + m_many am (nI gW)), .int (m_left am (nI gW)), .int ar, .int (m_dn am (nI gW) dn), .int rd])), (om, .inl (z1, 24, .inl mp)), (ow, .inl (z2, 24, .inl wa)), (os, .inl (z3, 52, .inl (wrtN sl sg (4 * k) q))), (og, .inl (z4, 4, .inl sg))] := hD
                  refine lv_aload_n hx hb dX2_writeBlock_164 rfl (lv_at hl 0 rfl) ?_
                  refine va_get (D := (dC, dI)) (ci := 2) (v := .int (m_dn am (nI gW) dn)) (C := RX2) (T := TX2) (N := 13) hx hb hts inX2 hown hK hP 0 rfl rfl 11 (by decide) (hts _ tb_266) (fun _ h9 => h9) rfl dX2_writeBlock_165 ?_
                  refine lv_if_eq (tgt := 174) hx hb dX2_writeBlock_168 (by decide) (fun c_41 => ?_) (fun c_41 => ?_)
                  · refine lv_aload_n hx hb dX2_writeBlock_174 rfl (lv_at hl 0 rfl) ?_
                    refine xr_v (D := (dC, dI)) (wf := (mo_w o0 om ow os og z1 z2 z3 z4 gW gC gV gB)) (u0 := (mp, wa, wrtN sl sg (4 * k) q, sg, hp + m_many am (nI gW), m_left am (nI gW), ar, m_dn am (nI gW) dn, rd)) (wr := []) (va_runV (As := []) (rest := []) ⟨hx, hb, hml, hown, hts⟩ (k_X2_wantAsIs l dC dI o0 om ow os og z1 z2 z3 z4 gW gC gV gB hg H.size mp wa (wrtN sl sg (4 * k) q) sg (hp + m_many am (nI gW)) (m_left am (nI gW)) ar (m_dn am (nI gW) dn) rd ) (cwV 0 hts gX2_86 rfl rfl rfl (by decide +kernel) ⟨Nat.le_of_ble_eq_true rfl, Nat.le_of_ble_eq_true rfl⟩) (xp_v nwL_ok hK hN hP hD [0, 1, 2, 3, 4] rfl rfl (va_recv hK hP (ci := 2) (q0 := 0) rfl rfl)) rfl rfl hl.1 rfl (lv_room (Nat.le_of_ble_eq_true rfl)) dX2_writeBlock_175 ⟨Nat.zero_le _, Nat.zero_le _⟩) hP hD hS hA [0, 1, 2, 3, 4] [] rfl rfl (by decide) (by decide) (fun u_43 H locs hw hP hD hS => ?_)
                    rw [hw] at hP hD
                    have hP : va_P (dC, dI) vwCl [(o0, .inr (2, [.int (nI gW), .int (nI gC), .int (nI gV), .int (nI gB), .ref om, .ref ow, .ref os, .ref og, .int (hp + m_many am (nI gW)), .int (m_left am (nI gW)), .int ar, .int (m_dn am (nI gW) dn), .int rd])), (om, .inl (z1, 24, .inl mp)), (ow, .inl (z2, 24, .inl (cpyN wa mp 24))), (os, .inl (z3, 52, .inl (wrtN sl sg (4 * k) q))), (og, .inl (z4, 4, .inl sg))] H := hP
                    have hD : va_D A [(o0, .inr (2, [.int (nI gW), .int (nI gC), .int (nI gV), .int (nI gB), .ref om, .ref ow, .ref os, .ref og, .int (hp + m_many am (nI gW)), .int (m_left am (nI gW)), .int ar, .int (m_dn am (nI gW) dn), .int rd])), (om, .inl (z1, 24, .inl mp)), (ow, .inl (z2, 24, .inl (cpyN wa mp 24))), (os, .inl (z3, 52, .inl (wrtN sl sg (4 * k) q))), (og, .inl (z4, 4, .inl sg))] := hD
                    refine lv_aload_n hx hb dX2_writeBlock_178 rfl (lv_at hl 0 rfl) ?_
                    refine va_get (D := (dC, dI)) (ci := 2) (v := .ref ow) (C := RX2) (T := TX2) (N := 13) hx hb hts inX2 hown hK hP 0 rfl rfl 5 (by decide) (hts _ tb_260) (fun _ h9 => h9) rfl dX2_writeBlock_179 ?_
                    refine lv_iload_n hx hb dX2_writeBlock_182 rfl (lv_at hl 1 rfl) ?_
                    refine lv_iload hx hb dX2_writeBlock_183 (lv_at hl 2 rfl) ?_
                    refine lv_iconst (v := 1) hx hb dX2_writeBlock_185 (by decide) ?_
                    refine lv_iadd hx hb dX2_writeBlock_186 ?_
                    refine lv_topi (fun z_44 ez_44 => ?_)
                    obtain rfl : z_44 = nI (k + 1) := ez_44.trans (nI_1 k)
                    refine va_iast hx hb hK hP hD hS 2 1 rfl rfl (vp_in_nI (n := 6 * v + b) (by omega) (by omega)) dX2_writeBlock_187 (fun H locs hP hD hS => ?_)
                    have hP : va_P (dC, dI) vwCl [(o0, .inr (2, [.int (nI gW), .int (nI gC), .int (nI gV), .int (nI gB), .ref om, .ref ow, .ref os, .ref og, .int (hp + m_many am (nI gW)), .int (m_left am (nI gW)), .int ar, .int (m_dn am (nI gW) dn), .int rd])), (om, .inl (z1, 24, .inl mp)), (ow, .inl (z2, 24, .inl (upd (cpyN wa mp 24) (nI (6 * v + b)).toNatClampNeg (nI (k + 1))))), (os, .inl (z3, 52, .inl (wrtN sl sg (4 * k) q))), (og, .inl (z4, 4, .inl sg))] H := hP
                    have hD : va_D A [(o0, .inr (2, [.int (nI gW), .int (nI gC), .int (nI gV), .int (nI gB), .ref om, .ref ow, .ref os, .ref og, .int (hp + m_many am (nI gW)), .int (m_left am (nI gW)), .int ar, .int (m_dn am (nI gW) dn), .int rd])), (om, .inl (z1, 24, .inl mp)), (ow, .inl (z2, 24, .inl (upd (cpyN wa mp 24) (nI (6 * v + b)).toNatClampNeg (nI (k + 1))))), (os, .inl (z3, 52, .inl (wrtN sl sg (4 * k) q))), (og, .inl (z4, 4, .inl sg))] := hD
                    rw [nI_clamp (n := 6 * v + b) (by omega)] at hP hD
                    refine lv_aload_n hx hb dX2_writeBlock_188 rfl (lv_at hl 0 rfl) ?_
                    refine lv_iconst (v := 1) hx hb dX2_writeBlock_189 (by decide) ?_
                    refine xr_i (D := (dC, dI)) (wf := (mo_w o0 om ow os og z1 z2 z3 z4 gW gC gV gB)) (u0 := (mp, upd (cpyN wa mp 24) (6 * v + b) (nI (k + 1)), wrtN sl sg (4 * k) q, sg, hp + m_many am (nI gW), m_left am (nI gW), ar, m_dn am (nI gW) dn, rd)) (wr := []) (va_runV (As := [.int 1]) (rest := []) ⟨hx, hb, hml, hown, hts⟩ (k_X2_change l dC dI o0 om ow os og z1 z2 z3 z4 gW gC gV gB hg H.size mp (upd (cpyN wa mp 24) (6 * v + b) (nI (k + 1))) (wrtN sl sg (4 * k) q) sg (hp + m_many am (nI gW)) (m_left am (nI gW)) ar (m_dn am (nI gW) dn) rd 1) (cwV 1 hts gX2_89 rfl rfl rfl (by decide +kernel) ⟨Nat.le_of_ble_eq_true rfl, Nat.le_of_ble_eq_true rfl⟩) (xp_v nwL_ok hK hN hP hD [0, 1, 2, 3, 4] rfl rfl (va_recv hK hP (ci := 2) (q0 := 0) rfl rfl)) rfl rfl hl.1 rfl (lv_room (Nat.le_of_ble_eq_true rfl)) dX2_writeBlock_190 ⟨Nat.zero_le _, Nat.zero_le _⟩) hP hD hS hA [0, 1, 2, 3, 4] [] rfl rfl (by decide) (by decide) (fun r_45 u_46 H locs hw hP hD hS => ?_)
                    exact W.iret (v := r_45) hx hb hr (fun t ht hW => ⟨⟨r_45, u_46, rfl, Or.inr (Or.inr ⟨c_1, c_4, v, b, hv, hb9, ev, eb, Or.inr (Or.inr (Or.inr ⟨es, by unfold m_lft; rw [if_neg c_12, if_neg c_31]; exact c_35, k, by omega, hkj, hku, q, hq, eq9, Or.inr ⟨c_41, hw.1, hw.2⟩⟩))⟩), by rw [ht]; exact hP, hD⟩, hS.F ht⟩) hS.2.2 dX2_writeBlock_193
                  · refine lv_bipush (v := (-4)) hx hb dX2_writeBlock_171 (by decide) ?_
                    exact W.iret (v := (-4)) hx hb hr (fun t ht hW => ⟨⟨(-4), (mp, wa, wrtN sl sg (4 * k) q, sg, hp + m_many am (nI gW), m_left am (nI gW), ar, m_dn am (nI gW) dn, rd), rfl, Or.inr (Or.inr ⟨c_1, c_4, v, b, hv, hb9, ev, eb, Or.inr (Or.inr (Or.inr ⟨es, by unfold m_lft; rw [if_neg c_12, if_neg c_31]; exact c_35, k, by omega, hkj, hku, q, hq, eq9, Or.inl ⟨c_41, rfl, rfl⟩⟩))⟩), by rw [ht]; exact hP, hD⟩, hS.F ht⟩) hS.2.2 dX2_writeBlock_173
                · have c_35 : ¬ (usN mp 0 24 (gC + 1) + 1 ≤ gC) := fun q9 => c_35 ((nI_leI (a := usN mp 0 24 (gC + 1) + 1) (b := gC) (by omega) (by omega)).mpr q9)
                  refine lv_bipush (v := (-2)) hx hb dX2_writeBlock_110 (by decide) ?_
                  exact W.iret (v := (-2)) hx hb hr (fun t ht hW => ⟨⟨(-2), (mp, wa, sl, sg, hp, am, ar, dn, rd), rfl, Or.inr (Or.inr ⟨c_1, c_4, v, b, hv, hb9, ev, eb, Or.inr (Or.inr (Or.inl ⟨es, by unfold m_lft; rw [if_neg c_12, if_neg c_31]; exact c_35, rfl, rfl⟩))⟩), by rw [ht]; exact hP, hD⟩, hS.F ht⟩) hS.2.2 dX2_writeBlock_112
              · have c_31 : cntC mp 0 (mp (6 * v + b) - 1 + 1) 24 = 1 := (nI_eq (a := cntC mp 0 (mp (6 * v + b) - 1 + 1) 24) (b := 1) (by omega) (by omega)).mp c_31
                refine lv_aload_n hx hb dX2_writeBlock_84 rfl (lv_at hl 2 rfl) ?_
                refine xr_i (D := (dC, dI)) (wf := (mo_w o0 om ow os og z1 z2 z3 z4 gW gC gV gB)) (u0 := (mp, wa, sl, sg, hp, am, ar, dn, rd)) (wr := []) (va_runV (As := []) (rest := []) ⟨hx, hb, hml, hown, hts⟩ (k_X2_used l dC dI o0 om ow os og z1 z2 z3 z4 gW gC gV gB hg H.size mp wa sl sg hp am ar dn rd ) (cwV 0 hts gX2_80 rfl rfl rfl (by decide +kernel) ⟨Nat.le_of_ble_eq_true rfl, Nat.le_of_ble_eq_true rfl⟩) (xp_v nwL_ok hK hN hP hD [0, 1, 2, 3, 4] rfl rfl (va_recv hK hP (ci := 2) (q0 := 0) rfl rfl)) rfl rfl hl.1 rfl (lv_room (Nat.le_of_ble_eq_true rfl)) dX2_writeBlock_85 ⟨Nat.zero_le _, Nat.zero_le _⟩) hP hD hS hA [0, 1, 2, 3, 4] [] rfl rfl (by decide) (by decide) (fun r_47 u_48 H locs hw hP hD hS => ?_)
                obtain ⟨er_47, eu_48⟩ := hw
                rw [eu_48] at hP hD
                rw [er_47]
                have hP : va_P (dC, dI) vwCl [(o0, .inr (2, [.int (nI gW), .int (nI gC), .int (nI gV), .int (nI gB), .ref om, .ref ow, .ref os, .ref og, .int hp, .int am, .int ar, .int dn, .int rd])), (om, .inl (z1, 24, .inl mp)), (ow, .inl (z2, 24, .inl wa)), (os, .inl (z3, 52, .inl sl)), (og, .inl (z4, 4, .inl sg))] H := hP
                have hD : va_D A [(o0, .inr (2, [.int (nI gW), .int (nI gC), .int (nI gV), .int (nI gB), .ref om, .ref ow, .ref os, .ref og, .int hp, .int am, .int ar, .int dn, .int rd])), (om, .inl (z1, 24, .inl mp)), (ow, .inl (z2, 24, .inl wa)), (os, .inl (z3, 52, .inl sl)), (og, .inl (z4, 4, .inl sg))] := hD
                refine lv_iconst (v := 1) hx hb dX2_writeBlock_88 (by decide) ?_
                refine lv_isub hx hb dX2_writeBlock_89 ?_
                refine lv_goto (tgt := 97) hx hb dX2_writeBlock_90 (by decide) ?_
                refine lv_istore (lv' := [(5, .int (nI (usN mp 0 24 (gC + 1)) - 1)), (4, .int (-1)), (3, .int (nI (6 * v + b))), (0, .ref o0), (1, .int (nI v)), (2, .int (nI b))]) hx hb dX2_writeBlock_97 hl (by decide) rfl (fun ls hl => ?_)
                refine lv_iload hx hb dX2_writeBlock_99 (lv_at hl 0 rfl) ?_
                refine lv_iconst (v := 1) hx hb dX2_writeBlock_101 (by decide) ?_
                refine lv_iadd hx hb dX2_writeBlock_102 ?_
                refine lv_topi (fun z_49 ez_49 => ?_)
                obtain rfl : z_49 = nI (usN mp 0 24 (gC + 1)) := ez_49.trans (Int32.sub_add_cancel _ _)
                refine lv_aload_n hx hb dX2_writeBlock_103 rfl (lv_at hl 3 rfl) ?_
                refine va_get (D := (dC, dI)) (ci := 2) (v := .int (nI gC)) (C := RX2) (T := TX2) (N := 13) hx hb hts inX2 hown hK hP 0 rfl rfl 1 (by decide) (hts _ tb_256) (fun _ h9 => h9) rfl dX2_writeBlock_104 ?_
                refine lv_icmp_le (tgt := 113) hx hb dX2_writeBlock_107 (by decide) (fun c_50 => ?_) (fun c_50 => ?_)
                · have c_50 : usN mp 0 24 (gC + 1) ≤ gC := (nI_leI (a := usN mp 0 24 (gC + 1)) (b := gC) (by omega) (by omega)).mp c_50
                  refine lv_aload_n hx hb dX2_writeBlock_113 rfl (lv_at hl 3 rfl) ?_
                  obtain ⟨N, hN9, hlo⟩ := hlow c_1
                  refine xr_i (D := (dC, dI)) (wf := (mo_w o0 om ow os og z1 z2 z3 z4 gW gC gV gB)) (u0 := (mp, wa, sl, sg, hp, am, ar, dn, rd)) (wr := []) (va_runV (As := []) (rest := []) ⟨hx, hb, hml, hown, hts⟩ (k_X2_lowestUnused l dC dI o0 om ow os og z1 z2 z3 z4 gW gC gV gB hg H.size mp wa sl sg hp am ar dn rd N (by omega) hlo) (cwV 0 hts gX2_83 rfl rfl rfl (by decide +kernel) ⟨Nat.le_of_ble_eq_true rfl, Nat.le_of_ble_eq_true rfl⟩) (xp_v nwL_ok hK hN hP hD [0, 1, 2, 3, 4] rfl rfl (va_recv hK hP (ci := 2) (q0 := 0) rfl rfl)) rfl rfl hl.1 rfl (lv_room (Nat.le_of_ble_eq_true rfl)) dX2_writeBlock_114 ⟨Nat.zero_le _, Nat.zero_le _⟩) hP hD hS hA [0, 1, 2, 3, 4] [] rfl rfl (by decide) (by decide) (fun r_51 u_52 H locs hw hP hD hS => ?_)
                  obtain ⟨⟨k, er_51, hkN, hkj, hku⟩, eu_52⟩ := hw
                  rw [eu_52] at hP hD
                  rw [er_51]
                  have hP : va_P (dC, dI) vwCl [(o0, .inr (2, [.int (nI gW), .int (nI gC), .int (nI gV), .int (nI gB), .ref om, .ref ow, .ref os, .ref og, .int hp, .int am, .int ar, .int dn, .int rd])), (om, .inl (z1, 24, .inl mp)), (ow, .inl (z2, 24, .inl wa)), (os, .inl (z3, 52, .inl sl)), (og, .inl (z4, 4, .inl sg))] H := hP
                  have hD : va_D A [(o0, .inr (2, [.int (nI gW), .int (nI gC), .int (nI gV), .int (nI gB), .ref om, .ref ow, .ref os, .ref og, .int hp, .int am, .int ar, .int dn, .int rd])), (om, .inl (z1, 24, .inl mp)), (ow, .inl (z2, 24, .inl wa)), (os, .inl (z3, 52, .inl sl)), (og, .inl (z4, 4, .inl sg))] := hD
                  refine lv_istore (lv' := [(4, .int (nI k)), (5, .int (nI (usN mp 0 24 (gC + 1)) - 1)), (3, .int (nI (6 * v + b))), (0, .ref o0), (1, .int (nI v)), (2, .int (nI b))]) hx hb dX2_writeBlock_117 hl (by decide) rfl (fun ls hl => ?_)
                  refine lv_aload_n hx hb dX2_writeBlock_119 rfl (lv_at hl 3 rfl) ?_
                  refine lv_aload_n hx hb dX2_writeBlock_120 rfl (lv_at hl 3 rfl) ?_
                  refine va_get (D := (dC, dI)) (ci := 2) (v := .int (nI gW)) (C := RX2) (T := TX2) (N := 13) hx hb hts inX2 hown hK hP 0 rfl rfl 0 (by decide) (hts _ tb_255) (fun _ h9 => h9) rfl dX2_writeBlock_121 ?_
                  refine xr_i (D := (dC, dI)) (wf := (mo_w o0 om ow os og z1 z2 z3 z4 gW gC gV gB)) (u0 := (mp, wa, sl, sg, hp, am, ar, dn, rd)) (wr := []) (va_runV (As := [.int (nI gW)]) (rest := []) ⟨hx, hb, hml, hown, hts⟩ (k_X2_spend l dC dI o0 om ow os og z1 z2 z3 z4 gW gC gV gB hg H.size mp wa sl sg hp am ar dn rd (nI gW)) (cwV 1 hts gX2_55 rfl rfl rfl (by decide +kernel) ⟨Nat.le_of_ble_eq_true rfl, Nat.le_of_ble_eq_true rfl⟩) (xp_v nwL_ok hK hN hP hD [0, 1, 2, 3, 4] rfl rfl (va_recv hK hP (ci := 2) (q0 := 0) rfl rfl)) rfl rfl hl.1 rfl (lv_room (Nat.le_of_ble_eq_true rfl)) dX2_writeBlock_124 ⟨Nat.zero_le _, Nat.zero_le _⟩) hP hD hS hA [0, 1, 2, 3, 4] [] rfl rfl (by decide) (by decide) (fun r_53 u_54 H locs hw hP hD hS => ?_)
                  obtain ⟨er_53, hw⟩ := hw
                  rw [er_53]
                  rw [hw] at hP hD
                  have hP : va_P (dC, dI) vwCl [(o0, .inr (2, [.int (nI gW), .int (nI gC), .int (nI gV), .int (nI gB), .ref om, .ref ow, .ref os, .ref og, .int (hp + m_many am (nI gW)), .int (m_left am (nI gW)), .int ar, .int (m_dn am (nI gW) dn), .int rd])), (om, .inl (z1, 24, .inl mp)), (ow, .inl (z2, 24, .inl wa)), (os, .inl (z3, 52, .inl sl)), (og, .inl (z4, 4, .inl sg))] H := hP
                  have hD : va_D A [(o0, .inr (2, [.int (nI gW), .int (nI gC), .int (nI gV), .int (nI gB), .ref om, .ref ow, .ref os, .ref og, .int (hp + m_many am (nI gW)), .int (m_left am (nI gW)), .int ar, .int (m_dn am (nI gW) dn), .int rd])), (om, .inl (z1, 24, .inl mp)), (ow, .inl (z2, 24, .inl wa)), (os, .inl (z3, 52, .inl sl)), (og, .inl (z4, 4, .inl sg))] := hD
                  obtain ⟨q, hq, eq9⟩ : ∃ q, q ≤ gW ∧ m_many am (nI gW) = nI q := m_many_nat ha ea (by omega)
                  refine lv_topi (fun z_55 ez_55 => ?_)
                  obtain rfl : z_55 = nI q := ez_55.trans (eq9)
                  refine lv_istore (lv' := [(6, .int (nI q)), (4, .int (nI k)), (5, .int (nI (usN mp 0 24 (gC + 1)) - 1)), (3, .int (nI (6 * v + b))), (0, .ref o0), (1, .int (nI v)), (2, .int (nI b))]) hx hb dX2_writeBlock_127 hl (by decide) rfl (fun ls hl => ?_)
                  refine lv_iconst (v := 0) hx hb dX2_writeBlock_129 (by decide) ?_
                  refine lv_istore (lv' := [(7, .int 0), (6, .int (nI q)), (4, .int (nI k)), (5, .int (nI (usN mp 0 24 (gC + 1)) - 1)), (3, .int (nI (6 * v + b))), (0, .ref o0), (1, .int (nI v)), (2, .int (nI b))]) hx hb dX2_writeBlock_130 hl (by decide) rfl (fun ls hl => ?_)
                  have hl : lv_has ls 8 [(7, .int (nI 0)), (6, .int (nI q)), (4, .int (nI k)), (3, .int (nI (6 * v + b))), (0, .ref o0)] := lv_sub hl [0, 1, 2, 4, 5] rfl
                  refine lp_X2_writeBlock_132 o0 om ow os og z1 z2 z3 z4 gW gC gV gB hg mp wa sl sg (hp + m_many am (nI gW)) (m_left am (nI gW)) ar (m_dn am (nI gW) dn) rd v b k q (by omega) hq hx hb hml hown hts hK hN hA (fun  H locs ls  hP hD hS hl => ?_) (gW + 1) 0 _ _ _ (by omega) (by omega) hP hD hS (lv_sub hl [4, 3, 2, 1, 0] rfl)
                  have hP : va_P (dC, dI) vwCl [(o0, .inr (2, [.int (nI gW), .int (nI gC), .int (nI gV), .int (nI gB), .ref om, .ref ow, .ref os, .ref og, .int (hp + m_many am (nI gW)), .int (m_left am (nI gW)), .int ar, .int (m_dn am (nI gW) dn), .int rd])), (om, .inl (z1, 24, .inl mp)), (ow, .inl (z2, 24, .inl wa)), (os, .inl (z3, 52, .inl (wrtN sl sg (4 * k) q))), (og, .inl (z4, 4, .inl sg))] H := hP
                  have hD : va_D A [(o0, .inr (2, [.int (nI gW), .int (nI gC), .int (nI gV), .int (nI gB), .ref om, .ref ow, .ref os, .ref og, .int (hp + m_many am (nI gW)), .int (m_left am (nI gW)), .int ar, .int (m_dn am (nI gW) dn), .int rd])), (om, .inl (z1, 24, .inl mp)), (ow, .inl (z2, 24, .inl wa)), (os, .inl (z3, 52, .inl (wrtN sl sg (4 * k) q))), (og, .inl (z4, 4, .inl sg))] := hD
                  refine lv_aload_n hx hb dX2_writeBlock_164 rfl (lv_at hl 0 rfl) ?_
                  refine va_get (D := (dC, dI)) (ci := 2) (v := .int (m_dn am (nI gW) dn)) (C := RX2) (T := TX2) (N := 13) hx hb hts inX2 hown hK hP 0 rfl rfl 11 (by decide) (hts _ tb_266) (fun _ h9 => h9) rfl dX2_writeBlock_165 ?_
                  refine lv_if_eq (tgt := 174) hx hb dX2_writeBlock_168 (by decide) (fun c_56 => ?_) (fun c_56 => ?_)
                  · refine lv_aload_n hx hb dX2_writeBlock_174 rfl (lv_at hl 0 rfl) ?_
                    refine xr_v (D := (dC, dI)) (wf := (mo_w o0 om ow os og z1 z2 z3 z4 gW gC gV gB)) (u0 := (mp, wa, wrtN sl sg (4 * k) q, sg, hp + m_many am (nI gW), m_left am (nI gW), ar, m_dn am (nI gW) dn, rd)) (wr := []) (va_runV (As := []) (rest := []) ⟨hx, hb, hml, hown, hts⟩ (k_X2_wantAsIs l dC dI o0 om ow os og z1 z2 z3 z4 gW gC gV gB hg H.size mp wa (wrtN sl sg (4 * k) q) sg (hp + m_many am (nI gW)) (m_left am (nI gW)) ar (m_dn am (nI gW) dn) rd ) (cwV 0 hts gX2_86 rfl rfl rfl (by decide +kernel) ⟨Nat.le_of_ble_eq_true rfl, Nat.le_of_ble_eq_true rfl⟩) (xp_v nwL_ok hK hN hP hD [0, 1, 2, 3, 4] rfl rfl (va_recv hK hP (ci := 2) (q0 := 0) rfl rfl)) rfl rfl hl.1 rfl (lv_room (Nat.le_of_ble_eq_true rfl)) dX2_writeBlock_175 ⟨Nat.zero_le _, Nat.zero_le _⟩) hP hD hS hA [0, 1, 2, 3, 4] [] rfl rfl (by decide) (by decide) (fun u_58 H locs hw hP hD hS => ?_)
                    rw [hw] at hP hD
                    have hP : va_P (dC, dI) vwCl [(o0, .inr (2, [.int (nI gW), .int (nI gC), .int (nI gV), .int (nI gB), .ref om, .ref ow, .ref os, .ref og, .int (hp + m_many am (nI gW)), .int (m_left am (nI gW)), .int ar, .int (m_dn am (nI gW) dn), .int rd])), (om, .inl (z1, 24, .inl mp)), (ow, .inl (z2, 24, .inl (cpyN wa mp 24))), (os, .inl (z3, 52, .inl (wrtN sl sg (4 * k) q))), (og, .inl (z4, 4, .inl sg))] H := hP
                    have hD : va_D A [(o0, .inr (2, [.int (nI gW), .int (nI gC), .int (nI gV), .int (nI gB), .ref om, .ref ow, .ref os, .ref og, .int (hp + m_many am (nI gW)), .int (m_left am (nI gW)), .int ar, .int (m_dn am (nI gW) dn), .int rd])), (om, .inl (z1, 24, .inl mp)), (ow, .inl (z2, 24, .inl (cpyN wa mp 24))), (os, .inl (z3, 52, .inl (wrtN sl sg (4 * k) q))), (og, .inl (z4, 4, .inl sg))] := hD
                    refine lv_aload_n hx hb dX2_writeBlock_178 rfl (lv_at hl 0 rfl) ?_
                    refine va_get (D := (dC, dI)) (ci := 2) (v := .ref ow) (C := RX2) (T := TX2) (N := 13) hx hb hts inX2 hown hK hP 0 rfl rfl 5 (by decide) (hts _ tb_260) (fun _ h9 => h9) rfl dX2_writeBlock_179 ?_
                    refine lv_iload_n hx hb dX2_writeBlock_182 rfl (lv_at hl 1 rfl) ?_
                    refine lv_iload hx hb dX2_writeBlock_183 (lv_at hl 2 rfl) ?_
                    refine lv_iconst (v := 1) hx hb dX2_writeBlock_185 (by decide) ?_
                    refine lv_iadd hx hb dX2_writeBlock_186 ?_
                    refine lv_topi (fun z_59 ez_59 => ?_)
                    obtain rfl : z_59 = nI (k + 1) := ez_59.trans (nI_1 k)
                    refine va_iast hx hb hK hP hD hS 2 1 rfl rfl (vp_in_nI (n := 6 * v + b) (by omega) (by omega)) dX2_writeBlock_187 (fun H locs hP hD hS => ?_)
                    have hP : va_P (dC, dI) vwCl [(o0, .inr (2, [.int (nI gW), .int (nI gC), .int (nI gV), .int (nI gB), .ref om, .ref ow, .ref os, .ref og, .int (hp + m_many am (nI gW)), .int (m_left am (nI gW)), .int ar, .int (m_dn am (nI gW) dn), .int rd])), (om, .inl (z1, 24, .inl mp)), (ow, .inl (z2, 24, .inl (upd (cpyN wa mp 24) (nI (6 * v + b)).toNatClampNeg (nI (k + 1))))), (os, .inl (z3, 52, .inl (wrtN sl sg (4 * k) q))), (og, .inl (z4, 4, .inl sg))] H := hP
                    have hD : va_D A [(o0, .inr (2, [.int (nI gW), .int (nI gC), .int (nI gV), .int (nI gB), .ref om, .ref ow, .ref os, .ref og, .int (hp + m_many am (nI gW)), .int (m_left am (nI gW)), .int ar, .int (m_dn am (nI gW) dn), .int rd])), (om, .inl (z1, 24, .inl mp)), (ow, .inl (z2, 24, .inl (upd (cpyN wa mp 24) (nI (6 * v + b)).toNatClampNeg (nI (k + 1))))), (os, .inl (z3, 52, .inl (wrtN sl sg (4 * k) q))), (og, .inl (z4, 4, .inl sg))] := hD
                    rw [nI_clamp (n := 6 * v + b) (by omega)] at hP hD
                    refine lv_aload_n hx hb dX2_writeBlock_188 rfl (lv_at hl 0 rfl) ?_
                    refine lv_iconst (v := 1) hx hb dX2_writeBlock_189 (by decide) ?_
                    refine xr_i (D := (dC, dI)) (wf := (mo_w o0 om ow os og z1 z2 z3 z4 gW gC gV gB)) (u0 := (mp, upd (cpyN wa mp 24) (6 * v + b) (nI (k + 1)), wrtN sl sg (4 * k) q, sg, hp + m_many am (nI gW), m_left am (nI gW), ar, m_dn am (nI gW) dn, rd)) (wr := []) (va_runV (As := [.int 1]) (rest := []) ⟨hx, hb, hml, hown, hts⟩ (k_X2_change l dC dI o0 om ow os og z1 z2 z3 z4 gW gC gV gB hg H.size mp (upd (cpyN wa mp 24) (6 * v + b) (nI (k + 1))) (wrtN sl sg (4 * k) q) sg (hp + m_many am (nI gW)) (m_left am (nI gW)) ar (m_dn am (nI gW) dn) rd 1) (cwV 1 hts gX2_89 rfl rfl rfl (by decide +kernel) ⟨Nat.le_of_ble_eq_true rfl, Nat.le_of_ble_eq_true rfl⟩) (xp_v nwL_ok hK hN hP hD [0, 1, 2, 3, 4] rfl rfl (va_recv hK hP (ci := 2) (q0 := 0) rfl rfl)) rfl rfl hl.1 rfl (lv_room (Nat.le_of_ble_eq_true rfl)) dX2_writeBlock_190 ⟨Nat.zero_le _, Nat.zero_le _⟩) hP hD hS hA [0, 1, 2, 3, 4] [] rfl rfl (by decide) (by decide) (fun r_60 u_61 H locs hw hP hD hS => ?_)
                    exact W.iret (v := r_60) hx hb hr (fun t ht hW => ⟨⟨r_60, u_61, rfl, Or.inr (Or.inr ⟨c_1, c_4, v, b, hv, hb9, ev, eb, Or.inr (Or.inr (Or.inr ⟨es, by unfold m_lft; rw [if_neg c_12, if_pos c_31]; exact c_50, k, by omega, hkj, hku, q, hq, eq9, Or.inr ⟨c_56, hw.1, hw.2⟩⟩))⟩), by rw [ht]; exact hP, hD⟩, hS.F ht⟩) hS.2.2 dX2_writeBlock_193
                  · refine lv_bipush (v := (-4)) hx hb dX2_writeBlock_171 (by decide) ?_
                    exact W.iret (v := (-4)) hx hb hr (fun t ht hW => ⟨⟨(-4), (mp, wa, wrtN sl sg (4 * k) q, sg, hp + m_many am (nI gW), m_left am (nI gW), ar, m_dn am (nI gW) dn, rd), rfl, Or.inr (Or.inr ⟨c_1, c_4, v, b, hv, hb9, ev, eb, Or.inr (Or.inr (Or.inr ⟨es, by unfold m_lft; rw [if_neg c_12, if_pos c_31]; exact c_50, k, by omega, hkj, hku, q, hq, eq9, Or.inl ⟨c_56, rfl, rfl⟩⟩))⟩), by rw [ht]; exact hP, hD⟩, hS.F ht⟩) hS.2.2 dX2_writeBlock_173
                · have c_50 : ¬ (usN mp 0 24 (gC + 1) ≤ gC) := fun q9 => c_50 ((nI_leI (a := usN mp 0 24 (gC + 1)) (b := gC) (by omega) (by omega)).mpr q9)
                  refine lv_bipush (v := (-2)) hx hb dX2_writeBlock_110 (by decide) ?_
                  exact W.iret (v := (-2)) hx hb hr (fun t ht hW => ⟨⟨(-2), (mp, wa, sl, sg, hp, am, ar, dn, rd), rfl, Or.inr (Or.inr ⟨c_1, c_4, v, b, hv, hb9, ev, eb, Or.inr (Or.inr (Or.inl ⟨es, by unfold m_lft; rw [if_neg c_12, if_pos c_31]; exact c_50, rfl, rfl⟩))⟩), by rw [ht]; exact hP, hD⟩, hS.F ht⟩) hS.2.2 dX2_writeBlock_112
        · exact absurd c_9 (by decide)
      · rw [es]
        refine lv_istore (lv' := [(4, .int (nI i)), (3, .int (nI (6 * v + b))), (0, .ref o0), (1, .int (nI v)), (2, .int (nI b))]) hx hb dX2_writeBlock_32 hl (by decide) rfl (fun ls hl => ?_)
        refine lv_iload hx hb dX2_writeBlock_34 (lv_at hl 0 rfl) ?_
        refine lv_if_lt (tgt := 54) hx hb dX2_writeBlock_36 (by decide) (fun c_62 => ?_) (fun c_62 => ?_)
        · have c_62 : i < 0 := (nI_ltI (a := i) (b := 0) (by omega) (by omega)).mp c_62
          exact absurd c_62 (by omega)
        · have c_62 : ¬ (i < 0) := fun q9 => c_62 ((nI_ltI (a := i) (b := 0) (by omega) (by omega)).mpr q9)
          refine lv_aload_n hx hb dX2_writeBlock_39 rfl (lv_at hl 2 rfl) ?_
          refine va_get (D := (dC, dI)) (ci := 2) (v := .ref om) (C := RX2) (T := TX2) (N := 13) hx hb hts inX2 hown hK hP 0 rfl rfl 4 (by decide) (hts _ tb_259) (fun _ h9 => h9) rfl dX2_writeBlock_40 ?_
          refine lv_iload_n hx hb dX2_writeBlock_43 rfl (lv_at hl 1 rfl) ?_
          refine va_iald hx hb hK hP 1 0 rfl rfl (vp_in_nI (n := 6 * v + b) (by omega) (by omega)) dX2_writeBlock_44 ?_
          refine lv_topi (fun z_63 ez_63 => ?_)
          obtain rfl : z_63 = mp (6 * v + b) := ez_63.trans (by rw [nI_clamp (n := 6 * v + b) (by omega)])
          refine lv_iload hx hb dX2_writeBlock_45 (lv_at hl 0 rfl) ?_
          refine lv_iconst (v := 1) hx hb dX2_writeBlock_47 (by decide) ?_
          refine lv_iadd hx hb dX2_writeBlock_48 ?_
          refine lv_topi (fun z_64 ez_64 => ?_)
          obtain rfl : z_64 = nI (i + 1) := ez_64.trans (nI_1 i)
          refine lv_icmp_ne (tgt := 54) hx hb dX2_writeBlock_49 (by decide) (fun c_65 => ?_) (fun c_65 => ?_)
          · refine lv_iload hx hb dX2_writeBlock_54 (lv_at hl 0 rfl) ?_
            refine lv_if_ge (tgt := 174) hx hb dX2_writeBlock_56 (by decide) (fun c_66 => ?_) (fun c_66 => ?_)
            · have c_66 : 0 ≤ i := (nI_leI (a := 0) (b := i) (by omega) (by omega)).mp c_66
              refine lv_aload_n hx hb dX2_writeBlock_174 rfl (lv_at hl 2 rfl) ?_
              refine xr_v (D := (dC, dI)) (wf := (mo_w o0 om ow os og z1 z2 z3 z4 gW gC gV gB)) (u0 := (mp, wa, sl, sg, hp, am, ar, dn, rd)) (wr := []) (va_runV (As := []) (rest := []) ⟨hx, hb, hml, hown, hts⟩ (k_X2_wantAsIs l dC dI o0 om ow os og z1 z2 z3 z4 gW gC gV gB hg H.size mp wa sl sg hp am ar dn rd ) (cwV 0 hts gX2_86 rfl rfl rfl (by decide +kernel) ⟨Nat.le_of_ble_eq_true rfl, Nat.le_of_ble_eq_true rfl⟩) (xp_v nwL_ok hK hN hP hD [0, 1, 2, 3, 4] rfl rfl (va_recv hK hP (ci := 2) (q0 := 0) rfl rfl)) rfl rfl hl.1 rfl (lv_room (Nat.le_of_ble_eq_true rfl)) dX2_writeBlock_175 ⟨Nat.zero_le _, Nat.zero_le _⟩) hP hD hS hA [0, 1, 2, 3, 4] [] rfl rfl (by decide) (by decide) (fun u_68 H locs hw hP hD hS => ?_)
              rw [hw] at hP hD
              have hP : va_P (dC, dI) vwCl [(o0, .inr (2, [.int (nI gW), .int (nI gC), .int (nI gV), .int (nI gB), .ref om, .ref ow, .ref os, .ref og, .int hp, .int am, .int ar, .int dn, .int rd])), (om, .inl (z1, 24, .inl mp)), (ow, .inl (z2, 24, .inl (cpyN wa mp 24))), (os, .inl (z3, 52, .inl sl)), (og, .inl (z4, 4, .inl sg))] H := hP
              have hD : va_D A [(o0, .inr (2, [.int (nI gW), .int (nI gC), .int (nI gV), .int (nI gB), .ref om, .ref ow, .ref os, .ref og, .int hp, .int am, .int ar, .int dn, .int rd])), (om, .inl (z1, 24, .inl mp)), (ow, .inl (z2, 24, .inl (cpyN wa mp 24))), (os, .inl (z3, 52, .inl sl)), (og, .inl (z4, 4, .inl sg))] := hD
              refine lv_aload_n hx hb dX2_writeBlock_178 rfl (lv_at hl 2 rfl) ?_
              refine va_get (D := (dC, dI)) (ci := 2) (v := .ref ow) (C := RX2) (T := TX2) (N := 13) hx hb hts inX2 hown hK hP 0 rfl rfl 5 (by decide) (hts _ tb_260) (fun _ h9 => h9) rfl dX2_writeBlock_179 ?_
              refine lv_iload_n hx hb dX2_writeBlock_182 rfl (lv_at hl 1 rfl) ?_
              refine lv_iload hx hb dX2_writeBlock_183 (lv_at hl 0 rfl) ?_
              refine lv_iconst (v := 1) hx hb dX2_writeBlock_185 (by decide) ?_
              refine lv_iadd hx hb dX2_writeBlock_186 ?_
              refine lv_topi (fun z_69 ez_69 => ?_)
              obtain rfl : z_69 = nI (i + 1) := ez_69.trans (nI_1 i)
              refine va_iast hx hb hK hP hD hS 2 1 rfl rfl (vp_in_nI (n := 6 * v + b) (by omega) (by omega)) dX2_writeBlock_187 (fun H locs hP hD hS => ?_)
              have hP : va_P (dC, dI) vwCl [(o0, .inr (2, [.int (nI gW), .int (nI gC), .int (nI gV), .int (nI gB), .ref om, .ref ow, .ref os, .ref og, .int hp, .int am, .int ar, .int dn, .int rd])), (om, .inl (z1, 24, .inl mp)), (ow, .inl (z2, 24, .inl (upd (cpyN wa mp 24) (nI (6 * v + b)).toNatClampNeg (nI (i + 1))))), (os, .inl (z3, 52, .inl sl)), (og, .inl (z4, 4, .inl sg))] H := hP
              have hD : va_D A [(o0, .inr (2, [.int (nI gW), .int (nI gC), .int (nI gV), .int (nI gB), .ref om, .ref ow, .ref os, .ref og, .int hp, .int am, .int ar, .int dn, .int rd])), (om, .inl (z1, 24, .inl mp)), (ow, .inl (z2, 24, .inl (upd (cpyN wa mp 24) (nI (6 * v + b)).toNatClampNeg (nI (i + 1))))), (os, .inl (z3, 52, .inl sl)), (og, .inl (z4, 4, .inl sg))] := hD
              rw [nI_clamp (n := 6 * v + b) (by omega)] at hP hD
              refine lv_aload_n hx hb dX2_writeBlock_188 rfl (lv_at hl 2 rfl) ?_
              refine lv_iconst (v := 1) hx hb dX2_writeBlock_189 (by decide) ?_
              refine xr_i (D := (dC, dI)) (wf := (mo_w o0 om ow os og z1 z2 z3 z4 gW gC gV gB)) (u0 := (mp, upd (cpyN wa mp 24) (6 * v + b) (nI (i + 1)), sl, sg, hp, am, ar, dn, rd)) (wr := []) (va_runV (As := [.int 1]) (rest := []) ⟨hx, hb, hml, hown, hts⟩ (k_X2_change l dC dI o0 om ow os og z1 z2 z3 z4 gW gC gV gB hg H.size mp (upd (cpyN wa mp 24) (6 * v + b) (nI (i + 1))) sl sg hp am ar dn rd 1) (cwV 1 hts gX2_89 rfl rfl rfl (by decide +kernel) ⟨Nat.le_of_ble_eq_true rfl, Nat.le_of_ble_eq_true rfl⟩) (xp_v nwL_ok hK hN hP hD [0, 1, 2, 3, 4] rfl rfl (va_recv hK hP (ci := 2) (q0 := 0) rfl rfl)) rfl rfl hl.1 rfl (lv_room (Nat.le_of_ble_eq_true rfl)) dX2_writeBlock_190 ⟨Nat.zero_le _, Nat.zero_le _⟩) hP hD hS hA [0, 1, 2, 3, 4] [] rfl rfl (by decide) (by decide) (fun r_70 u_71 H locs hw hP hD hS => ?_)
              exact W.iret (v := r_70) hx hb hr (fun t ht hW => ⟨⟨r_70, u_71, rfl, Or.inr (Or.inr ⟨c_1, c_4, v, b, hv, hb9, ev, eb, Or.inr (Or.inl ⟨i, by omega, es, c_65, hw.1, hw.2⟩)⟩), by rw [ht]; exact hP, hD⟩, hS.F ht⟩) hS.2.2 dX2_writeBlock_193
            · have c_66 : ¬ (0 ≤ i) := fun q9 => c_66 ((nI_leI (a := 0) (b := i) (by omega) (by omega)).mpr q9)
              exact absurd c_66 (by omega)
          · refine lv_iconst (v := 0) hx hb dX2_writeBlock_52 (by decide) ?_
            exact W.iret (v := 0) hx hb hr (fun t ht hW => ⟨⟨0, (mp, wa, sl, sg, hp, am, ar, dn, rd), rfl, Or.inr (Or.inr ⟨c_1, c_4, v, b, hv, hb9, ev, eb, Or.inl ⟨i, by omega, es, c_65, rfl, rfl⟩⟩), by rw [ht]; exact hP, hD⟩, hS.F ht⟩) hS.2.2 dX2_writeBlock_53
    · refine lv_iconst (v := (-1)) hx hb dX2_writeBlock_19 (by decide) ?_
      exact W.iret (v := (-1)) hx hb hr (fun t ht hW => ⟨⟨(-1), (mp, wa, sl, sg, hp, am, ar, dn, rd), rfl, Or.inr (Or.inl ⟨c_1, c_4, rfl, rfl⟩), by rw [ht]; exact hP, hD⟩, hS.F ht⟩) hS.2.2 dX2_writeBlock_20
  · refine lv_bipush (v := (-4)) hx hb dX2_writeBlock_7 (by decide) ?_
    exact W.iret (v := (-4)) hx hb hr (fun t ht hW => ⟨⟨(-4), (mp, wa, sl, sg, hp, am, ar, dn, rd), rfl, Or.inl ⟨c_1, rfl, rfl⟩, by rw [ht]; exact hP, hD⟩, hS.F ht⟩) hS.2.2 dX2_writeBlock_9
