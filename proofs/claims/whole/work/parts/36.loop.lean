set_option maxHeartbeats 4000000 in
set_option maxRecDepth 100000 in
theorem law_loop {p : Program} {l : Launch} {e : Env} {s : State} {m : MethodId} {below : List Frame} {meth : Method} {c : Code} {dC : Nat → ClassId} {dI : Nat → Nat → Nat} {b L : Nat} {xs : Nat → Int32} (h0 hs hd hc : Nat) (a1 a2 : ClassId) (o0 om ow os og : Nat) (z1 z2 z3 z4 : ClassId) (gW gC gV gB gM gI : Nat) (hg : geo gW gC gV gB gM gI) (hL : L ≤ 2052) (C0 : lw_At p s m meth c b L xs) (hK : va_K (dC, dI) vwCl [(a1, .int), (a2, .int), (z1, .int), (z2, .int), (z3, .int), (z4, .int)] s) (hN : nwOk nwL s) : ∀ (n i : Nat) (st : Nat → Int32) (d : DS) (x : MS) (H : Heap) (locs : List Loc) (ls : Array Slot), i ≤ L + 4 → L + 4 - i < n → Rel gW gC gV gB gM gI st d x → va_P (dC, dI) vwCl (bo_w h0 hs hd hc a1 a2 o0 om ow os og z1 z2 z3 z4 gW gC gV gB gM gI (st, d) x) H → va_D (fun q : Nat => s.heap.size ≤ q) (bo_w h0 hs hd hc a1 a2 o0 om ow os og z1 z2 z3 z4 gW gC gV gB gM gI (st, d) x) → va_S (fun q : Nat => s.heap.size ≤ q) s.heap H locs → lv_has ls 4 [(0, .ref b), (1, .ref h0), (2, .ref o0), (3, .int (nI i))] → W p l e room_1 s m #[Value.ref b] below meth c H locs 9 300 (lw_Z below #[Value.ref b] s) (F0 m 58 ls []) := by
  obtain ⟨hx, hb, hr, hml, hown, hts0, hX, hbl, hlocks, hgv⟩ := id C0
  have hbA : ¬ (fun q : Nat => s.heap.size ≤ q) b := Nat.not_le.mpr hbl
  intro n
  induction n with
  | zero => intro i st d x H locs ls h1 h2; exact absurd h2 (by omega)
  | succ n ih =>
    intro i st d x H locs ls hi hfu R hP hD hS hl
    refine lv_iload_n hx hb dL_law_58 rfl (lv_at hl 3 rfl) ?_
    refine lv_aload_n hx hb dL_law_59 rfl (lv_at hl 0 rfl) ?_
    refine va_slen hx hb hX hbl hbA hS dL_law_60 ?_
    refine lv_iconst (v := 4) hx hb dL_law_61 (by decide) ?_
    refine lv_isub hx hb dL_law_62 ?_
    refine lv_icmp_gt (tgt := 537) hx hb dL_law_63 (by decide) (fun c_1 => ?_) (fun c_1 => ?_)
    · refine lv_iconst (v := 1) hx hb dL_law_537 (by decide) ?_
      refine va_forget (fun q hq => hS.2.2 q hq) ?_
      refine W.widen (k := 600000) (n := 7302250) (Nat.le_of_ble_eq_true rfl) (Nat.le_of_ble_eq_true rfl) ?_
      exact lw_ret hx hb hr hlocks dL_law_538
    · have hi4 : i + 4 ≤ L := nI_room (by omega) (by omega) c_1
      have K : ∀ (st : Nat → Int32) (d : DS) (x : MS) (H : Heap) (locs : List Loc) (ls : Array Slot), Rel gW gC gV gB gM gI st d x → va_P (dC, dI) vwCl (bo_w h0 hs hd hc a1 a2 o0 om ow os og z1 z2 z3 z4 gW gC gV gB gM gI (st, d) x) H → va_D (fun q : Nat => s.heap.size ≤ q) (bo_w h0 hs hd hc a1 a2 o0 om ow os og z1 z2 z3 z4 gW gC gV gB gM gI (st, d) x) → va_S (fun q : Nat => s.heap.size ≤ q) s.heap H locs → lv_has ls 4 [(0, .ref b), (1, .ref h0), (2, .ref o0), (3, .int (nI i))] → W p l e room_1 s m #[Value.ref b] below meth c H locs 9 300 (lw_Z below #[Value.ref b] s) (F0 m 531 ls []) := by
        intro st d x H locs ls R hP hD hS hl
        refine lv_iinc (v := nI (i + 4)) (lv' := [(3, .int (nI (i + 4))), (0, .ref b), (1, .ref h0), (2, .ref o0)]) hx hb dL_law_531 hl (k := 3) rfl (nI_add i 4) (by decide) rfl (fun ls hl => ?_)
        refine lv_goto (tgt := 58) hx hb dL_law_534 (by decide) ?_
        exact ih (i + 4) st d x _ _ _ (by omega) (by omega) R hP hD hS (lv_sub hl [1, 2, 3, 0] rfl)
      refine lv_aload_n hx hb dL_law_66 rfl (lv_at hl 0 rfl) ?_
      refine lv_iload_n hx hb dL_law_67 rfl (lv_at hl 3 rfl) ?_
      refine va_sld hx hb hX hbl hbA hS (vp_in_nI (n := i) (by omega) (by omega)) dL_law_68 ?_
      refine lv_topi (fun z_2 ez_2 => ?_)
      obtain rfl : z_2 = xs i := ez_2.trans (by rw [nI_clamp (n := i) (by omega)])
      refine lv_bipush (v := 15) hx hb dL_law_69 (by decide) ?_
      refine lv_iand hx hb dL_law_71 ?_
      obtain ⟨j, hj, ej⟩ := pk_andE (xs i) (m := 15) 4 (by decide)
      refine lv_topi (fun z_3 ez_3 => ?_)
      obtain rfl : z_3 = nI j := ez_3.trans (ej)
      rcases (show j = 0 ∨ j = 1 ∨ j = 2 ∨ j = 3 ∨ j = 4 ∨ j = 5 ∨ j = 6 ∨ j = 7 ∨ j = 8 ∨ j = 9 ∨ j = 10 ∨ j = 11 ∨ j = 12 ∨ j = 13 ∨ j = 14 ∨ j = 15 by omega) with rfl | rfl | rfl | rfl | rfl | rfl | rfl | rfl | rfl | rfl | rfl | rfl | rfl | rfl | rfl | rfl
      · refine lv_tableIn (off := 76) (tgt := 148) hx hb dL_law_72 (by decide) (by decide) (by decide) (by decide) ?_
        exact lc_format h0 hs hd hc a1 a2 o0 om ow os og z1 z2 z3 z4 gW gC gV gB gM gI hg C0 hK hN st d x R i hi4 hL K _ _ _ hP hD hS (lv_sub hl [0, 1, 2, 3] rfl)
      · refine lv_tableIn (off := 89) (tgt := 161) hx hb dL_law_72 (by decide) (by decide) (by decide) (by decide) ?_
        exact lc_stageWord h0 hs hd hc a1 a2 o0 om ow os og z1 z2 z3 z4 gW gC gV gB gM gI hg C0 hK hN st d x R i hi4 hL K _ _ _ hP hD hS (lv_sub hl [0, 1, 2, 3] rfl)
      · refine lv_tableIn (off := 122) (tgt := 194) hx hb dL_law_72 (by decide) (by decide) (by decide) (by decide) ?_
        exact lc_writeBlock h0 hs hd hc a1 a2 o0 om ow os og z1 z2 z3 z4 gW gC gV gB gM gI hg C0 hK hN st d x R i hi4 hL K _ _ _ hP hD hS (lv_sub hl [0, 1, 2, 3] rfl)
      · refine lv_tableIn (off := 155) (tgt := 227) hx hb dL_law_72 (by decide) (by decide) (by decide) (by decide) ?_
        exact lc_readWord h0 hs hd hc a1 a2 o0 om ow os og z1 z2 z3 z4 gW gC gV gB gM gI hg C0 hK hN st d x R i hi4 hL K _ _ _ hP hD hS (lv_sub hl [0, 1, 2, 3] rfl)
      · refine lv_tableIn (off := 198) (tgt := 270) hx hb dL_law_72 (by decide) (by decide) (by decide) (by decide) ?_
        exact lc_trim h0 hs hd hc a1 a2 o0 om ow os og z1 z2 z3 z4 gW gC gV gB gM gI hg C0 hK hN st d x R i hi4 hL K _ _ _ hP hD hS (lv_sub hl [0, 1, 2, 3] rfl)
      · refine lv_tableIn (off := 231) (tgt := 303) hx hb dL_law_72 (by decide) (by decide) (by decide) (by decide) ?_
        exact lc_cloneVol h0 hs hd hc a1 a2 o0 om ow os og z1 z2 z3 z4 gW gC gV gB gM gI hg C0 hK hN st d x R i hi4 hL K _ _ _ hP hD hS (lv_sub hl [0, 1, 2, 3] rfl)
      · refine lv_tableIn (off := 264) (tgt := 336) hx hb dL_law_72 (by decide) (by decide) (by decide) (by decide) ?_
        exact lc_dropVol h0 hs hd hc a1 a2 o0 om ow os og z1 z2 z3 z4 gW gC gV gB gM gI hg C0 hK hN st d x R i hi4 hL K _ _ _ hP hD hS (lv_sub hl [0, 1, 2, 3] rfl)
      · refine lv_tableIn (off := 287) (tgt := 359) hx hb dL_law_72 (by decide) (by decide) (by decide) (by decide) ?_
        exact lc_chunksUsed h0 hs hd hc a1 a2 o0 om ow os og z1 z2 z3 z4 gW gC gV gB gM gI hg C0 hK hN st d x R i hi4 hL K _ _ _ hP hD hS (lv_sub hl [0, 1, 2, 3] rfl)
      · refine lv_tableIn (off := 300) (tgt := 372) hx hb dL_law_72 (by decide) (by decide) (by decide) (by decide) ?_
        exact lc_refsOf h0 hs hd hc a1 a2 o0 om ow os og z1 z2 z3 z4 gW gC gV gB gM gI hg C0 hK hN st d x R i hi4 hL K _ _ _ hP hD hS (lv_sub hl [0, 1, 2, 3] rfl)
      · refine lv_tableIn (off := 333) (tgt := 405) hx hb dL_law_72 (by decide) (by decide) (by decide) (by decide) ?_
        exact lc_slotOf h0 hs hd hc a1 a2 o0 om ow os og z1 z2 z3 z4 gW gC gV gB gM gI hg C0 hK hN st d x R i hi4 hL K _ _ _ hP hD hS (lv_sub hl [0, 1, 2, 3] rfl)
      · refine lv_tableIn (off := 366) (tgt := 438) hx hb dL_law_72 (by decide) (by decide) (by decide) (by decide) ?_
        exact lc_slotWord h0 hs hd hc a1 a2 o0 om ow os og z1 z2 z3 z4 gW gC gV gB gM gI hg C0 hK hN st d x R i hi4 hL K _ _ _ hP hD hS (lv_sub hl [0, 1, 2, 3] rfl)
      · refine lv_tableIn (off := 399) (tgt := 471) hx hb dL_law_72 (by decide) (by decide) (by decide) (by decide) ?_
        exact lc_crashAfter h0 hs hd hc a1 a2 o0 om ow os og z1 z2 z3 z4 gW gC gV gB gM gI hg C0 hK hN st d x R i hi4 hL K _ _ _ hP hD hS (lv_sub hl [0, 1, 2, 3] rfl)
      · refine lv_tableIn (off := 420) (tgt := 492) hx hb dL_law_72 (by decide) (by decide) (by decide) (by decide) ?_
        exact lc_down h0 hs hd hc a1 a2 o0 om ow os og z1 z2 z3 z4 gW gC gV gB gM gI hg C0 hK hN st d x R i hi4 hL K _ _ _ hP hD hS (lv_sub hl [0, 1, 2, 3] rfl)
      · refine lv_tableIn (off := 433) (tgt := 505) hx hb dL_law_72 (by decide) (by decide) (by decide) (by decide) ?_
        exact lc_recover h0 hs hd hc a1 a2 o0 om ow os og z1 z2 z3 z4 gW gC gV gB gM gI hg C0 hK hN st d x R i hi4 hL K _ _ _ hP hD hS (lv_sub hl [0, 1, 2, 3] rfl)
      · refine lv_tableIn (off := 446) (tgt := 518) hx hb dL_law_72 (by decide) (by decide) (by decide) (by decide) ?_
        exact lc_writes h0 hs hd hc a1 a2 o0 om ow os og z1 z2 z3 z4 gW gC gV gB gM gI hg C0 hK hN st d x R i hi4 hL K _ _ _ hP hD hS (lv_sub hl [0, 1, 2, 3] rfl)
      · refine lv_tableOut (tgt := 531) hx hb dL_law_72 (Or.inr (by decide)) (by decide) ?_
        exact K st d x _ _ _ R hP hD hS (lv_sub hl [0, 1, 2, 3] rfl)
