set_option maxHeartbeats 4000000 in
set_option maxRecDepth 100000 in
theorem k_X0_within (l : Launch) (sz : Nat) (a b : Int32) : ctE l yX0_within wsX0_within ({ frames := 1, cells := 0, slots := 0, locals := 16 } : Room) sz [.int a, .int b] (fun r => r = winF a b) := by
  refine Met.ofW (cc := cX0_within) (maxL := 2) (ret := (some .int)) (by decide) rfl ?_
  intro p e s m args below meth c s₁ B hml hv
  obtain ⟨rfl, hsz⟩ := hv
  have hx := B.exec
  have hb := B.bytes
  have hr := B.returns
  have hts := fun w h => atoms_spec (ws := wsX0_within) B.pre w (List.mem_cons_of_mem _ h)
  have hown : s.vm.findClass RX0 = some m.cls := findClass_of_methodNamed B.named
  have hS : va_S (va_A [] sz) s.heap s.heap [] := va_S.rf
  have hl := lv_entry ([.int a, .int b]) (n := 2) (Nat.le_of_ble_eq_true rfl)
  rw [lg_entry_eq]
  generalize (lg_sl ([.int a, .int b]) ++ List.replicate (2 - (lg_sl ([.int a, .int b])).length) Slot.unset).toArray = ls at hl ⊢
  have hl : lv_has ls 2 [(0, .int a), (1, .int b)] := hl
  refine lv_iconst (v := 1) hx hb dX0_within_0 (by decide) ?_
  refine lv_iload_n hx hb dX0_within_1 rfl (lv_at hl 0 rfl) ?_
  refine lv_iload_n hx hb dX0_within_2 rfl (lv_at hl 1 rfl) ?_
  refine va_mmin hx hb (hml.trans hl.1.symm) hown (hts _ tb_17) (hts _ tb_18) (hts _ tb_2) (hts _ tb_19) (Nat.le_of_ble_eq_true rfl) (Nat.le_of_ble_eq_true rfl) (Nat.zero_le _) (Nat.zero_le _) dX0_within_3 ?_
  refine va_mmax hx hb (hml.trans hl.1.symm) hown (hts _ tb_20) (hts _ tb_21) (hts _ tb_2) (hts _ tb_22) (Nat.le_of_ble_eq_true rfl) (Nat.le_of_ble_eq_true rfl) (Nat.zero_le _) (Nat.zero_le _) dX0_within_6 ?_
  exact W.iret (v := (if 1 < (if b < a then b else a) then (if b < a then b else a) else 1)) hx hb hr (fun t ht hW => ⟨⟨(if 1 < (if b < a then b else a) then (if b < a then b else a) else 1), (), rfl, rfl, trivial⟩, hS.F ht⟩) hS.2.2 dX0_within_9
set_option maxHeartbeats 4000000 in
set_option maxRecDepth 100000 in
theorem k_X2_cut (l : Launch) (sz : Nat) (a b : Int32) : ctE l yX2_cut wsX2_cut ({ frames := 0, cells := 0, slots := 0, locals := 0 } : Room) sz [.int a, .int b] (fun r => r = cutF a b) := by
  refine Met.ofW (cc := cX2_cut) (maxL := 2) (ret := (some .int)) (by decide) rfl ?_
  intro p e s m args below meth c s₁ B hml hv
  obtain ⟨rfl, hsz⟩ := hv
  have hx := B.exec
  have hb := B.bytes
  have hr := B.returns
  have hts := fun w h => atoms_spec (ws := wsX2_cut) B.pre w (List.mem_cons_of_mem _ h)
  have hown : s.vm.findClass RX2 = some m.cls := findClass_of_methodNamed B.named
  have hS : va_S (va_A [] sz) s.heap s.heap [] := va_S.rf
  have hl := lv_entry ([.int a, .int b]) (n := 2) (Nat.le_of_ble_eq_true rfl)
  rw [lg_entry_eq]
  generalize (lg_sl ([.int a, .int b]) ++ List.replicate (2 - (lg_sl ([.int a, .int b])).length) Slot.unset).toArray = ls at hl ⊢
  have hl : lv_has ls 2 [(0, .int a), (1, .int b)] := hl
  refine lv_iload_n hx hb dX2_cut_0 rfl (lv_at hl 0 rfl) ?_
  refine lv_iconst (v := 1) hx hb dX2_cut_1 (by decide) ?_
  refine lv_icmp_ge (tgt := 9) hx hb dX2_cut_2 (by decide) (fun c_1 => ?_) (fun c_1 => ?_)
  · refine lv_iload_n hx hb dX2_cut_9 rfl (lv_at hl 0 rfl) ?_
    refine lv_iload_n hx hb dX2_cut_10 rfl (lv_at hl 1 rfl) ?_
    refine lv_icmp_le (tgt := 18) hx hb dX2_cut_11 (by decide) (fun c_2 => ?_) (fun c_2 => ?_)
    · refine lv_iload_n hx hb dX2_cut_18 rfl (lv_at hl 0 rfl) ?_
      exact W.iret (v := a) hx hb hr (fun t ht hW => ⟨⟨a, (), rfl, by unfold cutF; rw [if_pos c_1, if_pos c_2], trivial⟩, hS.F ht⟩) hS.2.2 dX2_cut_19
    · refine lv_iload_n hx hb dX2_cut_14 rfl (lv_at hl 1 rfl) ?_
      refine lv_goto (tgt := 19) hx hb dX2_cut_15 (by decide) ?_
      exact W.iret (v := b) hx hb hr (fun t ht hW => ⟨⟨b, (), rfl, by unfold cutF; rw [if_pos c_1, if_neg c_2], trivial⟩, hS.F ht⟩) hS.2.2 dX2_cut_19
  · refine lv_iconst (v := 1) hx hb dX2_cut_5 (by decide) ?_
    refine lv_goto (tgt := 19) hx hb dX2_cut_6 (by decide) ?_
    exact W.iret (v := 1) hx hb hr (fun t ht hW => ⟨⟨1, (), rfl, by unfold cutF; rw [if_neg c_1], trivial⟩, hS.F ht⟩) hS.2.2 dX2_cut_19
set_option maxHeartbeats 4000000 in
set_option maxRecDepth 100000 in
theorem k_L_cell (l : Launch) (b L : Nat) (xs : Nat → Int32) (hL : L < 100000) (sz k : Nat) (hk : k < 10) : Met l yL_cell wsL_cell ({ frames := 0, cells := 0, slots := 0, locals := 0 } : Room) (pcC b L xs sz (nI k)) (va_Qi (fun r (_ : Unit) => r = celF xs L k) (fun _ _ => True) (va_A [] sz)) 0 0 (va_A [] sz) := by
  refine Met.ofW (cc := cL_cell) (maxL := 2) (ret := (some .int)) (by decide) rfl ?_
  intro p e s m args below meth c s₁ B hml hv
  obtain ⟨rfl, hsz, hX, hbl⟩ := hv
  have hx := B.exec
  have hb := B.bytes
  have hr := B.returns
  have hts := fun w h => atoms_spec (ws := wsL_cell) B.pre w (List.mem_cons_of_mem _ h)
  have hown : s.vm.findClass RL = some m.cls := findClass_of_methodNamed B.named
  have hS : va_S (va_A [] sz) s.heap s.heap [] := va_S.rf
  have hl := lv_entry ([.ref b, .int (nI k)]) (n := 2) (Nat.le_of_ble_eq_true rfl)
  rw [lg_entry_eq]
  generalize (lg_sl ([.ref b, .int (nI k)]) ++ List.replicate (2 - (lg_sl ([.ref b, .int (nI k)])).length) Slot.unset).toArray = ls at hl ⊢
  have hl : lv_has ls 2 [(0, .ref b), (1, .int (nI k))] := hl
  subst hsz
  have hbA : ¬ va_A [] s.heap.size b := fun z => by
    rcases z with ⟨k2, e2, z⟩ | z
    · simp at z
    · omega
  refine lv_iload_n hx hb dL_cell_0 rfl (lv_at hl 1 rfl) ?_
  refine lv_aload_n hx hb dL_cell_1 rfl (lv_at hl 0 rfl) ?_
  refine va_slen hx hb hX hbl hbA hS dL_cell_2 ?_
  refine lv_icmp_ge (tgt := 12) hx hb dL_cell_3 (by decide) (fun c_1 => ?_) (fun c_1 => ?_)
  · have c_1 : L ≤ k := (nI_leI (a := L) (b := k) (by omega) (by omega)).mp c_1
    refine lv_iconst (v := 0) hx hb dL_cell_12 (by decide) ?_
    exact W.iret (v := 0) hx hb hr (fun t ht hW => ⟨⟨0, (), rfl, by unfold celF; rw [if_pos c_1], trivial⟩, hS.F ht⟩) hS.2.2 dL_cell_13
  · have c_1 : ¬ (L ≤ k) := fun q9 => c_1 ((nI_leI (a := L) (b := k) (by omega) (by omega)).mpr q9)
    refine lv_aload_n hx hb dL_cell_6 rfl (lv_at hl 0 rfl) ?_
    refine lv_iload_n hx hb dL_cell_7 rfl (lv_at hl 1 rfl) ?_
    refine va_sld hx hb hX hbl hbA hS (vp_in_nI (n := k) (by omega) (by omega)) dL_cell_8 ?_
    refine lv_topi (fun z_2 ez_2 => ?_)
    obtain rfl : z_2 = xs k := ez_2.trans (by rw [nI_clamp (n := k) (by omega)])
    refine lv_goto (tgt := 13) hx hb dL_cell_9 (by decide) ?_
    exact W.iret (v := xs k) hx hb hr (fun t ht hW => ⟨⟨xs k, (), rfl, by unfold celF; rw [if_neg c_1], trivial⟩, hS.F ht⟩) hS.2.2 dL_cell_13
