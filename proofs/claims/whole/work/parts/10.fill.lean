set_option maxHeartbeats 4000000 in
set_option maxRecDepth 100000 in
theorem lp_J0_fill_5 {p : Program} {l : Launch} {e : Env} {s : State} {m : MethodId} {args : Array Value} {below : List Frame} {meth : Method} {c : Code} {Q : State → Prop} {A : Nat → Prop} {dC : Nat → ClassId} {dI : Nat → Nat → Nat} (ha : Nat) (cA : ClassId) (n : Nat) (hn : n < 2 ^ 31) (f : Nat → Int32) (v : Int32) (hx : p.tables.exec = Jvm.exec) (hb : c.code = cJ0_fill) (hK : va_K (dC, dI) vwCl [(cA, .int)] s) (K : ∀ (H : Heap) (locs : List Loc) (ls : Array Slot), va_P (dC, dI) vwCl (ar_w ha cA n (fillN f n v)) H → va_D A (ar_w ha cA n (fillN f n v)) → va_S A s.heap H locs → lv_has ls 4 [(0, .ref ha)] → W p l e ({ frames := 0, cells := 0, slots := 0, locals := 0 } : Room) s m args below meth c H locs 0 0 Q (F0 m 20 ls [])) : ∀ (g i : Nat) (H : Heap) (locs : List Loc) (ls : Array Slot), n - i < g → i ≤ n → va_P (dC, dI) vwCl (ar_w ha cA n (fillN f i v)) H → va_D A (ar_w ha cA n (fillN f i v)) → va_S A s.heap H locs → lv_has ls 4 [(0, .ref ha), (1, .int v), (2, .int (nI i)), (3, .int (nI n))] → W p l e ({ frames := 0, cells := 0, slots := 0, locals := 0 } : Room) s m args below meth c H locs 0 0 Q (F0 m 5 ls []) := by
  intro g
  induction g with
  | zero => intro i H locs ls hfu; exact absurd hfu (by omega)
  | succ g ih =>
    intro i H locs ls hfu hi hP hD hS hl
    have hP : va_P (dC, dI) vwCl [(ha, .inl (cA, n, .inl (fillN f i v)))] H := hP
    have hD : va_D A [(ha, .inl (cA, n, .inl (fillN f i v)))] := hD
    refine lv_iload_n hx hb dJ0_fill_5 rfl (lv_at hl 2 rfl) ?_
    refine lv_iload_n hx hb dJ0_fill_6 rfl (lv_at hl 3 rfl) ?_
    refine lv_icmp_ge (tgt := 20) hx hb dJ0_fill_7 (by decide) (fun c_1 => ?_) (fun c_1 => ?_)
    · have c_1 : n ≤ i := (nI_leI (a := n) (b := i) (by omega) (by omega)).mp c_1
      have hie : i = n := by omega
      rw [hie] at hP hD
      exact K _ _ _ hP hD hS (lv_sub hl [0] rfl)
    · have c_1 : ¬ (n ≤ i) := fun q9 => c_1 ((nI_leI (a := n) (b := i) (by omega) (by omega)).mpr q9)
      refine lv_aload_n hx hb dJ0_fill_10 rfl (lv_at hl 0 rfl) ?_
      refine lv_iload_n hx hb dJ0_fill_11 rfl (lv_at hl 2 rfl) ?_
      refine lv_iload_n hx hb dJ0_fill_12 rfl (lv_at hl 1 rfl) ?_
      refine va_iast hx hb hK hP hD hS 0 0 rfl rfl (vp_in_nI (n := i) (by omega) (by omega)) dJ0_fill_13 (fun H locs hP hD hS => ?_)
      have hP : va_P (dC, dI) vwCl [(ha, .inl (cA, n, .inl (upd (fillN f i v) (nI i).toNatClampNeg v)))] H := hP
      have hD : va_D A [(ha, .inl (cA, n, .inl (upd (fillN f i v) (nI i).toNatClampNeg v)))] := hD
      rw [nI_clamp (n := i) (by omega)] at hP hD
      refine lv_iinc (v := nI (i + 1)) (lv' := [(2, .int (nI (i + 1))), (0, .ref ha), (1, .int v), (3, .int (nI n))]) hx hb dJ0_fill_14 hl (k := 2) rfl (nI_1 i) (by decide) rfl (fun ls hl => ?_)
      rw [fillN_s] at hP hD
      refine lv_goto (tgt := 5) hx hb dJ0_fill_17 (by decide) ?_
      exact ih (i + 1) _ _ _ (by omega) (by omega) hP hD hS (lv_sub hl [1, 2, 0, 3] rfl)
set_option maxHeartbeats 4000000 in
set_option maxRecDepth 100000 in
theorem k_J0_fill (l : Launch) (dC : Nat → ClassId) (dI : Nat → Nat → Nat) (ha : Nat) (cA : ClassId) (n : Nat) (hn : n < 2 ^ 31) (sz : Nat) (f : Nat → Int32) (v : Int32) : ctV nwL l yJ0_fill wsJ0_fill ({ frames := 0, cells := 0, slots := 0, locals := 0 } : Room) (dC, dI) [(cA, .int)] (ar_w ha cA n) f sz [.ref ha, .int v] (fun u => u = fillN f n v) := by
  refine Met.ofW (cc := cJ0_fill) (maxL := 4) (ret := none) (by decide) rfl ?_
  intro p e s m args below meth c s₁ B hml hv
  obtain ⟨rfl, hsz, hP, hK, hD0, hN⟩ := hv
  have hx := B.exec
  have hb := B.bytes
  have hr := B.returns
  have hts := fun w h => atoms_spec (ws := wsJ0_fill) B.pre w (List.mem_cons_of_mem _ h)
  have hlocks := B.notSynchronized
  subst hsz
  have hD := hD0.self (sz := s.heap.size)
  generalize hAe : va_A (ar_w ha cA n f) s.heap.size = A at hD ⊢
  have hA : ∀ q : Nat, s.heap.size ≤ q → A q := fun q h => by rw [← hAe]; exact Or.inr h
  have hS : va_S A s.heap s.heap [] := va_S.rf
  have hl := lv_entry ([.ref ha, .int v]) (n := 4) (Nat.le_of_ble_eq_true rfl)
  rw [lg_entry_eq]
  generalize (lg_sl ([.ref ha, .int v]) ++ List.replicate (4 - (lg_sl ([.ref ha, .int v])).length) Slot.unset).toArray = ls at hl ⊢
  have hP : va_P (dC, dI) vwCl [(ha, .inl (cA, n, .inl f))] s.heap := hP
  have hD : va_D A [(ha, .inl (cA, n, .inl f))] := hD
  have hl : lv_has ls 4 [(0, .ref ha), (1, .int v)] := hl
  refine lv_iconst (v := 0) hx hb dJ0_fill_0 (by decide) ?_
  refine lv_istore_n (lv' := [(2, .int 0), (0, .ref ha), (1, .int v)]) hx hb dJ0_fill_1 rfl hl (by decide) rfl (fun ls hl => ?_)
  refine lv_aload_n hx hb dJ0_fill_2 rfl (lv_at hl 1 rfl) ?_
  refine va_alen (v := nI n) hx hb hK hP 0 0 rfl rfl rfl dJ0_fill_3 ?_
  refine lv_istore_n (lv' := [(3, .int (nI n)), (2, .int 0), (0, .ref ha), (1, .int v)]) hx hb dJ0_fill_4 rfl hl (by decide) rfl (fun ls hl => ?_)
  have e0 : f = fillN f 0 v := fillN_0
  have hl : lv_has ls 4 [(3, .int (nI n)), (2, .int (nI 0)), (0, .ref ha), (1, .int v)] := hl
  refine lp_J0_fill_5 ha cA n hn f v hx hb hK (fun H locs ls hP hD hS hl => ?_) (n + 1) 0 _ _ _ (by omega) (by omega) (by rw [← e0]; exact hP) (by rw [← e0]; exact hD) hS (lv_sub hl [2, 3, 1, 0] rfl)
  have hP : va_P (dC, dI) vwCl [(ha, .inl (cA, n, .inl (fillN f n v)))] H := hP
  have hD : va_D A [(ha, .inl (cA, n, .inl (fillN f n v)))] := hD
  exact W.vret hx hb hr (fun t ht hW => ⟨⟨fillN f n v, rfl, rfl, by rw [ht]; exact hP, hD⟩, hS.F ht⟩) hS.2.2 dJ0_fill_20
