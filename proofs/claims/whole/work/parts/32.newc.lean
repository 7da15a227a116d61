def atN {S : Type} (D : va_G) (tyf : S → List (ClassId × FieldType)) (wf : S → va_W) (A : Nat → Prop) : S → State → Prop := fun u t => va_P D vwCl (wf u) t.heap ∧ va_K D vwCl (tyf u) t ∧ va_D A (wf u)
def ctN {S : Type} (L : List Cond) (l : Launch) (y : MethodName) (wy : List Cond) (rm : Room) (D : va_G) (ws0 : va_W) (sz : Nat) (av : List Value) (tyf : S → List (ClassId × FieldType)) (wf : S → va_W) (mc ms : Nat) : Prop := Met l y wy rm (pcX L D [] ws0 sz av) (va_Qv (fun _ : S => True) (atN D tyf wf (va_A ws0 sz)) (va_A ws0 sz)) mc ms (va_A ws0 sz)
section XN
variable {S : Type} {p : Program} {l : Launch} {e : Env} {R : Room} {s : State} {m : MethodId} {args : Array Value} {below : List Frame} {meth : Method} {c : Code} {H : Heap} {locs : List Loc} {cells slots mc ms : Nat} {Q : State → Prop} {D : va_G} {A : Nat → Prop} {ws wr ws0 : va_W} {tyf : S → List (ClassId × FieldType)} {wf : S → va_W} {tys : List (ClassId × FieldType)} {pc : Nat} {ls : Array Slot} {st0 rest : List Value} {a : Array Value}
theorem xr_n (hr : va_Run p l e R s m args below meth c H locs cells slots mc ms (F0 m pc ls st0) rest (va_Qv (fun _ : S => True) (atN D tyf wf (va_A ws0 H.size)) (va_A ws0 H.size) a) (va_A ws0 H.size)) (hK : va_K D vwCl tys s) (hP : va_P D vwCl ws H) (hD : va_D A ws) (hS : va_S A s.heap H locs) (hA : ∀ q, s.heap.size ≤ q → A q) (isC isR : List Nat) (hC : isC.map (fun i => ws[i]?) = ws0.map some) (hR : isR.map (fun i => ws[i]?) = wr.map some) (hn : va_nd isR = true) (hdis : ∀ i ∈ isR, i ∉ isC)
    (kk : ∀ (u : S) (H : Heap) (locs : List Loc), va_K D vwCl (tys ++ tyf u) s → va_P D vwCl (wr ++ wf u) H → va_D A (wr ++ wf u) → va_S A s.heap H locs → W p l e R s m args below meth c H locs (cells + mc) (slots + ms) Q (F0 m (pc + 3) ls rest)) : W p l e R s m args below meth c H locs cells slots Q (F0 m pc ls st0) := by
  have hFc := va_free (wc := ws0) hD hS hA isC hC
  refine va_callv hr hS (fun q _ h => hFc q h) hFc (fun u t H1 locs1 ht hvm hw hB hz1 hk1 hS1 => ?_)
  obtain ⟨hP1, hK1, hD1⟩ := hB
  rw [ht] at hP1
  have hK1 := va_K.moved hvm.symm hK1
  obtain ⟨hP2, hD2⟩ := va_join (wr := wr) (w1 := wf u) hP hD isC isR hC hR hn hdis hk1 hFc hP1 hD1
  exact kk u H1 locs1 (hK.app hK1) hP2 hD2 hS1
theorem xp_n {L : List Cond} (hL : nwGood L) {As : List Value} (hK : va_K D vwCl tys s) (hN : nwOk L s) (hP : va_P D vwCl ws H) (hD : va_D A ws) (isC : List Nat) (hnc : va_nd isC = true) (hC : isC.map (fun i => ws[i]?) = ws0.map some) : PreS s H (pcX L D [] ws0 H.size As) As :=
  ⟨pcX_blind (fun w h => (hL w h).1), fun U hU hW => ⟨rfl, by rw [hU], by rw [hU]; exact hP.sub isC (fm_of hC), va_K.moved hW.alike (hK.sub (tys' := []) [] rfl), (hD.sub isC hnc hC).weaken (fun _ _ _ _ => trivial), fun w h => (hL w h).2 s U hW (hN w h)⟩⟩
end XN
def winF (x m : Int32) : Int32 := if 1 < (if m < x then m else x) then (if m < x then m else x) else 1
def cutF (x m : Int32) : Int32 := if 1 ≤ x then (if x ≤ m then x else m) else 1
theorem win_cut (x : Int32) {M : Nat} (h1 : 1 ≤ M) (h2 : M < 1000) : ∃ g, 1 ≤ g ∧ g ≤ M ∧ winF x (nI M) = nI g ∧ cutF x (nI M) = nI g := by
  unfold winF cutF
  by_cases c : 1 ≤ x
  · rw [if_pos c]
    obtain ⟨k, hk, ek⟩ := nI_of (x := x) (fun q => absurd (Int32.lt_of_lt_of_le q (by decide : (0 : Int32) ≤ 1)) (Int32.not_lt.mpr c))
    have hk1 : 1 ≤ k := by
      rcases Nat.eq_zero_or_pos k with q | q
      · rw [ek, q] at c
        exact absurd c (by decide)
      · exact q
    subst ek
    by_cases c2 : M < k
    · refine ⟨M, h1, Nat.le_refl M, ?_, ?_⟩
      · rw [if_pos (nI_lt c2 hk)]
        by_cases c3 : M = 1
        · subst c3
          rw [if_neg (by decide)]
          rfl
        · rw [if_pos (show (1 : Int32) < nI M from nI_lt (a := 1) (b := M) (by omega) (by omega))]
      · rw [if_neg (nI_ge c2 hk)]
    · refine ⟨k, hk1, by omega, ?_, ?_⟩
      · rw [if_neg (nI_nlt (by omega) (by omega))]
        by_cases c3 : k = 1
        · subst c3
          rw [if_neg (by decide)]
          rfl
        · rw [if_pos (show (1 : Int32) < nI k from nI_lt (a := 1) (b := k) (by omega) (by omega))]
      · rw [if_pos (nI_le (by omega) (by omega))]
  · rw [if_neg c]
    refine ⟨1, Nat.le_refl 1, h1, ?_, rfl⟩
    have hx : x < 1 := Int32.not_le.mp c
    by_cases c2 : nI M < x
    · exact absurd (Int32.lt_trans c2 hx) (nI_nlt (a := M) (b := 1) h1 (by omega))
    · rw [if_neg c2, if_neg (fun q => Int32.lt_irrefl (Int32.lt_trans q hx))]
      rfl
