abbrev DS := (Nat → Int32) × Int32 × Int32 × Int32 × Int32
abbrev XS := (Nat → Int32) × DS
def dk_w (hd hc : Nat) (a2 : ClassId) (n : Nat) (d : DS) : va_W := [(hd, .inr (1, [.ref hc, .int d.2.1, .int d.2.2.1, .int d.2.2.2.1, .int d.2.2.2.2])), (hc, .inl (a2, n, .inl d.1))]
def xo_w (h0 hs hd hc : Nat) (a1 a2 : ClassId) (gW gC gV gB gM gI : Nat) (x : XS) : va_W := [(h0, .inr (0, [.int (nI gW), .int (nI gC), .int (nI gV), .int (nI gB), .ref hs, .int (nI gM), .int (nI gI), .ref hd])), (hs, .inl (a1, gW, .inl x.1)), (hd, .inr (1, [.ref hc, .int x.2.2.1, .int x.2.2.2.1, .int x.2.2.2.2.1, .int x.2.2.2.2.2])), (hc, .inl (a2, gI + 4, .inl x.2.1))]
def geo (gW gC gV gB gM gI : Nat) : Prop := (1 ≤ gW ∧ gW ≤ 4) ∧ (1 ≤ gC ∧ gC ≤ 12) ∧ (1 ≤ gV ∧ gV ≤ 4) ∧ (1 ≤ gB ∧ gB ≤ 6) ∧ gM = (gC + 1) * gW ∧ gI = gM + gV * gB
def dk_write (d : DS) (i : Nat) (v : Int32) : DS :=
  if d.2.2.2.2 = 0 then
    if d.2.2.1 = 0 then (upd d.1 i v, d.2.1 + 1, d.2.2.1, d.2.2.2.1, d.2.2.2.2)
    else if d.2.2.1 - 1 = 0 then (d.1, d.2.1, d.2.2.1 - 1, d.2.2.2.1, 1)
    else (upd d.1 i v, d.2.1 + 1, d.2.2.1 - 1, d.2.2.2.1, 0)
  else d
def dk_arm (d : DS) (n : Int32) : DS :=
  if d.2.2.2.2 = 0 then
    if 1 ≤ n then (if 30 ≤ d.2.2.2.1 then d else (d.1, d.2.1, n, d.2.2.2.1 + 1, d.2.2.2.2))
    else (d.1, d.2.1, 0, d.2.2.2.1, d.2.2.2.2)
  else d
def fillN (f : Nat → Int32) (n : Nat) (v : Int32) : Nat → Int32 := fun j => if j < n then v else f j
def inR (i : Int32) (n : Nat) : Int32 := if i < 0 then 0 else if nI n ≤ i then 0 else 1
def inB (v b : Int32) (V B : Nat) : Int32 := if inR v V = 0 then 0 else inR b B
def cntC (f : Nat → Int32) (lo : Nat) (v : Int32) : Nat → Nat
  | 0 => 0
  | k + 1 => cntC f lo v k + (if f (lo + k) = v then 1 else 0)
def usd (f : Nat → Int32) (lo q : Nat) (k : Int32) : Int32 := if cntC f lo (k + 1) q = 0 then 0 else 1
def usN (f : Nat → Int32) (lo q : Nat) : Nat → Nat
  | 0 => 0
  | k + 1 => usN f lo q k + (if usd f lo q (nI k) = 0 then 0 else 1)
def samN (f st : Nat → Int32) (off : Nat) : Nat → Int32
  | 0 => 1
  | k + 1 => if f (off + k) = st k then samN f st off k else 0
def dk_as (lo b v w : Nat) (d : DS) : Nat → DS
  | 0 => d
  | k + 1 => dk_write (dk_as lo b v w d k) (lo + v * b + k) ((dk_as lo b v w d k).1 (lo + w * b + k) - 1 + 1)
def dk_un (lo b v : Nat) (d : DS) : Nat → DS
  | 0 => d
  | k + 1 => dk_write (dk_un lo b v d k) (lo + v * b + k) ((-1) + 1)
def carry (d : DS) (gM gB gI : Nat) : DS :=
  if d.1 (gI + 3) = 0 then d
  else if d.1 (gI + 3) = 1 then dk_write (dk_write d (gM + (d.1 gI).toNatClampNeg * gB + (d.1 (gI + 1)).toNatClampNeg) (d.1 (gI + 2) + 1)) (gI + 3) 0
  else if d.1 (gI + 3) = 2 then dk_write (dk_as gM gB (d.1 gI).toNatClampNeg (d.1 (gI + 1)).toNatClampNeg d gB) (gI + 3) 0
  else dk_write (dk_un gM gB (d.1 gI).toNatClampNeg d gB) (gI + 3) 0
def okI (d : DS) (gV gB gI : Nat) : Prop := ¬ d.1 (gI + 3) = 0 → (∃ v, v < gV ∧ d.1 gI = nI v) ∧ (d.1 (gI + 3) = 1 → ∃ b, b < gB ∧ d.1 (gI + 1) = nI b) ∧ (d.1 (gI + 3) = 2 → ∃ q, q < gV ∧ d.1 (gI + 1) = nI q)
def okO (kd : Int32) (o gV gB : Nat) : Prop := (kd = 1 → o < gB) ∧ (kd = 2 → o < gV)
def int4 (d : DS) (gI : Nat) (kd : Int32) (v o : Nat) (sl : Int32) : DS := dk_write (dk_write (dk_write (dk_write d gI (nI v)) (gI + 1) (nI o)) (gI + 2) sl) (gI + 3) kd
def chg (d : DS) (gM gB gI : Nat) (kd : Int32) (v o : Nat) (sl : Int32) : DS := carry (int4 d gI kd v o sl) gM gB gI
def ans (d : DS) : Int32 := if d.2.2.2.2 = 0 then 0 else -4
def nwOk (L : List Cond) (U : State) : Prop := ∀ w ∈ L, va_Nw w U
def pcX (L : List Cond) (D : va_G) (tys : List (ClassId × FieldType)) (ws : va_W) (sz : Nat) (av : List Value) : Array Value → State → Prop := va_Pc av (fun U => U.heap.size = sz ∧ va_P D vwCl ws U.heap ∧ va_K D vwCl tys U ∧ va_D (fun _ => True) ws ∧ nwOk L U)
def atX {S : Type} (D : va_G) (wf : S → va_W) (A : Nat → Prop) : S → State → Prop := fun u t => va_P D vwCl (wf u) t.heap ∧ va_D A (wf u)
def ctI {S : Type} (L : List Cond) (l : Launch) (y : MethodName) (wy : List Cond) (rm : Room) (D : va_G) (tys : List (ClassId × FieldType)) (wf : S → va_W) (u0 : S) (sz : Nat) (av : List Value) (post : Int32 → S → Prop) : Prop := Met l y wy rm (pcX L D tys (wf u0) sz av) (va_Qi post (atX D wf (va_A (wf u0) sz)) (va_A (wf u0) sz)) 0 0 (va_A (wf u0) sz)
def ctV {S : Type} (L : List Cond) (l : Launch) (y : MethodName) (wy : List Cond) (rm : Room) (D : va_G) (tys : List (ClassId × FieldType)) (wf : S → va_W) (u0 : S) (sz : Nat) (av : List Value) (post : S → Prop) : Prop := Met l y wy rm (pcX L D tys (wf u0) sz av) (va_Qv post (atX D wf (va_A (wf u0) sz)) (va_A (wf u0) sz)) 0 0 (va_A (wf u0) sz)
theorem fm_of {α β : Type} {f : α → Option β} : ∀ {l : List α} {L : List β}, l.map f = L.map some → l.filterMap f = L := by
  intro l
  induction l with
  | nil => intro L h; cases L with
    | nil => rfl
    | cons b L => simp at h
  | cons a t ih => intro L h; cases L with
    | nil => simp at h
    | cons b L =>
      simp only [List.map_cons, List.cons.injEq] at h
      rw [List.filterMap_cons_some h.1, ih h.2]
theorem pcX_blind {L : List Cond} (hL : ∀ w ∈ L, w.onTables = true) {D : va_G} {tys : List (ClassId × FieldType)} {ws : va_W} {sz : Nat} {av : List Value} : FrameBlind (pcX L D tys ws sz av) := fun a U g mk q => by
  obtain ⟨q0, q1, qP, qK, qD, qN⟩ := q
  exact ⟨q0, q1, qP, va_K.moved (u := U) (U := U.calling g mk a) (Vm.Alike.refl U.vm) qK, qD, fun w h => va_Nw.same (u := U) (hL w h) rfl (qN w h)⟩
def nwGood (L : List Cond) : Prop := ∀ w ∈ L, w.onTables = true ∧ ∀ (s U : State), s.WarmedH U.vm → va_Nw w s → va_Nw w U
section XC
variable {S : Type} {p : Program} {l : Launch} {e : Env} {R : Room} {s : State} {m : MethodId} {args : Array Value} {below : List Frame} {meth : Method} {c : Code} {H : Heap} {locs : List Loc} {cells slots : Nat} {Q : State → Prop} {D : va_G} {A : Nat → Prop} {ws wr : va_W} {wf : S → va_W} {u0 : S} {pc : Nat} {ls : Array Slot} {st0 rest : List Value} {a : Array Value}
theorem xr_i {post : Int32 → S → Prop} (hr : va_Run p l e R s m args below meth c H locs cells slots 0 0 (F0 m pc ls st0) rest (va_Qi post (atX D wf (va_A (wf u0) H.size)) (va_A (wf u0) H.size) a) (va_A (wf u0) H.size)) (hP : va_P D vwCl ws H) (hD : va_D A ws) (hS : va_S A s.heap H locs) (hA : ∀ q, s.heap.size ≤ q → A q) (isC isR : List Nat) (hC : isC.map (fun i => ws[i]?) = (wf u0).map some) (hR : isR.map (fun i => ws[i]?) = wr.map some) (hn : va_nd isR = true) (hdis : ∀ i ∈ isR, i ∉ isC)
    (kk : ∀ (r : Int32) (u : S) (H : Heap) (locs : List Loc), post r u → va_P D vwCl (wr ++ wf u) H → va_D A (wr ++ wf u) → va_S A s.heap H locs → W p l e R s m args below meth c H locs cells slots Q (F0 m (pc + 3) ls (.int r :: rest))) : W p l e R s m args below meth c H locs cells slots Q (F0 m pc ls st0) := by
  have hFc := va_free (wc := wf u0) hD hS hA isC hC
  refine va_calli hr hS (fun q _ h => hFc q h) hFc (fun r u t H1 locs1 ht hvm hw hB hz1 hk1 hS1 => ?_)
  obtain ⟨hP1, hD1⟩ := hB
  rw [ht] at hP1
  obtain ⟨hP2, hD2⟩ := va_join (wr := wr) (w1 := wf u) hP hD isC isR hC hR hn hdis hk1 hFc hP1 hD1
  exact kk r u H1 locs1 hw hP2 hD2 hS1
theorem xr_v {post : S → Prop} (hr : va_Run p l e R s m args below meth c H locs cells slots 0 0 (F0 m pc ls st0) rest (va_Qv post (atX D wf (va_A (wf u0) H.size)) (va_A (wf u0) H.size) a) (va_A (wf u0) H.size)) (hP : va_P D vwCl ws H) (hD : va_D A ws) (hS : va_S A s.heap H locs) (hA : ∀ q, s.heap.size ≤ q → A q) (isC isR : List Nat) (hC : isC.map (fun i => ws[i]?) = (wf u0).map some) (hR : isR.map (fun i => ws[i]?) = wr.map some) (hn : va_nd isR = true) (hdis : ∀ i ∈ isR, i ∉ isC)
    (kk : ∀ (u : S) (H : Heap) (locs : List Loc), post u → va_P D vwCl (wr ++ wf u) H → va_D A (wr ++ wf u) → va_S A s.heap H locs → W p l e R s m args below meth c H locs cells slots Q (F0 m (pc + 3) ls rest)) : W p l e R s m args below meth c H locs cells slots Q (F0 m pc ls st0) := by
  have hFc := va_free (wc := wf u0) hD hS hA isC hC
  refine va_callv hr hS (fun q _ h => hFc q h) hFc (fun u t H1 locs1 ht hvm hw hB hz1 hk1 hS1 => ?_)
  obtain ⟨hP1, hD1⟩ := hB
  rw [ht] at hP1
  obtain ⟨hP2, hD2⟩ := va_join (wr := wr) (w1 := wf u) hP hD isC isR hC hR hn hdis hk1 hFc hP1 hD1
  exact kk u H1 locs1 hw hP2 hD2 hS1
theorem xp_v {L : List Cond} (hL : nwGood L) {C : String} {b : Nat} {As : List Value} {tyc : List (ClassId × FieldType)} (hK : va_K D vwCl tyc s) (hN : nwOk L s) (hP : va_P D vwCl ws H) (hD : va_D A ws) (isC : List Nat) (hnc : va_nd isC = true) (hC : isC.map (fun i => ws[i]?) = (wf u0).map some) (hrc : ∃ cellB : Cell, H[b]? = some cellB ∧ cellB.vm.isStatics = false ∧ s.vm.findClass C = some cellB.cls) : PreV s H C b (pcX L D tyc (wf u0) H.size (.ref b :: As)) As :=
  ⟨pcX_blind (fun w h => (hL w h).1), hrc, fun U hU hW => ⟨rfl, by rw [hU], by rw [hU]; exact hP.sub isC (fm_of hC), va_K.moved hW.alike hK, (hD.sub isC hnc hC).weaken (fun _ _ _ _ => trivial), fun w h => (hL w h).2 s U hW (hN w h)⟩⟩
theorem xp_s {L : List Cond} (hL : nwGood L) {As : List Value} {tyc : List (ClassId × FieldType)} (hK : va_K D vwCl tyc s) (hN : nwOk L s) (hP : va_P D vwCl ws H) (hD : va_D A ws) (isC : List Nat) (hnc : va_nd isC = true) (hC : isC.map (fun i => ws[i]?) = (wf u0).map some) : PreS s H (pcX L D tyc (wf u0) H.size As) As :=
  ⟨pcX_blind (fun w h => (hL w h).1), fun U hU hW => ⟨rfl, by rw [hU], by rw [hU]; exact hP.sub isC (fm_of hC), va_K.moved hW.alike hK, (hD.sub isC hnc hC).weaken (fun _ _ _ _ => trivial), fun w h => (hL w h).2 s U hW (hN w h)⟩⟩
end XC
theorem nar_z {v : Int32} (h : v = 0 ∨ v = 1) : narrow .boolean (.int v) = .int v := by
  rcases h with h | h <;> rw [h] <;> rfl
theorem ix_lt {v V b B : Nat} (hv : v < V) (hb : b < B) : v * B + b < V * B := by
  have h : (v + 1) * B ≤ V * B := Nat.mul_le_mul_right B hv
  rw [Nat.succ_mul] at h
  omega
theorem ix_eq {v w b q B : Nat} (hb : b < B) (hq : q < B) (h : v * B + b = w * B + q) : v = w ∧ b = q := by
  rcases Nat.lt_trichotomy v w with c | c | c
  · have h2 : (v + 1) * B ≤ w * B := Nat.mul_le_mul_right B c
    rw [Nat.succ_mul] at h2
    omega
  · subst c
    omega
  · have h2 : (w + 1) * B ≤ v * B := Nat.mul_le_mul_right B c
    rw [Nat.succ_mul] at h2
    omega
theorem geo_b {gW gC gV gB gM gI : Nat} (hg : geo gW gC gV gB gM gI) : gM ≤ 52 ∧ gV * gB ≤ 24 := by
  obtain ⟨⟨hW1, hW2⟩, ⟨hC1, hC2⟩, ⟨hV1, hV2⟩, ⟨hB1, hB2⟩, eM, eI⟩ := hg
  have h1 : (gC + 1) * gW ≤ 13 * 4 := Nat.mul_le_mul (by omega) hW2
  have h2 : gV * gB ≤ 4 * 6 := Nat.mul_le_mul hV2 hB2
  exact ⟨by omega, by omega⟩
theorem geo_map {gW gC gV gB gM gI v b : Nat} (hg : geo gW gC gV gB gM gI) (hv : v < gV) (hb : b < gB) : gM + v * gB + b < gI := by
  have h := ix_lt hv hb
  have h2 := hg.2.2.2.2.2
  omega
theorem geo_slot {gW gC gV gB gM gI k i : Nat} (hg : geo gW gC gV gB gM gI) (hk : k ≤ gC) (hi : i < gW) : k * gW + i < gM := by
  have h := ix_lt (V := gC + 1) (v := k) (by omega) hi
  have h2 := hg.2.2.2.2.1
  omega
theorem inR_nz {i : Int32} {n : Nat} (hn : n < 2 ^ 31) (h : ¬ inR i n = 0) : ∃ j : Nat, j < n ∧ i = nI j := by
  unfold inR at h
  rcases pk_ix i hn with q | q | q
  · exact absurd (if_pos q) h
  · by_cases c : i < 0
    · exact absurd (if_pos c) h
    · exact absurd (by rw [if_neg c, if_pos q]) h
  · exact q
theorem inR_of {j n : Nat} (hj : j < n) (hn : n < 2 ^ 31) : inR (nI j) n = 1 := by
  unfold inR
  rw [if_neg (nI_pos (by omega)), if_neg (nI_ge hj hn)]
theorem inB_nz {v b : Int32} {V B : Nat} (hV : V < 2 ^ 31) (hB : B < 2 ^ 31) (h : ¬ inB v b V B = 0) : ∃ x y : Nat, x < V ∧ y < B ∧ v = nI x ∧ b = nI y := by
  unfold inB at h
  by_cases c : inR v V = 0
  · exact absurd (if_pos c) h
  · rw [if_neg c] at h
    obtain ⟨x, hx, ex⟩ := inR_nz hV c
    obtain ⟨y, hy, ey⟩ := inR_nz hB h
    exact ⟨x, y, hx, hy, ex, ey⟩
theorem cntC_le (f : Nat → Int32) (lo : Nat) (v : Int32) : ∀ k, cntC f lo v k ≤ k
  | 0 => Nat.le_refl 0
  | k + 1 => by
    have h := cntC_le f lo v k
    unfold cntC
    split <;> omega
theorem cntC_hit {f : Nat → Int32} {lo k : Nat} {v : Int32} (h : f (lo + k) = v) : cntC f lo v k + 1 = cntC f lo v (k + 1) := by
  show _ = cntC f lo v k + (if f (lo + k) = v then 1 else 0)
  rw [if_pos h]
theorem cntC_mis {f : Nat → Int32} {lo k : Nat} {v : Int32} (h : ¬ f (lo + k) = v) : cntC f lo v k = cntC f lo v (k + 1) := by
  show _ = cntC f lo v k + (if f (lo + k) = v then 1 else 0)
  rw [if_neg h, Nat.add_zero]
theorem usN_hit {f : Nat → Int32} {lo q k : Nat} (h : ¬ usd f lo q (nI k) = 0) : usN f lo q k + 1 = usN f lo q (k + 1) := by
  show _ = usN f lo q k + (if usd f lo q (nI k) = 0 then 0 else 1)
  rw [if_neg h]
theorem usN_mis {f : Nat → Int32} {lo q k : Nat} (h : usd f lo q (nI k) = 0) : usN f lo q k = usN f lo q (k + 1) := by
  show _ = usN f lo q k + (if usd f lo q (nI k) = 0 then 0 else 1)
  rw [if_pos h, Nat.add_zero]
theorem usN_le (f : Nat → Int32) (lo q : Nat) : ∀ k, usN f lo q k ≤ k
  | 0 => Nat.le_refl 0
  | k + 1 => by
    have h := usN_le f lo q k
    unfold usN
    split <;> omega
theorem samN_go {f st : Nat → Int32} {off k : Nat} (h : samN f st off k = 1) (e : f (off + k) = st k) : samN f st off (k + 1) = 1 := by
  show (if f (off + k) = st k then samN f st off k else 0) = 1
  rw [if_pos e]
  exact h
theorem samN_no {f st : Nat → Int32} {off k n : Nat} (hk : k < n) (e : ¬ f (off + k) = st k) : samN f st off n = 0 := by
  induction n with
  | zero => omega
  | succ n ih =>
    show (if f (off + n) = st n then samN f st off n else 0) = 0
    rcases Nat.lt_or_ge k n with q | q
    · rw [ih q]
      split <;> rfl
    · have : k = n := by omega
      subst this
      rw [if_neg e]
theorem dk_two (d : DS) (i : Nat) (v : Int32) : ((dk_write d i v).1 = upd d.1 i v ∧ (dk_write d i v).2.2.2.2 = 0) ∨ ((dk_write d i v).1 = d.1 ∧ ¬ (dk_write d i v).2.2.2.2 = 0) := by
  unfold dk_write
  by_cases h1 : d.2.2.2.2 = 0
  · rw [if_pos h1]
    by_cases h2 : d.2.2.1 = 0
    · rw [if_pos h2]; exact Or.inl ⟨rfl, h1⟩
    · rw [if_neg h2]
      by_cases h3 : d.2.2.1 - 1 = 0
      · rw [if_pos h3]; exact Or.inr ⟨rfl, by show ¬ (1 : Int32) = 0; decide⟩
      · rw [if_neg h3]; exact Or.inl ⟨rfl, rfl⟩
  · rw [if_neg h1]; exact Or.inr ⟨rfl, h1⟩
theorem dk_down {d : DS} (h : ¬ d.2.2.2.2 = 0) (i : Nat) (v : Int32) : dk_write d i v = d := by
  unfold dk_write
  rw [if_neg h]
theorem dk_z {d : DS} (h : d.2.2.2.2 = 0 ∨ d.2.2.2.2 = 1) (i : Nat) (v : Int32) : (dk_write d i v).2.2.2.2 = 0 ∨ (dk_write d i v).2.2.2.2 = 1 := by
  unfold dk_write
  by_cases h1 : d.2.2.2.2 = 0
  · rw [if_pos h1]
    by_cases h2 : d.2.2.1 = 0
    · rw [if_pos h2]; exact h
    · rw [if_neg h2]
      by_cases h3 : d.2.2.1 - 1 = 0
      · rw [if_pos h3]; exact Or.inr rfl
      · rw [if_neg h3]; exact Or.inl rfl
  · rw [if_neg h1]; exact h
theorem dk_as_z {lo b v w : Nat} {d : DS} (h : d.2.2.2.2 = 0 ∨ d.2.2.2.2 = 1) : ∀ k, (dk_as lo b v w d k).2.2.2.2 = 0 ∨ (dk_as lo b v w d k).2.2.2.2 = 1
  | 0 => h
  | k + 1 => dk_z (dk_as_z h k) _ _
theorem dk_un_z {lo b v : Nat} {d : DS} (h : d.2.2.2.2 = 0 ∨ d.2.2.2.2 = 1) : ∀ k, (dk_un lo b v d k).2.2.2.2 = 0 ∨ (dk_un lo b v d k).2.2.2.2 = 1
  | 0 => h
  | k + 1 => dk_z (dk_un_z h k) _ _
theorem carry_z {d : DS} {gM gB gI : Nat} (h : d.2.2.2.2 = 0 ∨ d.2.2.2.2 = 1) : (carry d gM gB gI).2.2.2.2 = 0 ∨ (carry d gM gB gI).2.2.2.2 = 1 := by
  unfold carry
  split
  · exact h
  · split
    · exact dk_z (dk_z h _ _) _ _
    · split
      · exact dk_z (dk_as_z h _) _ _
      · exact dk_z (dk_un_z h _) _ _
theorem chg_z {d : DS} {gM gB gI : Nat} {kd : Int32} {v o : Nat} {sl : Int32} (h : d.2.2.2.2 = 0 ∨ d.2.2.2.2 = 1) : (chg d gM gB gI kd v o sl).2.2.2.2 = 0 ∨ (chg d gM gB gI kd v o sl).2.2.2.2 = 1 := by
  unfold chg
  refine carry_z ?_
  unfold int4
  exact dk_z (dk_z (dk_z (dk_z h _ _) _ _) _ _) _ _
theorem int4_two (d : DS) (gI : Nat) (kd : Int32) (v o : Nat) (sl : Int32) :
    ((int4 d gI kd v o sl).1 = upd (upd (upd (upd d.1 gI (nI v)) (gI + 1) (nI o)) (gI + 2) sl) (gI + 3) kd ∧ (int4 d gI kd v o sl).2.2.2.2 = 0) ∨ ((int4 d gI kd v o sl).1 (gI + 3) = d.1 (gI + 3) ∧ ¬ (int4 d gI kd v o sl).2.2.2.2 = 0) := by
  unfold int4
  generalize e1 : dk_write d gI (nI v) = d1
  generalize e2 : dk_write d1 (gI + 1) (nI o) = d2
  generalize e3 : dk_write d2 (gI + 2) sl = d3
  generalize e4 : dk_write d3 (gI + 3) kd = d4
  have k1 := dk_two d gI (nI v)
  rw [e1] at k1
  have k2 := dk_two d1 (gI + 1) (nI o)
  rw [e2] at k2
  have k3 := dk_two d2 (gI + 2) sl
  rw [e3] at k3
  have k4 := dk_two d3 (gI + 3) kd
  rw [e4] at k4
  have n1 : ¬ gI + 3 = gI := by omega
  have n2 : ¬ gI + 3 = gI + 1 := by omega
  have n3 : ¬ gI + 3 = gI + 2 := by omega
  rcases k4 with ⟨a4, b4⟩ | ⟨a4, b4⟩
  · left
    refine ⟨?_, b4⟩
    have z3 : d3.2.2.2.2 = 0 := Classical.byContradiction fun h => by
      have := dk_down h (gI + 3) kd
      rw [e4] at this
      exact h (by rw [← this]; exact b4)
    have z2 : d2.2.2.2.2 = 0 := Classical.byContradiction fun h => by
      have := dk_down h (gI + 2) sl
      rw [e3] at this
      exact h (by rw [← this]; exact z3)
    have z1 : d1.2.2.2.2 = 0 := Classical.byContradiction fun h => by
      have := dk_down h (gI + 1) (nI o)
      rw [e2] at this
      exact h (by rw [← this]; exact z2)
    have a3 : d3.1 = upd d2.1 (gI + 2) sl := by
      rcases k3 with q | q
      · exact q.1
      · exact absurd z3 q.2
    have a2 : d2.1 = upd d1.1 (gI + 1) (nI o) := by
      rcases k2 with q | q
      · exact q.1
      · exact absurd z2 q.2
    have a1 : d1.1 = upd d.1 gI (nI v) := by
      rcases k1 with q | q
      · exact q.1
      · exact absurd z1 q.2
    rw [a4, a3, a2, a1]
  · right
    refine ⟨?_, b4⟩
    rw [a4]
    have s3 : d3.1 (gI + 3) = d2.1 (gI + 3) := by
      rcases k3 with q | q
      · rw [q.1, pk_un n3]
      · rw [q.1]
    have s2 : d2.1 (gI + 3) = d1.1 (gI + 3) := by
      rcases k2 with q | q
      · rw [q.1, pk_un n2]
      · rw [q.1]
    have s1 : d1.1 (gI + 3) = d.1 (gI + 3) := by
      rcases k1 with q | q
      · rw [q.1, pk_un n1]
      · rw [q.1]
    rw [s3, s2, s1]
theorem int4_ok {d : DS} {gV gB gI : Nat} {kd : Int32} {v o : Nat} {sl : Int32} (hk0 : d.1 (gI + 3) = 0) (hv : v < gV) (ho : okO kd o gV gB) : okI (int4 d gI kd v o sl) gV gB gI := by
  intro h
  rcases int4_two d gI kd v o sl with ⟨a, b⟩ | ⟨a, b⟩
  · rw [a, pk_us, pk_un (show ¬ gI = gI + 3 by omega), pk_un (show ¬ gI = gI + 2 by omega), pk_un (show ¬ gI = gI + 1 by omega), pk_us, pk_un (show ¬ gI + 1 = gI + 3 by omega), pk_un (show ¬ gI + 1 = gI + 2 by omega), pk_us]
    exact ⟨⟨v, hv, rfl⟩, fun q => ⟨o, ho.1 q, rfl⟩, fun q => ⟨o, ho.2 q, rfl⟩⟩
  · exact absurd (a.trans hk0) h
def ar_w (ha : Nat) (cA : ClassId) (n : Nat) (f : Nat → Int32) : va_W := [(ha, .inl (cA, n, .inl f))]
theorem fillN_0 {f : Nat → Int32} {v : Int32} : f = fillN f 0 v := by
  funext j
  unfold fillN
  rw [if_neg (Nat.not_lt_zero j)]
theorem fillN_s {f : Nat → Int32} {i : Nat} {v : Int32} : upd (fillN f i v) i v = fillN f (i + 1) v := by
  funext j
  by_cases h : j = i
  · subst h
    rw [pk_us]
    unfold fillN
    rw [if_pos (Nat.lt_succ_self j)]
  · rw [pk_un h]
    unfold fillN
    by_cases c : j < i
    · rw [if_pos c, if_pos (by omega)]
    · rw [if_neg c, if_neg (by omega)]
def dk_ws (d : DS) (off : Nat) (st : Nat → Int32) : Nat → DS
  | 0 => d
  | k + 1 => dk_write (dk_ws d off st k) (off + k) (st k)
theorem dk_ws_z {d : DS} {off : Nat} {st : Nat → Int32} (h : d.2.2.2.2 = 0 ∨ d.2.2.2.2 = 1) : ∀ k, (dk_ws d off st k).2.2.2.2 = 0 ∨ (dk_ws d off st k).2.2.2.2 = 1
  | 0 => h
  | k + 1 => dk_z (dk_ws_z h k) _ _
theorem dk_out {d : DS} {i j : Nat} {v : Int32} (h : ¬ j = i) : (dk_write d i v).1 j = d.1 j := by
  rcases dk_two d i v with q | q
  · rw [q.1, pk_un h]
  · rw [q.1]
theorem dk_ws_out {d : DS} {off : Nat} {st : Nat → Int32} {k j : Nat} (h : j < off ∨ off + k ≤ j) : (dk_ws d off st k).1 j = d.1 j := by
  induction k with
  | zero => rfl
  | succ k ih =>
    show (dk_write (dk_ws d off st k) (off + k) (st k)).1 j = d.1 j
    rw [dk_out (by omega)]
    exact ih (by omega)
theorem slot_of {x : Int32} {n : Nat} (h : ∃ j, j ≤ n + 1 ∧ x = nI j) (c : ¬ x - 1 = -1) : ∃ k, k ≤ n ∧ x - 1 = nI k := by
  obtain ⟨j, hj, ej⟩ := h
  cases j with
  | zero => exact absurd (by rw [ej]; rfl) c
  | succ k => exact ⟨k, by omega, by rw [ej]; exact nI_pred k⟩
theorem nI_of3 {x : Int32} {n : Nat} (hn : n < 2 ^ 31) (h0 : ¬ x < 0) (h : ¬ nI n < x) : ∃ k, k ≤ n ∧ x = nI k := by
  obtain ⟨k, hk, ek⟩ := nI_of h0
  refine ⟨k, ?_, ek⟩
  rcases Nat.lt_or_ge n k with q | q
  · exact absurd (by rw [ek]; exact nI_lt q hk) h
  · exact q
theorem nI_nm1 {i : Nat} (h : i < 2 ^ 31) : ¬ nI i = -1 := fun q => nI_pos h (by rw [q]; decide)
def x_format (st : Nat → Int32) (d : DS) (gW gC gV gB gM gI : Nat) : Int32 × XS := (0, (fillN st gW 0, (fillN d.1 (gI + 4) 0, d.2.1, 0, d.2.2.2.1, 0)))
def x_stage (st : Nat → Int32) (d : DS) (gW gC gV gB gM gI : Nat) (i x : Int32) : Int32 × XS :=
  if d.2.2.2.2 = 0 then (if inR i gW = 0 then (-1, (st, d)) else (0, (upd st i.toNatClampNeg x, d))) else (-4, (st, d))
def x_read (st : Nat → Int32) (d : DS) (gW gC gV gB gM gI : Nat) (vol lb i : Int32) : Int32 × XS :=
  if d.2.2.2.2 = 0 then
    if inB vol lb gV gB = 0 then (0, (st, d))
    else if inR i gW = 0 then (0, (st, d))
    else if d.1 (gM + vol.toNatClampNeg * gB + lb.toNatClampNeg) - 1 = -1 then (0, (st, d))
    else (d.1 ((d.1 (gM + vol.toNatClampNeg * gB + lb.toNatClampNeg) - 1).toNatClampNeg * gW + i.toNatClampNeg), (st, d))
  else (-4, (st, d))
def x_trim (st : Nat → Int32) (d : DS) (gW gC gV gB gM gI : Nat) (vol lb : Int32) : Int32 × XS :=
  if d.2.2.2.2 = 0 then
    if inB vol lb gV gB = 0 then (-1, (st, d))
    else if d.1 (gM + vol.toNatClampNeg * gB + lb.toNatClampNeg) - 1 = -1 then (-3, (st, d))
    else (ans (chg d gM gB gI 1 vol.toNatClampNeg lb.toNatClampNeg (-1)), (st, chg d gM gB gI 1 vol.toNatClampNeg lb.toNatClampNeg (-1)))
  else (-4, (st, d))
def x_clone (st : Nat → Int32) (d : DS) (gW gC gV gB gM gI : Nat) (src dst : Int32) : Int32 × XS :=
  if d.2.2.2.2 = 0 then
    if inR src gV = 0 then (-1, (st, d))
    else if inR dst gV = 0 then (-1, (st, d))
    else (ans (chg d gM gB gI 2 dst.toNatClampNeg src.toNatClampNeg 0), (st, chg d gM gB gI 2 dst.toNatClampNeg src.toNatClampNeg 0))
  else (-4, (st, d))
def x_drop (st : Nat → Int32) (d : DS) (gW gC gV gB gM gI : Nat) (vol : Int32) : Int32 × XS :=
  if d.2.2.2.2 = 0 then
    if inR vol gV = 0 then (-1, (st, d))
    else (ans (chg d gM gB gI 3 vol.toNatClampNeg 0 0), (st, chg d gM gB gI 3 vol.toNatClampNeg 0 0))
  else (-4, (st, d))
def x_used (st : Nat → Int32) (d : DS) (gW gC gV gB gM gI : Nat) : Int32 × XS :=
  if d.2.2.2.2 = 0 then (nI (usN d.1 gM (gV * gB) (gC + 1)), (st, d)) else (-4, (st, d))
def x_refs (st : Nat → Int32) (d : DS) (gW gC gV gB gM gI : Nat) (vol lb : Int32) : Int32 × XS :=
  if d.2.2.2.2 = 0 then
    if inB vol lb gV gB = 0 then (0, (st, d))
    else if d.1 (gM + vol.toNatClampNeg * gB + lb.toNatClampNeg) - 1 = -1 then (0, (st, d))
    else (nI (cntC d.1 gM (d.1 (gM + vol.toNatClampNeg * gB + lb.toNatClampNeg) - 1 + 1) (gV * gB)), (st, d))
  else (-4, (st, d))
def x_slot (st : Nat → Int32) (d : DS) (gW gC gV gB gM gI : Nat) (vol lb : Int32) : Int32 × XS :=
  if d.2.2.2.2 = 0 then
    if inB vol lb gV gB = 0 then (-1, (st, d))
    else if d.1 (gM + vol.toNatClampNeg * gB + lb.toNatClampNeg) - 1 = -1 then (-3, (st, d))
    else (d.1 (gM + vol.toNatClampNeg * gB + lb.toNatClampNeg) - 1, (st, d))
  else (-4, (st, d))
def x_word (st : Nat → Int32) (d : DS) (gW gC gV gB gM gI : Nat) (slot i : Int32) : Int32 × XS :=
  if d.2.2.2.2 = 0 then
    if slot < 0 then (0, (st, d))
    else if nI gC < slot then (0, (st, d))
    else if inR i gW = 0 then (0, (st, d))
    else (d.1 (slot.toNatClampNeg * gW + i.toNatClampNeg), (st, d))
  else (-4, (st, d))
def x_rec (st : Nat → Int32) (d : DS) (gW gC gV gB gM gI : Nat) : Int32 × XS :=
  if d.2.2.2.2 = 0 then (0, (st, d)) else (0, (fillN st gW 0, carry (d.1, d.2.1, d.2.2.1, d.2.2.2.1, 0) gM gB gI))
def x_uwo (f : Nat → Int32) (gM q gC : Nat) (c : Int32) : Int32 :=
  if c - 1 = -1 then nI (usN f gM q (gC + 1)) else if cntC f gM (c - 1 + 1) q = 1 then nI (usN f gM q (gC + 1)) - 1 else nI (usN f gM q (gC + 1))
def x_wn (st : Nat → Int32) (d : DS) (gW gC gV gB gM gI v b : Nat) (r : Int32) (u : XS) : Prop :=
  (¬ x_uwo d.1 gM (gV * gB) gC (d.1 (gM + v * gB + b)) < nI gC ∧ r = -2 ∧ u = (st, d)) ∨
  (x_uwo d.1 gM (gV * gB) gC (d.1 (gM + v * gB + b)) < nI gC ∧ ∃ k : Nat, k ≤ gC ∧ (∀ j, j < k → ¬ usd d.1 gM (gV * gB) (nI j) = 0) ∧ (k < gC → usd d.1 gM (gV * gB) (nI k) = 0) ∧
    r = ans (chg (dk_ws d (k * gW) st gW) gM gB gI 1 v b (nI k)) ∧ u = (st, chg (dk_ws d (k * gW) st gW) gM gB gI 1 v b (nI k)))
theorem x_wn_st {st s9 : Nat → Int32} {d d9 : DS} {gW gC gV gB gM gI v b : Nat} {r : Int32} (h : x_wn st d gW gC gV gB gM gI v b r (s9, d9)) : s9 = st ∧ x_wn st d gW gC gV gB gM gI v b r (s9, d9) := by
  refine ⟨?_, h⟩
  rcases h with ⟨-, -, h⟩ | ⟨-, k, -, -, -, -, h⟩
  · exact (Prod.mk.inj h).1
  · exact (Prod.mk.inj h).1
def x_wb (st : Nat → Int32) (d : DS) (gW gC gV gB gM gI : Nat) (vol lb : Int32) (r : Int32) (u : XS) : Prop :=
  (¬ d.2.2.2.2 = 0 ∧ r = -4 ∧ u = (st, d)) ∨
  (d.2.2.2.2 = 0 ∧ inB vol lb gV gB = 0 ∧ r = -1 ∧ u = (st, d)) ∨
  (d.2.2.2.2 = 0 ∧ ¬ inB vol lb gV gB = 0 ∧ ∃ v b : Nat, v < gV ∧ b < gB ∧ vol = nI v ∧ lb = nI b ∧
    (((∀ j, j < gC + 1 → ¬ (¬ samN d.1 st (j * gW) gW = 0 ∧ ¬ usd d.1 gM (gV * gB) (nI j) = 0)) ∧ x_wn st d gW gC gV gB gM gI v b r u) ∨
     (∃ i : Nat, i ≤ gC ∧ ¬ samN d.1 st (i * gW) gW = 0 ∧ ¬ usd d.1 gM (gV * gB) (nI i) = 0 ∧
       ((nI i = d.1 (gM + v * gB + b) - 1 ∧ r = 0 ∧ u = (st, d)) ∨ (¬ nI i = d.1 (gM + v * gB + b) - 1 ∧ r = ans (chg d gM gB gI 1 v b (nI i)) ∧ u = (st, chg d gM gB gI 1 v b (nI i)))))))
theorem nwL_ok : nwGood nwL := fun w h => by
  unfold nwL at h
  simp only [List.mem_cons, List.not_mem_nil, or_false] at h
  rcases h with q | q | q | q | q | q | q | q <;> rw [q] <;> exact ⟨rfl, fun s U hW hz => va_Nw.warmM hW hz⟩
