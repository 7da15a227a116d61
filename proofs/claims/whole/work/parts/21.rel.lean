def vw (f mp : Nat → Int32) (gV gB gM : Nat) : Prop := ∀ v b, v < gV → b < gB → f (gM + v * gB + b) = mp (6 * v + b)
def sw (f sl : Nat → Int32) (gW gC : Nat) : Prop := ∀ k i, k ≤ gC → i < gW → f (k * gW + i) = sl (4 * k + i)
def mok (mp sl : Nat → Int32) (gW gC gV gB : Nat) : Prop :=
  (∀ v b, v < gV → b < gB → ∃ j, j ≤ gC + 1 ∧ mp (6 * v + b) = nI j) ∧
  (∀ v b, v < 4 → b < 6 → ¬ (v < gV ∧ b < gB) → mp (6 * v + b) = 0) ∧
  usN mp 0 24 (gC + 1) ≤ gC ∧
  (∀ i j, i ≤ gC → j ≤ gC → ¬ usd mp 0 24 (nI i) = 0 → ¬ usd mp 0 24 (nI j) = 0 → (∀ t, t < gW → sl (4 * i + t) = sl (4 * j + t)) → i = j)
def pend (gV gB gM gI : Nat) (d : DS) (mp : Nat → Int32) (rd : Int32) : Prop :=
  (rd = 0 ∧ d.1 (gI + 3) = 0 ∧ vw d.1 mp gV gB gM) ∨
  (¬ d.2.2.2.2 = 0 ∧ ¬ rd ≤ 0 ∧ okI d gV gB gI ∧ ∃ f' : Nat → Int32, carry (d.1, d.2.1, 0, d.2.2.2.1, 0) gM gB gI = (f', d.2.1 + rd + 1, 0, d.2.2.2.1, 0) ∧ f' (gI + 3) = 0 ∧ vw f' mp gV gB gM ∧ ∀ x, x < gM → f' x = d.1 x)
def Rel (gW gC gV gB gM gI : Nat) (st : Nat → Int32) (d : DS) (x : MS) : Prop :=
  (d.2.1 = x.2.2.2.2.1 ∧ d.2.2.1 = x.2.2.2.2.2.1 ∧ d.2.2.2.1 = x.2.2.2.2.2.2.1 ∧ d.2.2.2.2 = x.2.2.2.2.2.2.2.1) ∧
  (d.2.2.2.2 = 0 ∨ d.2.2.2.2 = 1) ∧ (∃ a, a < 2 ^ 31 ∧ d.2.2.1 = nI a) ∧ (¬ d.2.2.2.2 = 0 → d.2.2.1 = 0) ∧
  (∀ i, i < gW → st i = x.2.2.2.1 i) ∧ sw d.1 x.2.2.1 gW gC ∧ mok x.1 x.2.2.1 gW gC gV gB ∧ pend gV gB gM gI d x.1 x.2.2.2.2.2.2.2.2
def i4L (gI : Nat) (kd : Int32) (v o : Nat) (s : Int32) : List (Nat × Int32) := [(gI, nI v), (gI + 1, nI o), (gI + 2, s), (gI + 3, kd)]
theorem i4L_mem {gI : Nat} {kd : Int32} {v o : Nat} {s : Int32} {w : Nat × Int32} (h : w ∈ i4L gI kd v o s) : gI ≤ w.1 := by
  unfold i4L at h
  simp only [List.mem_cons, List.not_mem_nil, or_false] at h
  rcases h with rfl | rfl | rfl | rfl
  · exact Nat.le_refl _
  · exact Nat.le_add_right _ _
  · exact Nat.le_add_right _ _
  · exact Nat.le_add_right _ _
theorem t_chg {gW gC gV gB gM gI : Nat} (hg : geo gW gC gV gB gM gI) {st f mp wa sl sg : Nat → Int32} {wc la : Int32} {a : Nat} (ha : a < 2 ^ 31)
    (hst : ∀ i, i < gW → st i = sg i) (hsw : sw f sl gW gC) (hk0 : f (gI + 3) = 0) (hvw : vw f mp gV gB gM) (hm : mok mp sl gW gC gV gB) (hm' : mok (cpyN mp wa 24) sl gW gC gV gB)
    (kd : Int32) (hkd : ¬ kd = 0) (v o : Nat) (s : Int32) (hv : v < gV) (ho : okO kd o gV gB)
    (N : List (Nat × Int32)) (nn : Nat) (hn1 : 1 ≤ nn) (hn6 : nn ≤ 6) (hlen : N.length = nn) (hN : ∀ w ∈ N, gM ≤ w.1 ∧ w.1 < gI)
    (hview : ∀ v b, v < gV → b < gB → ap f N (gM + v * gB + b) = cpyN mp wa 24 (6 * v + b))
    (hcar : ∀ (j : Nat) (F : Nat → Int32) (wc tl la pl : Int32), F gI = nI v → F (gI + 1) = nI o → F (gI + 2) = s → F (gI + 3) = kd → (∀ x, gM ≤ x → x < gI → F x = ap f (N.take j) x) → carry (F, wc, tl, la, pl) gM gB gI = dk_run (F, wc, tl, la, pl) (N ++ [(gI + 3, 0)])) :
    ans (chg (f, wc, nI a, la, 0) gM gB gI kd v o s) = (m_chg mp wa sl sg wc (nI a) la 0 0 gW gC gV gB (nI nn)).1 ∧ Rel gW gC gV gB gM gI st (chg (f, wc, nI a, la, 0) gM gB gI kd v o s) (m_chg mp wa sl sg wc (nI a) la 0 0 gW gC gV gB (nI nn)).2 := by
  have hMI : gM ≤ gI := by have q := hg.2.2.2.2.2; omega
  obtain ⟨I4, eI4⟩ : ∃ z, z = i4L gI kd v o s := ⟨_, rfl⟩
  have hI4m : ∀ w ∈ I4, gI ≤ w.1 := fun w h => i4L_mem (by rw [← eI4]; exact h)
  have hI4l : I4.length = 4 := by rw [eI4]; rfl
  have hc0 : ∀ F : Nat → Int32, (ap F I4) gI = nI v ∧ (ap F I4) (gI + 1) = nI o ∧ (ap F I4) (gI + 2) = s ∧ (ap F I4) (gI + 3) = kd := by
    intro F
    rw [eI4]
    show upd (upd (upd (upd F gI (nI v)) (gI + 1) (nI o)) (gI + 2) s) (gI + 3) kd gI = nI v ∧ upd (upd (upd (upd F gI (nI v)) (gI + 1) (nI o)) (gI + 2) s) (gI + 3) kd (gI + 1) = nI o ∧ upd (upd (upd (upd F gI (nI v)) (gI + 1) (nI o)) (gI + 2) s) (gI + 3) kd (gI + 2) = s ∧ upd (upd (upd (upd F gI (nI v)) (gI + 1) (nI o)) (gI + 2) s) (gI + 3) kd (gI + 3) = kd
    refine ⟨?_, ?_, ?_, pk_us⟩
    · rw [pk_un (by omega), pk_un (by omega), pk_un (by omega), pk_us]
    · rw [pk_un (by omega), pk_un (by omega), pk_us]
    · rw [pk_un (by omega), pk_us]
  have e1 : chg (f, wc, nI a, la, 0) gM gB gI kd v o s = dk_run (f, wc, nI a, la, 0) (I4 ++ (N ++ [(gI + 3, 0)])) := by
    rw [dk_run_app]
    have e4 : int4 (f, wc, nI a, la, 0) gI kd v o s = dk_run (f, wc, nI a, la, 0) I4 := by rw [eI4]; rfl
    unfold chg
    have two := int4_two (f, wc, nI a, la, 0) gI kd v o s
    rw [e4] at two ⊢
    rcases two with ⟨t1, t2⟩ | ⟨t1, t2⟩
    · have hF : (dk_run (f, wc, nI a, la, 0) I4).1 = ap f I4 := by rw [t1, eI4]; rfl
      generalize dk_run (f, wc, nI a, la, 0) I4 = D at hF
      obtain ⟨F, w2, t2, l2, p2⟩ := D
      have hF : F = ap f I4 := hF
      have c4 := hc0 f
      rw [← hF] at c4
      refine hcar 0 F w2 t2 l2 p2 c4.1 c4.2.1 c4.2.2.1 c4.2.2.2 (fun x h1 h2 => ?_)
      rw [hF]
      show ap f I4 x = f x
      exact ap_nin (fun w hw e => by have := hI4m w hw; omega)
    · rw [dk_run_down t2]
      unfold carry
      rw [if_pos (t1.trans hk0)]
  have hL : (I4 ++ (N ++ [(gI + 3, (0 : Int32))])).length = nn + 5 := by
    rw [List.length_append, List.length_append, hI4l, hlen]
    show 4 + (nn + 1) = nn + 5
    omega
  have e2 := run_all f wc la a ha (I4 ++ (N ++ [(gI + 3, (0 : Int32))]))
  rw [hL] at e2
  have e5 : nI nn + 5 = nI (nn + 5) := nI_add nn 5
  have em : m_many (nI a) (nI nn + 5) = nI (manyN a (nn + 5)) := by rw [e5]; exact m_many_of ha (by omega)
  have el : m_left (nI a) (nI nn + 5) = nI (leftN a (nn + 5)) := by rw [e5]; exact m_left_of ha (by omega)
  have ed : m_dn (nI a) (nI nn + 5) 0 = dnN a (nn + 5) := by rw [e5]; exact m_dn_of ha (by omega)
  rw [e1, e2]
  unfold m_chg
  rw [em, el, ed]
  have slo : ∀ (F : Nat → Int32) (L : List (Nat × Int32)), (∀ w ∈ L, gM ≤ w.1) → ∀ x, x < gM → ap F L x = F x := fun F L h x hx => ap_nin (fun w hw e => by have := h w hw; omega)
  have hLm : ∀ w ∈ I4 ++ (N ++ [(gI + 3, (0 : Int32))]), gM ≤ w.1 := by
    intro w hw
    rcases List.mem_append.mp hw with q | q
    · have := hI4m w q; omega
    · rcases List.mem_append.mp q with q | q
      · exact (hN w q).1
      · rw [List.mem_singleton.mp q]; show gM ≤ gI + 3; omega
  have sws : ∀ F : Nat → Int32, (∀ x, x < gM → F x = f x) → sw F sl gW gC := fun F h k i hk hi => by
    rw [h _ (geo_slot hg hk hi)]
    exact hsw k i hk hi
  have hmap : ∀ v b, v < gV → b < gB → gM ≤ gM + v * gB + b ∧ gM + v * gB + b < gI := fun v b h1 h2 => ⟨by omega, geo_map hg h1 h2⟩
  by_cases hlost : a = 0 ∨ nn + 5 < a
  · have eK : manyN a (nn + 5) = nn + 5 := by
      unfold manyN
      rcases hlost with q | q
      · rw [if_pos q]
      · rw [if_neg (by omega), if_pos q]
    have eD : dnN a (nn + 5) = 0 := by
      unfold dnN
      rcases hlost with q | q
      · rw [if_pos q]
      · rw [if_neg (by omega), if_pos q]
    have hlt : ¬ nI (nn + 5) < 4 := nI_nlt (b := 4) (by omega) (by omega)
    rw [eK, eD]
    refine ⟨rfl, ⟨rfl, rfl, rfl, rfl⟩, Or.inl rfl, ⟨leftN a (nn + 5), ?_, rfl⟩, fun h => absurd rfl h, hst, ?_, ?_, ?_⟩
    · unfold leftN
      split
      · omega
      · split <;> omega
    · exact sws _ (slo f _ (fun w hw => hLm w (List.mem_of_mem_take hw)))
    · show mok (if nI (nn + 5) < 4 then mp else cpyN mp wa 24) sl gW gC gV gB
      rw [if_neg hlt]
      exact hm'
    · left
      show (if nI (nn + 5) < 4 then (0 : Int32) else if (0 : Int32) = 0 then 0 else nI nn) = 0 ∧ ap f ((I4 ++ (N ++ [(gI + 3, (0 : Int32))])).take (nn + 5)) (gI + 3) = 0 ∧ vw (ap f ((I4 ++ (N ++ [(gI + 3, (0 : Int32))])).take (nn + 5))) (if nI (nn + 5) < 4 then mp else cpyN mp wa 24) gV gB gM
      rw [if_neg hlt, if_neg hlt, if_pos rfl, List.take_of_length_le (by omega)]
      refine ⟨rfl, ?_, fun v b h1 h2 => ?_⟩
      · rw [← List.append_assoc]
        exact ap_last _ _ _ _
      · rw [← hview v b h1 h2, ap_app, ap_app, ap_nin (f := ap (ap f I4) N)]
        · exact ap_cong (ap_nin (fun w hw e => by have := hI4m w hw; have := (hmap v b h1 h2).2; omega))
        · intro w hw e
          rw [List.mem_singleton.mp hw] at e
          have e : gI + 3 = gM + v * gB + b := e
          have := (hmap v b h1 h2).2
          omega
  · have ha0 : ¬ a = 0 := fun q => hlost (Or.inl q)
    have han : ¬ nn + 5 < a := fun q => hlost (Or.inr q)
    have eK : manyN a (nn + 5) = a - 1 := by unfold manyN; rw [if_neg ha0, if_neg han]
    have eD : dnN a (nn + 5) = 1 := by unfold dnN; rw [if_neg ha0, if_neg han]
    have eLf : leftN a (nn + 5) = 0 := by unfold leftN; rw [if_neg ha0, if_neg han]
    rw [eK, eD, eLf]
    by_cases h4 : a - 1 < 4
    · have hlt : nI (a - 1) < 4 := nI_lt (b := 4) h4 (by omega)
      have etk : (I4 ++ (N ++ [(gI + 3, (0 : Int32))])).take (a - 1) = I4.take (a - 1) := List.take_append_of_le_length (by omega)
      rw [etk]
      have hm3 : ∀ w ∈ I4.take (a - 1), gI ≤ w.1 ∧ ¬ w.1 = gI + 3 := by
        intro w hw
        refine ⟨hI4m w (List.mem_of_mem_take hw), ?_⟩
        have hw3 : w ∈ I4.take 3 := by
          have : I4.take (a - 1) = (I4.take 3).take (a - 1) := by rw [List.take_take, Nat.min_eq_left (by omega)]
          rw [this] at hw
          exact List.mem_of_mem_take hw
        rw [eI4] at hw3
        have hw3 : w ∈ [(gI, nI v), (gI + 1, nI o), (gI + 2, s)] := hw3
        simp only [List.mem_cons, List.not_mem_nil, or_false] at hw3
        rcases hw3 with rfl | rfl | rfl
        · show ¬ gI = gI + 3; omega
        · show ¬ gI + 1 = gI + 3; omega
        · show ¬ gI + 2 = gI + 3; omega
      refine ⟨rfl, ⟨rfl, rfl, rfl, rfl⟩, Or.inr rfl, ⟨0, by omega, rfl⟩, fun _ => rfl, hst, ?_, ?_, ?_⟩
      · exact sws _ (slo f _ (fun w hw => by have := (hm3 w hw).1; omega))
      · show mok (if nI (a - 1) < 4 then mp else cpyN mp wa 24) sl gW gC gV gB
        rw [if_pos hlt]
        exact hm
      · left
        show (if nI (a - 1) < 4 then (0 : Int32) else if (1 : Int32) = 0 then 0 else nI nn) = 0 ∧ ap f (I4.take (a - 1)) (gI + 3) = 0 ∧ vw (ap f (I4.take (a - 1))) (if nI (a - 1) < 4 then mp else cpyN mp wa 24) gV gB gM
        rw [if_pos hlt, if_pos hlt]
        refine ⟨rfl, ?_, fun v b h1 h2 => ?_⟩
        · rw [ap_nin (fun w hw => (hm3 w hw).2)]
          exact hk0
        · rw [ap_nin (fun w hw e => by have := (hm3 w hw).1; have := (hmap v b h1 h2).2; omega)]
          exact hvw v b h1 h2
    · have hlt : ¬ nI (a - 1) < 4 := nI_nlt (b := 4) (by omega) (by omega)
      have etk : (I4 ++ (N ++ [(gI + 3, (0 : Int32))])).take (a - 1) = I4 ++ N.take (a - 1 - 4) := by
        rw [List.take_append, List.take_of_length_le (by omega), hI4l, List.take_append_of_le_length (by omega)]
      rw [etk]
      obtain ⟨j, ej⟩ : ∃ z, z = a - 1 - 4 := ⟨_, rfl⟩
      rw [← ej]
      have hNj : ∀ w ∈ N.take j, gM ≤ w.1 ∧ w.1 < gI := fun w hw => hN w (List.mem_of_mem_take hw)
      obtain ⟨F, eF⟩ : ∃ z, z = ap f (I4 ++ N.take j) := ⟨_, rfl⟩
      have eF2 : F = ap (ap f I4) (N.take j) := by rw [eF, ap_app]
      rw [← eF]
      have hFi : ∀ x, gI ≤ x → F x = ap f I4 x := fun x hx => by
        rw [eF2]
        exact ap_nin (fun w hw e => by have := (hNj w hw).2; omega)
      have c4 := hc0 f
      rw [← hFi gI (by omega), ← hFi (gI + 1) (by omega), ← hFi (gI + 2) (by omega), ← hFi (gI + 3) (by omega)] at c4
      have hFm : ∀ x, gM ≤ x → x < gI → F x = ap f (N.take j) x := fun x h1 h2 => by
        rw [eF2]
        exact ap_cong (ap_nin (fun w hw e => by have := hI4m w hw; omega))
      have hFs : ∀ x, x < gM → F x = f x := fun x hx => by
        rw [eF]
        exact slo f _ (fun w hw => by
          rcases List.mem_append.mp hw with q | q
          · have := hI4m w q; omega
          · exact (hNj w q).1) x hx
      have hrd : ¬ nI nn ≤ 0 := nI_nle (by omega) (by omega)
      refine ⟨rfl, ⟨rfl, rfl, rfl, rfl⟩, Or.inr rfl, ⟨0, by omega, rfl⟩, fun _ => rfl, hst, sws _ hFs, ?_, ?_⟩
      · show mok (if nI (a - 1) < 4 then mp else cpyN mp wa 24) sl gW gC gV gB
        rw [if_neg hlt]
        exact hm'
      · right
        have erd : (if nI (a - 1) < 4 then (0 : Int32) else if (1 : Int32) = 0 then 0 else nI nn) = nI nn := by rw [if_neg hlt, if_neg (by decide)]
        have emp : (if nI (a - 1) < 4 then mp else cpyN mp wa 24) = cpyN mp wa 24 := by rw [if_neg hlt]
        show ¬ (1 : Int32) = 0 ∧ ¬ (if nI (a - 1) < 4 then (0 : Int32) else if (1 : Int32) = 0 then 0 else nI nn) ≤ 0 ∧ okI (F, wc + nI (a - 1), nI 0, la, 1) gV gB gI ∧ ∃ f' : Nat → Int32, carry (F, wc + nI (a - 1), 0, la, 0) gM gB gI = (f', wc + nI (a - 1) + (if nI (a - 1) < 4 then (0 : Int32) else if (1 : Int32) = 0 then 0 else nI nn) + 1, 0, la, 0) ∧ f' (gI + 3) = 0 ∧ vw f' (if nI (a - 1) < 4 then mp else cpyN mp wa 24) gV gB gM ∧ ∀ x, x < gM → f' x = F x
        rw [erd, emp]
        refine ⟨by decide, hrd, fun _ => ?_, ap F (N ++ [(gI + 3, 0)]), ?_, ap_last _ _ _ _, fun v b h1 h2 => ?_, ?_⟩
        · refine ⟨⟨v, hv, c4.1⟩, fun q => ⟨o, ho.1 (c4.2.2.2.symm.trans q), c4.2.1⟩, fun q => ⟨o, ho.2 (c4.2.2.2.symm.trans q), c4.2.1⟩⟩
        · rw [hcar j F _ _ _ _ c4.1 c4.2.1 c4.2.2.1 c4.2.2.2 hFm, run_off]
          have : (N ++ [(gI + 3, (0 : Int32))]).length = nn + 1 := by rw [List.length_append, hlen]; rfl
          rw [this, ← nI_1, Int32.add_assoc (wc + nI (a - 1)) (nI nn) 1]
        · rw [← hview v b h1 h2, ap_app, ap_nin (f := ap F N)]
          · have hx := hmap v b h1 h2
            rw [← ap_again (j := j) (f := f)]
            exact ap_cong (hFm _ hx.1 hx.2)
          · intro w hw e
            rw [List.mem_singleton.mp hw] at e
            have e : gI + 3 = gM + v * gB + b := e
            have := (hmap v b h1 h2).2
            omega
        · intro x hx
          exact slo F _ (fun w hw => by
            rcases List.mem_append.mp hw with q | q
            · exact (hN w q).1
            · rw [List.mem_singleton.mp q]; show gM ≤ gI + 3; omega) x hx
