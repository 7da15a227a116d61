theorem wrt_get (f g : Nat → Int32) (off j : Nat) : ∀ n, wrtN f g off n j = if off ≤ j ∧ j < off + n then g (j - off) else f j
  | 0 => by
    rw [if_neg (by omega)]
    rfl
  | n + 1 => by
    show upd (wrtN f g off n) (off + n) (g n) j = _
    by_cases h : j = off + n
    · subst h
      rw [pk_us, if_pos (by omega), show off + n - off = n by omega]
    · rw [pk_un h, wrt_get f g off j n]
      by_cases q : off ≤ j ∧ j < off + n
      · rw [if_pos q, if_pos (by omega)]
      · rw [if_neg q, if_neg (by omega)]
theorem ap_ws (f st : Nat → Int32) (off : Nat) : ∀ q, ap f (wsL off st q) = wrtN f st off q
  | 0 => rfl
  | q + 1 => by
    have e : wsL off st (q + 1) = wsL off st q ++ [(off + q, st q)] := by
      unfold wsL
      rw [List.range_succ, List.map_append]
      rfl
    rw [e, ap_app, ap_ws f st off q]
    rfl
theorem ws_take (off : Nat) (st : Nat → Int32) {q n : Nat} (h : q ≤ n) : (wsL off st n).take q = wsL off st q := by
  unfold wsL
  rw [← List.map_take, List.take_range, Nat.min_eq_left h]
theorem ws_len (off : Nat) (st : Nat → Int32) (n : Nat) : (wsL off st n).length = n := by
  unfold wsL
  rw [List.length_map, List.length_range]
theorem many_le (a n : Nat) : manyN a n ≤ n := by
  unfold manyN
  split
  · exact Nat.le_refl n
  · split <;> omega
theorem left_lt {a n : Nat} (ha : a < 2 ^ 31) : leftN a n < 2 ^ 31 := by
  unfold leftN
  split
  · omega
  · split <;> omega
theorem samN_eq {f f2 st st2 : Nat → Int32} {off off2 : Nat} : ∀ n, (∀ t, t < n → f (off + t) = f2 (off2 + t)) → (∀ t, t < n → st t = st2 t) → samN f st off n = samN f2 st2 off2 n
  | 0, _, _ => rfl
  | n + 1, h1, h2 => by
    show (if f (off + n) = st n then samN f st off n else 0) = (if f2 (off2 + n) = st2 n then samN f2 st2 off2 n else 0)
    rw [h1 n (Nat.lt_succ_self n), h2 n (Nat.lt_succ_self n), samN_eq n (fun t ht => h1 t (by omega)) (fun t ht => h2 t (by omega))]
theorem samN_all {f st : Nat → Int32} {off n : Nat} (h : ¬ samN f st off n = 0) : ∀ t, t < n → f (off + t) = st t := fun t ht =>
  Classical.byContradiction fun q => h (samN_no ht q)
theorem samN_of {f st : Nat → Int32} {off : Nat} : ∀ n, (∀ t, t < n → f (off + t) = st t) → ¬ samN f st off n = 0
  | 0, _ => by show ¬ (1 : Int32) = 0; decide
  | n + 1, h => by
    show ¬ (if f (off + n) = st n then samN f st off n else 0) = 0
    rw [if_pos (h n (Nat.lt_succ_self n))]
    exact samN_of n (fun t ht => h t (by omega))
theorem shrN_no {mp sl sg : Nat → Int32} {W : Nat} : ∀ n, n < 2 ^ 31 → shrN mp sl sg W n = -1 → ∀ j, j < n → ¬ usd mp 0 24 (nI j) = 0 → samN sl sg (4 * j) W = 0
  | 0, _, _ => fun j hj => absurd hj (by omega)
  | n + 1, hn, h => fun j hj hu => by
    by_cases c : usd mp 0 24 (nI n) = 0
    · rw [shrN_u c] at h
      rcases Nat.lt_or_ge j n with q | q
      · exact shrN_no n (by omega) h j q hu
      · have : j = n := by omega
        subst this
        exact absurd c hu
    · by_cases c2 : samN sl sg (4 * n) W = 0
      · rw [shrN_n c2] at h
        rcases Nat.lt_or_ge j n with q | q
        · exact shrN_no n (by omega) h j q hu
        · have : j = n := by omega
          subst this
          exact c2
      · rw [shrN_y c c2] at h
        exact absurd h (nI_nm1 (by omega))
theorem shrN_yes {mp sl sg : Nat → Int32} {W i : Nat} : ∀ n, n < 2 ^ 31 → i < 2 ^ 31 → shrN mp sl sg W n = nI i → ¬ usd mp 0 24 (nI i) = 0 ∧ ¬ samN sl sg (4 * i) W = 0
  | 0, _, hi, h => absurd (show (-1 : Int32) = nI i from h).symm (nI_nm1 hi)
  | n + 1, hn, hi, h => by
    by_cases c : usd mp 0 24 (nI n) = 0
    · rw [shrN_u c] at h
      exact shrN_yes n (by omega) hi h
    · by_cases c2 : samN sl sg (4 * n) W = 0
      · rw [shrN_n c2] at h
        exact shrN_yes n (by omega) hi h
      · rw [shrN_y c c2] at h
        have : n = i := (nI_eq (by omega) hi).mp h
        subst this
        exact ⟨c, c2⟩
theorem usN_full {f : Nat → Int32} : ∀ n, (∀ j, j < n → ¬ usd f 0 24 (nI j) = 0) → usN f 0 24 n = n
  | 0, _ => rfl
  | n + 1, h => by
    rw [← usN_hit (h n (Nat.lt_succ_self n)), usN_full n (fun j hj => h j (by omega))]
theorem usN_pos {f : Nat → Int32} {o : Nat} (hu : ¬ usd f 0 24 (nI o) = 0) : ∀ n, o < n → 1 ≤ usN f 0 24 n
  | 0, h => absurd h (by omega)
  | n + 1, h => by
    by_cases c : usd f 0 24 (nI n) = 0
    · rw [← usN_mis c]
      rcases Nat.lt_or_ge o n with q | q
      · exact usN_pos hu n q
      · have : o = n := by omega
        subst this
        exact absurd c hu
    · rw [← usN_hit c]
      omega
theorem chg_down {d : DS} {gM gB gI : Nat} {kd : Int32} {v o : Nat} {s : Int32} (h : ¬ d.2.2.2.2 = 0) (hk : d.1 (gI + 3) = 0) : chg d gM gB gI kd v o s = d := by
  have e : int4 d gI kd v o s = d := by
    unfold int4
    rw [dk_down h, dk_down h, dk_down h, dk_down h]
  unfold chg
  rw [e]
  exact if_pos hk
section WB
variable {gW gC gV gB gM gI : Nat} {st : Nat → Int32} {d : DS} {x : MS}
theorem sw_ws {f sl sg : Nat → Int32} (hW : gW ≤ 4) (hst : ∀ i, i < gW → st i = sg i) (h : sw f sl gW gC) {k q : Nat} (hq : q ≤ gW) : sw (wrtN f st (k * gW) q) (wrtN sl sg (4 * k) q) gW gC := by
  intro k2 i hk2 hi
  rw [wrt_get, wrt_get]
  by_cases e : k2 = k
  · subst e
    by_cases c : i < q
    · rw [if_pos (by omega), if_pos (by omega), show k2 * gW + i - k2 * gW = i by omega, show 4 * k2 + i - 4 * k2 = i by omega]
      exact hst i hi
    · rw [if_neg (by omega), if_neg (by omega)]
      exact h k2 i hk2 hi
  · rw [if_neg (fun p => e (ix_eq (v := k2) (w := k) (b := i) (q := k2 * gW + i - k * gW) (B := gW) hi (by omega) (by omega)).1), if_neg (by omega)]
    exact h k2 i hk2 hi
theorem mok_sl {mp sl sl' : Nat → Int32} (h : mok mp sl gW gC gV gB) (hs : ∀ i, i ≤ gC → ¬ usd mp 0 24 (nI i) = 0 → ∀ t, t < gW → sl' (4 * i + t) = sl (4 * i + t)) : mok mp sl' gW gC gV gB :=
  ⟨h.1, h.2.1, h.2.2.1, fun i j hi hj ui uj hw => h.2.2.2 i j hi hj ui uj (fun t ht => by rw [← hs i hi ui t ht, ← hs j hj uj t ht]; exact hw t ht)⟩
theorem wrt_other {sl sg : Nat → Int32} (hW : gW ≤ 4) {k q i t : Nat} (hq : q ≤ gW) (hne : ¬ i = k) (ht : t < gW) : wrtN sl sg (4 * k) q (4 * i + t) = sl (4 * i + t) := by
  rw [wrt_get, if_neg (by omega)]
theorem r_ws (hg : geo gW gC gV gB gM gI) (R : Rel gW gC gV gB gM gI st d x) (h : d.2.2.2.2 = 0) {k : Nat} (hk : k ≤ gC) (hu : usd x.1 0 24 (nI k) = 0) {q : Nat} (hq : q ≤ gW) (eq : m_many x.2.2.2.2.2.1 (nI gW) = nI q) :
    Rel gW gC gV gB gM gI st (dk_ws d (k * gW) st gW) (x.1, x.2.1, wrtN x.2.2.1 x.2.2.2.1 (4 * k) q, x.2.2.2.1, x.2.2.2.2.1 + m_many x.2.2.2.2.2.1 (nI gW), m_left x.2.2.2.2.2.1 (nI gW), x.2.2.2.2.2.2.1, m_dn x.2.2.2.2.2.1 (nI gW) x.2.2.2.2.2.2.2.1, x.2.2.2.2.2.2.2.2) ∧ (dk_ws d (k * gW) st gW).1 (gI + 3) = 0 := by
  obtain ⟨⟨hW1, hW2⟩, ⟨hC1, hC2⟩, ⟨hV1, hV2⟩, ⟨hB1, hB2⟩, eM, eI⟩ := id hg
  have u := Rel_up R h
  obtain ⟨f, wc, tl, la, pl⟩ := d
  obtain ⟨mp, wa, sl, sg, hp, am, ar, dn, rd⟩ := x
  obtain ⟨⟨r1, r2, r3, r4⟩, r5, ⟨a, ha, r6⟩, r7, r8, r9, r10, r11⟩ := R
  obtain ⟨u1, u2, u3, u4⟩ := u
  have h : pl = 0 := h
  have r1 : wc = hp := r1
  have r2 : tl = am := r2
  have r3 : la = ar := r3
  have u1 : dn = 0 := u1
  have u2 : rd = 0 := u2
  have r6 : tl = nI a := r6
  subst h
  subst u1
  subst u2
  subst r1
  subst r3
  rw [r6] at r2
  subst r6
  subst r2
  have eq : m_many (nI a) (nI gW) = nI q := eq
  have e1 : manyN a gW = q := (nI_eq (by have := many_le a gW; omega) (by omega)).mp ((m_many_of ha (by omega)).symm.trans eq)
  have e2 := run_all f wc la a ha (wsL (k * gW) st gW)
  rw [← ws_run, ws_len, e1, ws_take _ _ hq, ap_ws] at e2
  have hks := geo_slot hg hk (show gW - 1 < gW by omega)
  have hmc : ∀ y, gM ≤ y → wrtN f st (k * gW) q y = f y := fun y hy => by rw [wrt_get, if_neg (by omega)]
  have hz : dnN a gW = 0 ∨ dnN a gW = 1 := by
    unfold dnN
    split
    · exact Or.inl rfl
    · split
      · exact Or.inl rfl
      · exact Or.inr rfl
  have hl0 : ¬ dnN a gW = 0 → leftN a gW = 0 := by
    unfold dnN leftN
    intro hh
    by_cases c1 : a = 0
    · rw [if_pos c1]
    · rw [if_neg c1] at hh ⊢
      by_cases c2 : gW < a
      · rw [if_pos c2] at hh; exact absurd rfl hh
      · rw [if_neg c2]
  show Rel gW gC gV gB gM gI st (dk_ws (f, wc, nI a, la, 0) (k * gW) st gW) (mp, wa, wrtN sl sg (4 * k) q, sg, wc + m_many (nI a) (nI gW), m_left (nI a) (nI gW), la, m_dn (nI a) (nI gW) 0, 0) ∧ (dk_ws (f, wc, nI a, la, 0) (k * gW) st gW).1 (gI + 3) = 0
  rw [e2, eq, m_left_of ha (by omega), m_dn_of ha (by omega)]
  have hkk : wrtN f st (k * gW) q (gI + 3) = 0 := (hmc _ (by omega)).trans u3
  refine ⟨⟨⟨rfl, rfl, rfl, rfl⟩, hz, ⟨leftN a gW, left_lt ha, rfl⟩, fun hh => ?_, r8, sw_ws hW2 r8 r9 hq, ?_, Or.inl ⟨rfl, hkk, ?_⟩⟩, hkk⟩
  · show nI (leftN a gW) = 0
    rw [hl0 hh]
    rfl
  · exact mok_sl r10 (fun i hi ui t ht => wrt_other hW2 hq (fun e => ui (by rw [e]; exact hu)) ht)
  · intro v b hv hb
    show wrtN f st (k * gW) q (gM + v * gB + b) = mp (6 * v + b)
    rw [hmc _ (by omega)]
    exact u4 v b hv hb
theorem mok_new {mp sl sg : Nat → Int32} (hg : geo gW gC gV gB gM gI) (hm : mok mp sl gW gC gV gB) {v b k : Nat} (hv : v < gV) (hb : b < gB) (hk : k ≤ gC) (hku : usd mp 0 24 (nI k) = 0) (hlf : m_lft mp gC (mp (6 * v + b)) ≤ gC) (hno : ∀ j, j < gC + 1 → ¬ usd mp 0 24 (nI j) = 0 → samN sl sg (4 * j) gW = 0) : mok (upd mp (6 * v + b) (nI (k + 1))) (wrtN sl sg (4 * k) gW) gW gC gV gB := by
  obtain ⟨⟨hW1, hW2⟩, ⟨hC1, hC2⟩, ⟨hV1, hV2⟩, ⟨hB1, hB2⟩, eM, eI⟩ := id hg
  have hat : 6 * v + b < 24 := by omega
  have hu : ∀ j, j < gC + 1 → ¬ usd (upd mp (6 * v + b) (nI (k + 1))) 0 24 (nI j) = 0 → j = k ∨ ¬ usd mp 0 24 (nI j) = 0 := by
    intro j hj hu
    obtain ⟨i, hi, e⟩ := usd_ex hu
    by_cases c : i = 6 * v + b
    · rw [c, pk_us] at e
      left
      have := (nI_eq (by omega) (by omega)).mp e
      omega
    · rw [pk_un c] at e
      exact Or.inr (usd_in hi e)
  refine ⟨fun v2 b2 h1 h2 => ?_, fun v2 b2 h1 h2 h3 => ?_, ?_, fun i j hi hj ui uj hw => ?_⟩
  · by_cases c : 6 * v2 + b2 = 6 * v + b
    · rw [c, pk_us]; exact ⟨k + 1, by omega, rfl⟩
    · rw [pk_un c]; exact hm.1 v2 b2 h1 h2
  · rw [pk_un (fun e => h3 ⟨by omega, by omega⟩)]
    exact hm.2.1 v2 b2 h1 h2 h3
  · unfold m_lft at hlf
    by_cases c1 : mp (6 * v + b) ≤ 0
    · rw [if_pos c1] at hlf
      have := (usN_add hu).1
      omega
    · rw [if_neg c1] at hlf
      by_cases c2 : cntC mp 0 (mp (6 * v + b) - 1 + 1) 24 = 1
      · rw [if_pos c2] at hlf
        obtain ⟨i, hi, ei⟩ := hm.1 v b hv hb
        have hi0 : ¬ i = 0 := fun q => c1 (by rw [ei, q]; decide)
        obtain ⟨o, rfl⟩ : ∃ o, i = o + 1 := ⟨i - 1, by omega⟩
        have hou : ¬ usd mp 0 24 (nI o) = 0 := usd_in hat ei
        refine Nat.le_trans (usN_swap hu (show o < gC + 1 by omega) hou (usd_0 (cnt_none (fun j hj e => ?_)))) hlf
        rw [Nat.zero_add] at e
        by_cases c : j = 6 * v + b
        · rw [c, pk_us, nI_1] at e
          have : k + 1 = o + 1 := (nI_eq (by omega) (by omega)).mp e
          have : k = o := by omega
          subst this
          exact hou hku
        · rw [pk_un c] at e
          have := cnt_two (f := mp) (lo := 0) (n := 24) (v := mp (6 * v + b) - 1 + 1) hj hat c (by rw [Nat.zero_add, e, Int32.sub_add_cancel, ei, nI_1]) (by rw [Nat.zero_add, Int32.sub_add_cancel])
          omega
      · rw [if_neg c2] at hlf
        have := (usN_add hu).1
        omega
  · by_cases ci : i = k
    · by_cases cj : j = k
      · omega
      · exfalso
        have uj2 := (hu j (by omega) uj).resolve_left cj
        refine samN_of gW (fun t ht => ?_) (hno j (by omega) uj2)
        have e := hw t ht
        rw [wrt_other hW2 (Nat.le_refl gW) cj ht, ci, wrt_get, if_pos (by omega), show 4 * k + t - 4 * k = t by omega] at e
        exact e.symm
    · by_cases cj : j = k
      · exfalso
        have ui2 := (hu i (by omega) ui).resolve_left ci
        refine samN_of gW (fun t ht => ?_) (hno i (by omega) ui2)
        have e := hw t ht
        rw [wrt_other hW2 (Nat.le_refl gW) ci ht, cj, wrt_get, if_pos (by omega), show 4 * k + t - 4 * k = t by omega] at e
        exact e
      · refine hm.2.2.2 i j hi hj ((hu i (by omega) ui).resolve_left ci) ((hu j (by omega) uj).resolve_left cj) (fun t ht => ?_)
        have e := hw t ht
        rw [wrt_other hW2 (Nat.le_refl gW) ci ht, wrt_other hW2 (Nat.le_refl gW) cj ht] at e
        exact e
theorem lft_eq (hg : geo gW gC gV gB gM gI) (R : Rel gW gC gV gB gM gI st d x) (h : d.2.2.2.2 = 0) {v b : Nat} (hv : v < gV) (hb : b < gB) : x_uwo d.1 gM (gV * gB) gC (d.1 (gM + v * gB + b)) < nI gC ↔ m_lft x.1 gC (x.1 (6 * v + b)) ≤ gC := by
  obtain ⟨⟨hW1, hW2⟩, ⟨hC1, hC2⟩, ⟨hV1, hV2⟩, ⟨hB1, hB2⟩, eM, eI⟩ := id hg
  obtain ⟨u1, u2, u3, u4⟩ := Rel_up R h
  have hm := R.2.2.2.2.2.2.1
  have hul := usN_le x.1 0 24 (gC + 1)
  unfold x_uwo m_lft
  rw [u4 v b hv hb, uN_eq hg R h]
  by_cases c3 : x.1 (6 * v + b) = 0
  · rw [if_pos (m1_iff.mpr c3), if_pos (show x.1 (6 * v + b) ≤ 0 by rw [c3]; decide), nI_ltI (by omega) (by omega)]
    omega
  · obtain ⟨i, hi, ei⟩ := hm.1 v b hv hb
    have hi0 : ¬ i = 0 := fun q => c3 (by rw [ei, q]; rfl)
    have c1 : ¬ x.1 (6 * v + b) ≤ 0 := by rw [ei]; exact nI_nle (by omega) (by omega)
    rw [if_neg (show ¬ x.1 (6 * v + b) - 1 = -1 from fun q => c3 (m1_iff.mp q)), if_neg c1, Int32.sub_add_cancel, cnt_vw hV2 hB2 u4 hm.2.1 c3]
    by_cases c2 : cntC x.1 0 (x.1 (6 * v + b)) 24 = 1
    · rw [if_pos c2, if_pos c2]
      obtain ⟨o, rfl⟩ : ∃ o, i = o + 1 := ⟨i - 1, by omega⟩
      have hp := usN_pos (usd_in (mp := x.1) (k := o) (show 6 * v + b < 24 by omega) ei) (gC + 1) (by omega)
      obtain ⟨U, eU⟩ : ∃ U, usN x.1 0 24 (gC + 1) = U + 1 := ⟨usN x.1 0 24 (gC + 1) - 1, by omega⟩
      rw [eU, nI_pred, nI_ltI (by omega) (by omega)]
      omega
    · rw [if_neg c2, if_neg c2, nI_ltI (by omega) (by omega)]
      omega
set_option maxHeartbeats 4000000 in
theorem t_wb (hg : geo gW gC gV gB gM gI) (R : Rel gW gC gV gB gM gI st d x) {vol lb r r' : Int32} {u : XS} {u' : MS} (hx : x_wb st d gW gC gV gB gM gI vol lb r u) (hm : m_wb x.1 x.2.1 x.2.2.1 x.2.2.2.1 x.2.2.2.2.1 x.2.2.2.2.2.1 x.2.2.2.2.2.2.1 x.2.2.2.2.2.2.2.1 x.2.2.2.2.2.2.2.2 gW gC gV gB vol lb r' u') : r = r' ∧ Rel gW gC gV gB gM gI u.1 u.2 u' := by
  obtain ⟨⟨hW1, hW2⟩, ⟨hC1, hC2⟩, ⟨hV1, hV2⟩, ⟨hB1, hB2⟩, eM, eI⟩ := id hg
  have hd : x.2.2.2.2.2.2.2.1 = d.2.2.2.2 := R.1.2.2.2.symm
  unfold x_wb at hx
  unfold m_wb at hm
  rw [hd] at hm
  rcases hx with ⟨h, e1, e2⟩ | ⟨h, hB, e1, e2⟩ | ⟨h, hB, v, b, hv, hb, ev, eb, hx⟩
  · rcases hm with ⟨_, f1, f2⟩ | ⟨h', _⟩ | ⟨h', _⟩
    · rw [e1, f1, e2, f2, ← hd]
      exact ⟨rfl, R⟩
    · exact absurd h' h
    · exact absurd h' h
  · rcases hm with ⟨h', _⟩ | ⟨_, _, f1, f2⟩ | ⟨_, hB', _⟩
    · exact absurd h h'
    · rw [e1, f1, e2, f2, ← hd]
      exact ⟨rfl, R⟩
    · exact absurd hB hB'
  · rcases hm with ⟨h', _⟩ | ⟨_, hB', _⟩ | ⟨_, _, v', b', hv', hb', ev', eb', hm⟩
    · exact absurd h h'
    · exact absurd hB' hB
    have e1 : v' = v := (nI_eq (by omega) (by omega)).mp (ev'.symm.trans ev)
    have e2 : b' = b := (nI_eq (by omega) (by omega)).mp (eb'.symm.trans eb)
    subst e1
    subst e2
    rw [← hd] at hm
    obtain ⟨u1, u2, u3, u4⟩ := Rel_up R h
    have hmk := R.2.2.2.2.2.2.1
    have hsm : ∀ j, j ≤ gC → samN d.1 st (j * gW) gW = samN x.2.2.1 x.2.2.2.1 (4 * j) gW := fun j hj => samN_eq gW (fun t ht => R.2.2.2.2.2.1 j t hj ht) R.2.2.2.2.1
    have hus : ∀ j, j ≤ gC → usd d.1 gM (gV * gB) (nI j) = usd x.1 0 24 (nI j) := fun j hj => us_eq hg R h (by omega)
    have hcell := u4 v' b' hv hb
    rcases hx with ⟨hno, hx⟩ | ⟨i, hi, hsa, hu, hx⟩
    ·
      have hno2 : ∀ j, j < gC + 1 → ¬ usd x.1 0 24 (nI j) = 0 → samN x.2.2.1 x.2.2.2.1 (4 * j) gW = 0 := fun j hj hu2 => Classical.byContradiction fun q => hno j hj ⟨by rw [hsm j (by omega)]; exact q, by rw [hus j (by omega)]; exact hu2⟩
      have nosh : ∀ i, i ≤ gC → ¬ shrN x.1 x.2.2.1 x.2.2.2.1 gW (gC + 1) = nI i := fun i hi e => by
        have q := shrN_yes (gC + 1) (by omega) (by omega) e
        exact q.2 (hno2 i (by omega) q.1)
      rcases hm with ⟨i, hi, e, _⟩ | ⟨i, hi, e, _⟩ | ⟨_, hl, f1, f2⟩ | ⟨_, hl, k', hk', hkj', hku', q, hq, eq, hm⟩
      · exact absurd e (nosh i hi)
      · exact absurd e (nosh i hi)
      · rcases hx with ⟨_, g1, g2⟩ | ⟨hl2, _⟩
        · rw [f1, f2, g1, g2]
          exact ⟨rfl, R⟩
        · exact absurd ((lft_eq hg R h hv hb).mp hl2) hl
      · rcases hx with ⟨hl2, _⟩ | ⟨_, k, hk, hkj, hku, g1, g2⟩
        · exact absurd ((lft_eq hg R h hv hb).mpr hl) hl2
        have ekk : k' = k := by
          rcases Nat.lt_trichotomy k' k with c | c | c
          · exact absurd (by rw [hus k' (by omega)]; exact hku') (hkj k' c)
          · exact c
          · exfalso
            rcases Nat.lt_or_ge k gC with p | p
            · exact hkj' k c (by rw [← hus k (by omega)]; exact hku p)
            · have := usN_full (f := x.1) (gC + 1) (fun j hj => hkj' j (by omega))
              have := hmk.2.2.1
              omega
        subst ekk
        obtain ⟨R1, hk1⟩ := r_ws hg R h hk hku' hq eq
        generalize hD1 : dk_ws d (k' * gW) st gW = D1 at R1 hk1 g1 g2
        have hd1 : D1.2.2.2.2 = m_dn x.2.2.2.2.2.1 (nI gW) x.2.2.2.2.2.2.2.1 := R1.1.2.2.2
        rcases hm with ⟨c, f1, f2⟩ | ⟨c, f1, f2⟩
        · have hdn : ¬ D1.2.2.2.2 = 0 := by rw [hd1]; exact c
          rw [chg_down hdn hk1] at g1 g2
          rw [f1, f2, g1, g2]
          refine ⟨?_, R1⟩
          unfold ans
          rw [if_neg hdn]
        · have hdn : D1.2.2.2.2 = 0 := by rw [hd1]; exact c
          have hqW : q = gW := by
            obtain ⟨a, ha, ea⟩ := R.2.2.1
            have ea : x.2.2.2.2.2.1 = nI a := by rw [← R.1.2.1]; exact ea
            rw [u1, ea, m_dn_of ha (by omega)] at c
            rw [ea, m_many_of ha (by omega)] at eq
            have e1 : manyN a gW = q := (nI_eq (by have := many_le a gW; omega) (by omega)).mp eq
            unfold dnN at c
            unfold manyN at e1
            by_cases c1 : a = 0
            · rw [if_pos c1] at e1; exact e1.symm
            · rw [if_neg c1] at c e1
              by_cases c2 : gW < a
              · rw [if_pos c2] at e1; exact e1.symm
              · rw [if_neg c2] at c
                exact absurd c (by decide)
          subst hqW
          have key := r_map hg R1 hdn hv hb (nI_1 k') (mok_new hg hmk hv hb hk hku' hl hno2)
          dsimp only at key
          rw [f1, f2, g1, g2]
          dsimp only
          exact key
    ·
      have hu2 : ¬ usd x.1 0 24 (nI i) = 0 := by rw [← hus i hi]; exact hu
      have hsa2 : ¬ samN x.2.2.1 x.2.2.2.1 (4 * i) gW = 0 := by rw [← hsm i hi]; exact hsa
      have only : ∀ i2, i2 ≤ gC → shrN x.1 x.2.2.1 x.2.2.2.1 gW (gC + 1) = nI i2 → i2 = i := fun i2 hi2 e => by
        have q := shrN_yes (gC + 1) (by omega) (by omega) e
        exact hmk.2.2.2 i2 i hi2 hi q.1 hu2 (fun t ht => by rw [samN_all q.2 t ht, samN_all hsa2 t ht])
      have hceq : nI i = d.1 (gM + v' * gB + b') - 1 ↔ x.1 (6 * v' + b') = nI (i + 1) := by
        rw [hcell]
        constructor
        · intro e
          rw [← nI_1, e, Int32.sub_add_cancel]
        · intro e
          rw [e, nI_pred]
      rcases hm with ⟨i2, hi2, e, hc, f1, f2⟩ | ⟨i2, hi2, e, hc, f1, f2⟩ | ⟨e, _⟩ | ⟨e, _⟩
      · have := only i2 hi2 e
        subst this
        rcases hx with ⟨_, g1, g2⟩ | ⟨hc2, _⟩
        · rw [f1, f2, g1, g2]
          exact ⟨rfl, R⟩
        · exact absurd (hceq.mpr hc) hc2
      · have := only i2 hi2 e
        subst this
        rcases hx with ⟨hc2, _⟩ | ⟨_, g1, g2⟩
        · exact absurd (hceq.mp hc2) hc
        · rw [f1, f2, g1, g2]
          obtain ⟨j, hj, ej⟩ := usd_ex hu2
          have key := r_map hg R h hv hb (nI_1 i2) (mok_put hg hmk hv hb (Or.inr ⟨j, hj, ej.symm⟩))
          dsimp only
          exact key
      · exact absurd (shrN_no (gC + 1) (by omega) e i (by omega) hu2) hsa2
      · exact absurd (shrN_no (gC + 1) (by omega) e i (by omega) hu2) hsa2
end WB
