theorem ap_row {f g : Nat → Int32} {lo b v v2 b2 : Nat} (hb : b2 < b) : ∀ k, k ≤ b → ap f (rowL lo b v g k) (lo + v2 * b + b2) = if v2 = v ∧ b2 < k then g b2 else f (lo + v2 * b + b2)
  | 0, _ => by
    rw [if_neg (by omega)]
    rfl
  | k + 1, hk => by
    rw [rowL_s, ap_app]
    show upd (ap f (rowL lo b v g k)) (lo + v * b + k) (g k) (lo + v2 * b + b2) = _
    by_cases e : lo + v2 * b + b2 = lo + v * b + k
    · obtain ⟨e1, e2⟩ := ix_eq (v := v2) (w := v) (b := b2) (q := k) (B := b) hb (by omega) (by omega)
      subst e1
      subst e2
      rw [pk_us, if_pos ⟨rfl, Nat.lt_succ_self b2⟩]
    · rw [pk_un e, ap_row hb k (by omega)]
      by_cases q : v2 = v ∧ b2 < k
      · rw [if_pos q, if_pos ⟨q.1, by omega⟩]
      · rw [if_neg q, if_neg (fun p => by
          obtain ⟨p1, p2⟩ := p
          subst p1
          have : b2 = k := by omega
          subst this
          exact e rfl)]
section KD
variable {gW gC gV gB gM gI : Nat} {st f mp wa sl sg : Nat → Int32} {wc la : Int32} {a : Nat}
theorem t_map (hg : geo gW gC gV gB gM gI) (ha : a < 2 ^ 31) (hst : ∀ i, i < gW → st i = sg i) (hsw : sw f sl gW gC) (hk0 : f (gI + 3) = 0) (hvw : vw f mp gV gB gM) (hm : mok mp sl gW gC gV gB)
    {v b : Nat} (hv : v < gV) (hb : b < gB) {s c : Int32} (hc : s + 1 = c) (hm' : mok (upd mp (6 * v + b) c) sl gW gC gV gB) :
    ans (chg (f, wc, nI a, la, 0) gM gB gI 1 v b s) = (m_chg mp (upd (cpyN wa mp 24) (6 * v + b) c) sl sg wc (nI a) la 0 0 gW gC gV gB 1).1 ∧ Rel gW gC gV gB gM gI st (chg (f, wc, nI a, la, 0) gM gB gI 1 v b s) (m_chg mp (upd (cpyN wa mp 24) (6 * v + b) c) sl sg wc (nI a) la 0 0 gW gC gV gB 1).2 := by
  obtain ⟨⟨hW1, hW2⟩, ⟨hC1, hC2⟩, ⟨hV1, hV2⟩, ⟨hB1, hB2⟩, eM, eI⟩ := id hg
  have hat : 6 * v + b < 24 := by omega
  have hmc := geo_map hg hv hb
  refine t_chg hg ha hst hsw hk0 hvw hm (by rw [cpy_upd hat]; exact hm') 1 (by decide) v b s hv ⟨fun _ => hb, fun q => absurd q (by decide)⟩ [(gM + v * gB + b, s + 1)] 1 (by omega) (by omega) rfl ?_ ?_ ?_
  · intro w hw
    rw [List.mem_singleton.mp hw]
    show gM ≤ gM + v * gB + b ∧ gM + v * gB + b < gI
    exact ⟨by omega, hmc⟩
  · intro v2 b2 hv2 hb2
    rw [cpy_upd hat]
    show upd f (gM + v * gB + b) (s + 1) (gM + v2 * gB + b2) = upd mp (6 * v + b) c (6 * v2 + b2)
    by_cases e : gM + v2 * gB + b2 = gM + v * gB + b
    · obtain ⟨e1, e2⟩ := ix_eq (v := v2) (w := v) (b := b2) (q := b) (B := gB) hb2 hb (by omega)
      subst e1
      subst e2
      rw [pk_us, pk_us, hc]
    · rw [pk_un e, pk_un (fun q => e (by
        have h1 : v2 = v := by omega
        have h2 : b2 = b := by omega
        rw [h1, h2]))]
      exact hvw v2 b2 hv2 hb2
  · intro j F w2 t2 l2 p2 c1 c2 c3 c4 _
    unfold carry
    dsimp only
    rw [if_neg (by rw [c4]; decide), if_pos c4, c1, c2, c3, nI_clamp (by omega), nI_clamp (by omega)]
    rfl
theorem t_clo (hg : geo gW gC gV gB gM gI) (ha : a < 2 ^ 31) (hst : ∀ i, i < gW → st i = sg i) (hsw : sw f sl gW gC) (hk0 : f (gI + 3) = 0) (hvw : vw f mp gV gB gM) (hm : mok mp sl gW gC gV gB)
    {v o : Nat} (hv : v < gV) (ho : o < gV) :
    ans (chg (f, wc, nI a, la, 0) gM gB gI 2 v o 0) = (m_chg mp (cloN (cpyN wa mp 24) mp o v 6) sl sg wc (nI a) la 0 0 gW gC gV gB (nI gB)).1 ∧ Rel gW gC gV gB gM gI st (chg (f, wc, nI a, la, 0) gM gB gI 2 v o 0) (m_chg mp (cloN (cpyN wa mp 24) mp o v 6) sl sg wc (nI a) la 0 0 gW gC gV gB (nI gB)).2 := by
  obtain ⟨⟨hW1, hW2⟩, ⟨hC1, hC2⟩, ⟨hV1, hV2⟩, ⟨hB1, hB2⟩, eM, eI⟩ := id hg
  have hm' : mok (cpyN mp (cloN (cpyN wa mp 24) mp o v 6) 24) sl gW gC gV gB := by
    rw [cpy_clo (by omega)]
    refine mok_sub hV2 hB2 hC2 hm (fun j hj => ?_) (fun v2 b2 h1 h2 h3 => ?_)
    · right
      rw [clo_get]
      by_cases q : 6 * v ≤ j ∧ j < 6 * v + 6
      · rw [if_pos q]; exact ⟨6 * o + (j - 6 * v), by omega, rfl⟩
      · rw [if_neg q]; exact ⟨j, hj, rfl⟩
    · rw [clo_get]
      by_cases q : 6 * v ≤ 6 * v2 + b2 ∧ 6 * v2 + b2 < 6 * v + 6
      · have e : v2 = v := by omega
        rw [if_pos q, show 6 * o + (6 * v2 + b2 - 6 * v) = 6 * o + b2 by omega]
        exact hm.2.1 o b2 (by omega) h2 (by omega)
      · rw [if_neg q]
        exact hm.2.1 v2 b2 h1 h2 h3
  refine t_chg hg ha hst hsw hk0 hvw hm hm' 2 (by decide) v o 0 hv ⟨fun q => absurd q (by decide), fun _ => ho⟩ (rowL gM gB v (fun j => f (gM + o * gB + j) - 1 + 1) gB) gB hB1 hB2 (rowL_len _ _ _ _ _) ?_ ?_ ?_
  · intro w hw
    obtain ⟨j, hj, rfl⟩ := rowL_mem hw
    show gM ≤ gM + v * gB + j ∧ gM + v * gB + j < gI
    exact ⟨by omega, geo_map hg hv hj⟩
  · intro v2 b2 hv2 hb2
    rw [cpy_clo (by omega), ap_row hb2 gB (Nat.le_refl gB), clo_get]
    by_cases q : v2 = v
    · rw [if_pos ⟨q, hb2⟩, if_pos (by omega), Int32.sub_add_cancel, show 6 * o + (6 * v2 + b2 - 6 * v) = 6 * o + b2 by omega]
      exact hvw o b2 ho hb2
    · rw [if_neg (fun p => q p.1), if_neg (by omega)]
      exact hvw v2 b2 hv2 hb2
  · intro j F w2 t2 l2 p2 c1 c2 c3 c4 hF
    unfold carry
    dsimp only
    rw [if_neg (by rw [c4]; decide), if_neg (by rw [c4]; decide), if_pos c4, c1, c2, nI_clamp (by omega), nI_clamp (by omega), as_run gM gB v o (F, w2, t2, l2, p2) (fun j => f (gM + o * gB + j)) ?_ gB (Nat.le_refl gB), dk_run_app]
    · rfl
    · intro i hi
      show F (gM + o * gB + i) = f (gM + o * gB + i)
      rw [hF _ (by omega) (geo_map hg ho hi)]
      refine ap_keep (fun w hw e => ?_) rfl
      obtain ⟨i2, hi2, rfl⟩ := rowL_mem (List.mem_of_mem_take hw)
      have e : gM + v * gB + i2 = gM + o * gB + i := e
      obtain ⟨e1, e2⟩ := ix_eq (v := v) (w := o) (b := i2) (q := i) (B := gB) hi2 hi (by omega)
      subst e1
      subst e2
      show f (gM + v * gB + i2) - 1 + 1 = f (gM + v * gB + i2)
      exact Int32.sub_add_cancel _ _
theorem t_dro (hg : geo gW gC gV gB gM gI) (ha : a < 2 ^ 31) (hst : ∀ i, i < gW → st i = sg i) (hsw : sw f sl gW gC) (hk0 : f (gI + 3) = 0) (hvw : vw f mp gV gB gM) (hm : mok mp sl gW gC gV gB)
    {v : Nat} (hv : v < gV) :
    ans (chg (f, wc, nI a, la, 0) gM gB gI 3 v 0 0) = (m_chg mp (droN (cpyN wa mp 24) v 6) sl sg wc (nI a) la 0 0 gW gC gV gB (nI gB)).1 ∧ Rel gW gC gV gB gM gI st (chg (f, wc, nI a, la, 0) gM gB gI 3 v 0 0) (m_chg mp (droN (cpyN wa mp 24) v 6) sl sg wc (nI a) la 0 0 gW gC gV gB (nI gB)).2 := by
  obtain ⟨⟨hW1, hW2⟩, ⟨hC1, hC2⟩, ⟨hV1, hV2⟩, ⟨hB1, hB2⟩, eM, eI⟩ := id hg
  have hm' : mok (cpyN mp (droN (cpyN wa mp 24) v 6) 24) sl gW gC gV gB := by
    rw [cpy_dro (by omega)]
    refine mok_sub hV2 hB2 hC2 hm (fun j hj => ?_) (fun v2 b2 h1 h2 h3 => ?_)
    · rw [dro_get]
      by_cases q : 6 * v ≤ j ∧ j < 6 * v + 6
      · rw [if_pos q]; exact Or.inl rfl
      · rw [if_neg q]; exact Or.inr ⟨j, hj, rfl⟩
    · rw [dro_get]
      by_cases q : 6 * v ≤ 6 * v2 + b2 ∧ 6 * v2 + b2 < 6 * v + 6
      · rw [if_pos q]
      · rw [if_neg q]
        exact hm.2.1 v2 b2 h1 h2 h3
  refine t_chg hg ha hst hsw hk0 hvw hm hm' 3 (by decide) v 0 0 hv ⟨fun q => absurd q (by decide), fun q => absurd q (by decide)⟩ (rowL gM gB v (fun _ => (-1) + 1) gB) gB hB1 hB2 (rowL_len _ _ _ _ _) ?_ ?_ ?_
  · intro w hw
    obtain ⟨j, hj, rfl⟩ := rowL_mem hw
    show gM ≤ gM + v * gB + j ∧ gM + v * gB + j < gI
    exact ⟨by omega, geo_map hg hv hj⟩
  · intro v2 b2 hv2 hb2
    rw [cpy_dro (by omega), ap_row hb2 gB (Nat.le_refl gB), dro_get]
    by_cases q : v2 = v
    · rw [if_pos ⟨q, hb2⟩, if_pos (by omega)]
      rfl
    · rw [if_neg (fun p => q p.1), if_neg (by omega)]
      exact hvw v2 b2 hv2 hb2
  · intro j F w2 t2 l2 p2 c1 c2 c3 c4 _
    unfold carry
    dsimp only
    rw [if_neg (by rw [c4]; decide), if_neg (by rw [c4]; decide), if_neg (by rw [c4]; decide), c1, nI_clamp (by omega), un_run, dk_run_app]
    rfl
end KD
