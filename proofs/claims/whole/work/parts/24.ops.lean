theorem m1_iff {x : Int32} : x - 1 = -1 ↔ x = 0 := by
  constructor
  · intro h
    have e : x - 1 + 1 = (-1) + 1 := by rw [h]
    rw [Int32.sub_add_cancel] at e
    exact e.trans (by decide)
  · intro h
    rw [h]
    decide
section OP
variable {gW gC gV gB gM gI : Nat} {st : Nat → Int32} {d : DS} {x : MS}
theorem Rel_up (R : Rel gW gC gV gB gM gI st d x) (h : d.2.2.2.2 = 0) : x.2.2.2.2.2.2.2.1 = 0 ∧ x.2.2.2.2.2.2.2.2 = 0 ∧ d.1 (gI + 3) = 0 ∧ vw d.1 x.1 gV gB gM := by
  obtain ⟨⟨r1, r2, r3, r4⟩, r5, r6, r7, r8, r9, r10, r11⟩ := R
  refine ⟨by rw [← r4]; exact h, ?_⟩
  rcases r11 with q | q
  · exact q
  · exact absurd h q.1
theorem mok_put {mp sl : Nat → Int32} {v b : Nat} {c : Int32} (hg : geo gW gC gV gB gM gI) (hm : mok mp sl gW gC gV gB) (hv : v < gV) (hb : b < gB) (hc : c = 0 ∨ ∃ i, i < 24 ∧ c = mp i) : mok (upd mp (6 * v + b) c) sl gW gC gV gB := by
  obtain ⟨⟨hW1, hW2⟩, ⟨hC1, hC2⟩, ⟨hV1, hV2⟩, ⟨hB1, hB2⟩, eM, eI⟩ := id hg
  refine mok_sub hV2 hB2 hC2 hm (fun j hj => ?_) (fun v2 b2 h1 h2 h3 => ?_)
  · by_cases e : j = 6 * v + b
    · rw [e, pk_us]; exact hc
    · rw [pk_un e]; exact Or.inr ⟨j, hj, rfl⟩
  · rw [pk_un (fun e => h3 ⟨by omega, by omega⟩)]
    exact hm.2.1 v2 b2 h1 h2 h3
theorem r_map (hg : geo gW gC gV gB gM gI) (R : Rel gW gC gV gB gM gI st d x) (h : d.2.2.2.2 = 0) {v b : Nat} (hv : v < gV) (hb : b < gB) {s c : Int32} (hc : s + 1 = c) (hm' : mok (upd x.1 (6 * v + b) c) x.2.2.1 gW gC gV gB) :
    ans (chg d gM gB gI 1 v b s) = (m_chg x.1 (upd (cpyN x.2.1 x.1 24) (6 * v + b) c) x.2.2.1 x.2.2.2.1 x.2.2.2.2.1 x.2.2.2.2.2.1 x.2.2.2.2.2.2.1 x.2.2.2.2.2.2.2.1 x.2.2.2.2.2.2.2.2 gW gC gV gB 1).1 ∧ Rel gW gC gV gB gM gI st (chg d gM gB gI 1 v b s) (m_chg x.1 (upd (cpyN x.2.1 x.1 24) (6 * v + b) c) x.2.2.1 x.2.2.2.1 x.2.2.2.2.1 x.2.2.2.2.2.1 x.2.2.2.2.2.2.1 x.2.2.2.2.2.2.2.1 x.2.2.2.2.2.2.2.2 gW gC gV gB 1).2 := by
  have u := Rel_up R h
  obtain ⟨f, wc, tl, la, pl⟩ := d
  obtain ⟨mp, wa, sl, sg, hp, am, ar, dn, rd⟩ := x
  obtain ⟨⟨r1, r2, r3, r4⟩, r5, ⟨a, ha, r6⟩, r7, r8, r9, r10, r11⟩ := R
  obtain ⟨u1, u2, u3, u4⟩ := u
  have h : pl = 0 := h
  have r1 : wc = hp := r1
  have r2 : tl = am := r2
  have r3 : la = ar := r3
  have u1 : dn = 0 := u1
  have u2 : rd = 0 := u2
  have r6 : tl = nI a := r6
  subst h
  subst u1
  subst u2
  subst r1
  subst r3
  rw [r6] at r2
  subst r6
  subst r2
  exact t_map hg ha r8 r9 u3 u4 r10 hv hb hc hm'
theorem r_clo (hg : geo gW gC gV gB gM gI) (R : Rel gW gC gV gB gM gI st d x) (h : d.2.2.2.2 = 0) {v o : Nat} (hv : v < gV) (ho : o < gV) :
    ans (chg d gM gB gI 2 v o 0) = (m_chg x.1 (cloN (cpyN x.2.1 x.1 24) x.1 o v 6) x.2.2.1 x.2.2.2.1 x.2.2.2.2.1 x.2.2.2.2.2.1 x.2.2.2.2.2.2.1 x.2.2.2.2.2.2.2.1 x.2.2.2.2.2.2.2.2 gW gC gV gB (nI gB)).1 ∧ Rel gW gC gV gB gM gI st (chg d gM gB gI 2 v o 0) (m_chg x.1 (cloN (cpyN x.2.1 x.1 24) x.1 o v 6) x.2.2.1 x.2.2.2.1 x.2.2.2.2.1 x.2.2.2.2.2.1 x.2.2.2.2.2.2.1 x.2.2.2.2.2.2.2.1 x.2.2.2.2.2.2.2.2 gW gC gV gB (nI gB)).2 := by
  have u := Rel_up R h
  obtain ⟨f, wc, tl, la, pl⟩ := d
  obtain ⟨mp, wa, sl, sg, hp, am, ar, dn, rd⟩ := x
  obtain ⟨⟨r1, r2, r3, r4⟩, r5, ⟨a, ha, r6⟩, r7, r8, r9, r10, r11⟩ := R
  obtain ⟨u1, u2, u3, u4⟩ := u
  have h : pl = 0 := h
  have r1 : wc = hp := r1
  have r2 : tl = am := r2
  have r3 : la = ar := r3
  have u1 : dn = 0 := u1
  have u2 : rd = 0 := u2
  have r6 : tl = nI a := r6
  subst h
  subst u1
  subst u2
  subst r1
  subst r3
  rw [r6] at r2
  subst r6
  subst r2
  exact t_clo hg ha r8 r9 u3 u4 r10 hv ho
theorem r_dro (hg : geo gW gC gV gB gM gI) (R : Rel gW gC gV gB gM gI st d x) (h : d.2.2.2.2 = 0) {v : Nat} (hv : v < gV) :
    ans (chg d gM gB gI 3 v 0 0) = (m_chg x.1 (droN (cpyN x.2.1 x.1 24) v 6) x.2.2.1 x.2.2.2.1 x.2.2.2.2.1 x.2.2.2.2.2.1 x.2.2.2.2.2.2.1 x.2.2.2.2.2.2.2.1 x.2.2.2.2.2.2.2.2 gW gC gV gB (nI gB)).1 ∧ Rel gW gC gV gB gM gI st (chg d gM gB gI 3 v 0 0) (m_chg x.1 (droN (cpyN x.2.1 x.1 24) v 6) x.2.2.1 x.2.2.2.1 x.2.2.2.2.1 x.2.2.2.2.2.1 x.2.2.2.2.2.2.1 x.2.2.2.2.2.2.2.1 x.2.2.2.2.2.2.2.2 gW gC gV gB (nI gB)).2 := by
  have u := Rel_up R h
  obtain ⟨f, wc, tl, la, pl⟩ := d
  obtain ⟨mp, wa, sl, sg, hp, am, ar, dn, rd⟩ := x
  obtain ⟨⟨r1, r2, r3, r4⟩, r5, ⟨a, ha, r6⟩, r7, r8, r9, r10, r11⟩ := R
  obtain ⟨u1, u2, u3, u4⟩ := u
  have h : pl = 0 := h
  have r1 : wc = hp := r1
  have r2 : tl = am := r2
  have r3 : la = ar := r3
  have u1 : dn = 0 := u1
  have u2 : rd = 0 := u2
  have r6 : tl = nI a := r6
  subst h
  subst u1
  subst u2
  subst r1
  subst r3
  rw [r6] at r2
  subst r6
  subst r2
  exact t_dro hg ha r8 r9 u3 u4 r10 hv
theorem t_stage (hg : geo gW gC gV gB gM gI) (R : Rel gW gC gV gB gM gI st d x) (i w : Int32) : (x_stage st d gW gC gV gB gM gI i w).1 = (m_stage x.1 x.2.1 x.2.2.1 x.2.2.2.1 x.2.2.2.2.1 x.2.2.2.2.2.1 x.2.2.2.2.2.2.1 x.2.2.2.2.2.2.2.1 x.2.2.2.2.2.2.2.2 gW gC gV gB i w).1 ∧ Rel gW gC gV gB gM gI (x_stage st d gW gC gV gB gM gI i w).2.1 (x_stage st d gW gC gV gB gM gI i w).2.2 (m_stage x.1 x.2.1 x.2.2.1 x.2.2.2.1 x.2.2.2.2.1 x.2.2.2.2.2.1 x.2.2.2.2.2.2.1 x.2.2.2.2.2.2.2.1 x.2.2.2.2.2.2.2.2 gW gC gV gB i w).2 := by
  unfold x_stage m_stage
  have hd : x.2.2.2.2.2.2.2.1 = d.2.2.2.2 := R.1.2.2.2.symm
  by_cases h : d.2.2.2.2 = 0
  case neg =>
    have h2 : ¬ x.2.2.2.2.2.2.2.1 = 0 := by rw [hd]; exact h
    rw [if_neg h, if_neg h2]
    exact ⟨rfl, R⟩
  have h2 : x.2.2.2.2.2.2.2.1 = 0 := hd.trans h
  rw [if_pos h, if_pos h2]
  obtain ⟨u1, u2, u3, u4⟩ := Rel_up R h
  by_cases c : inR i gW = 0
  · rw [if_pos c, if_pos c]
    exact ⟨rfl, R⟩
  · rw [if_neg c, if_neg c]
    obtain ⟨⟨hW1, hW2⟩, -⟩ := id hg
    obtain ⟨j, hj, ej⟩ := inR_nz (by omega) c
    rw [ej, nI_clamp (by omega)]
    obtain ⟨r1, r5, r6, r7, r8, r9, r10, r11⟩ := R
    refine ⟨rfl, r1, r5, r6, r7, fun t ht => ?_, r9, r10, r11⟩
    show upd st j w t = upd x.2.2.2.1 j w t
    by_cases e : t = j
    · rw [e, pk_us, pk_us]
    · rw [pk_un e, pk_un e]
      exact r8 t ht
theorem t_read (hg : geo gW gC gV gB gM gI) (R : Rel gW gC gV gB gM gI st d x) (vol lb i : Int32) : (x_read st d gW gC gV gB gM gI vol lb i).1 = (m_read x.1 x.2.1 x.2.2.1 x.2.2.2.1 x.2.2.2.2.1 x.2.2.2.2.2.1 x.2.2.2.2.2.2.1 x.2.2.2.2.2.2.2.1 x.2.2.2.2.2.2.2.2 gW gC gV gB vol lb i).1 ∧ Rel gW gC gV gB gM gI (x_read st d gW gC gV gB gM gI vol lb i).2.1 (x_read st d gW gC gV gB gM gI vol lb i).2.2 (m_read x.1 x.2.1 x.2.2.1 x.2.2.2.1 x.2.2.2.2.1 x.2.2.2.2.2.1 x.2.2.2.2.2.2.1 x.2.2.2.2.2.2.2.1 x.2.2.2.2.2.2.2.2 gW gC gV gB vol lb i).2 := by
  unfold x_read m_read
  have hd : x.2.2.2.2.2.2.2.1 = d.2.2.2.2 := R.1.2.2.2.symm
  by_cases h : d.2.2.2.2 = 0
  case neg =>
    have h2 : ¬ x.2.2.2.2.2.2.2.1 = 0 := by rw [hd]; exact h
    rw [if_neg h, if_neg h2]
    exact ⟨rfl, R⟩
  have h2 : x.2.2.2.2.2.2.2.1 = 0 := hd.trans h
  rw [if_pos h, if_pos h2]
  obtain ⟨u1, u2, u3, u4⟩ := Rel_up R h
  obtain ⟨⟨hW1, hW2⟩, ⟨hC1, hC2⟩, ⟨hV1, hV2⟩, ⟨hB1, hB2⟩, eM, eI⟩ := id hg
  by_cases c : inB vol lb gV gB = 0
  case pos =>
    rw [if_pos c, if_pos c]
    exact ⟨rfl, R⟩
  rw [if_neg c, if_neg c]
  obtain ⟨v, b, hv, hb, ev, eb⟩ := inB_nz (by omega) (by omega) c
  rw [ev, eb, nI_clamp (n := v) (by omega), nI_clamp (n := b) (by omega)]
  by_cases c2 : inR i gW = 0
  · rw [if_pos c2, if_pos c2]
    exact ⟨rfl, R⟩
  · rw [if_neg c2, if_neg c2]
    obtain ⟨j, hj, ej⟩ := inR_nz (by omega) c2
    rw [ej, nI_clamp (n := j) (by omega), u4 v b hv hb]
    by_cases c3 : x.1 (6 * v + b) = 0
    · rw [if_pos c3, if_pos (m1_iff.mpr c3)]
      exact ⟨rfl, R⟩
    · rw [if_neg c3, if_neg (show ¬ x.1 (6 * v + b) - 1 = -1 from fun q => c3 (m1_iff.mp q))]
      obtain ⟨k, hk, ek⟩ := slot_of0 (R.2.2.2.2.2.2.1.1 v b hv hb) c3
      rw [ek, nI_clamp (n := k) (by omega)]
      exact ⟨R.2.2.2.2.2.1 k j hk hj, R⟩
theorem t_trim (hg : geo gW gC gV gB gM gI) (R : Rel gW gC gV gB gM gI st d x) (vol lb : Int32) : (x_trim st d gW gC gV gB gM gI vol lb).1 = (m_trim x.1 x.2.1 x.2.2.1 x.2.2.2.1 x.2.2.2.2.1 x.2.2.2.2.2.1 x.2.2.2.2.2.2.1 x.2.2.2.2.2.2.2.1 x.2.2.2.2.2.2.2.2 gW gC gV gB vol lb).1 ∧ Rel gW gC gV gB gM gI (x_trim st d gW gC gV gB gM gI vol lb).2.1 (x_trim st d gW gC gV gB gM gI vol lb).2.2 (m_trim x.1 x.2.1 x.2.2.1 x.2.2.2.1 x.2.2.2.2.1 x.2.2.2.2.2.1 x.2.2.2.2.2.2.1 x.2.2.2.2.2.2.2.1 x.2.2.2.2.2.2.2.2 gW gC gV gB vol lb).2 := by
  unfold x_trim m_trim
  have hd : x.2.2.2.2.2.2.2.1 = d.2.2.2.2 := R.1.2.2.2.symm
  by_cases h : d.2.2.2.2 = 0
  case neg =>
    have h2 : ¬ x.2.2.2.2.2.2.2.1 = 0 := by rw [hd]; exact h
    rw [if_neg h, if_neg h2]
    exact ⟨rfl, R⟩
  have h2 : x.2.2.2.2.2.2.2.1 = 0 := hd.trans h
  rw [if_pos h, if_pos h2]
  obtain ⟨u1, u2, u3, u4⟩ := Rel_up R h
  obtain ⟨⟨hW1, hW2⟩, ⟨hC1, hC2⟩, ⟨hV1, hV2⟩, ⟨hB1, hB2⟩, eM, eI⟩ := id hg
  by_cases c : inB vol lb gV gB = 0
  case pos =>
    rw [if_pos c, if_pos c]
    exact ⟨rfl, R⟩
  rw [if_neg c, if_neg c]
  obtain ⟨v, b, hv, hb, ev, eb⟩ := inB_nz (by omega) (by omega) c
  rw [ev, eb, nI_clamp (n := v) (by omega), nI_clamp (n := b) (by omega)]
  by_cases c3 : x.1 (6 * v + b) = 0
  · have c4 : d.1 (gM + v * gB + b) - 1 = -1 := by rw [u4 v b hv hb]; exact m1_iff.mpr c3
    rw [if_pos c3, if_pos c4]
    exact ⟨rfl, R⟩
  · have c4 : ¬ d.1 (gM + v * gB + b) - 1 = -1 := fun q => c3 (m1_iff.mp (by rw [← u4 v b hv hb]; exact q))
    rw [if_neg c3, if_neg c4]
    have key := r_map (s := -1) (c := 0) hg R h hv hb (by decide) (mok_put hg R.2.2.2.2.2.2.1 hv hb (Or.inl rfl))
    dsimp only
    exact key
theorem t_clone (hg : geo gW gC gV gB gM gI) (R : Rel gW gC gV gB gM gI st d x) (src dst : Int32) : (x_clone st d gW gC gV gB gM gI src dst).1 = (m_clone x.1 x.2.1 x.2.2.1 x.2.2.2.1 x.2.2.2.2.1 x.2.2.2.2.2.1 x.2.2.2.2.2.2.1 x.2.2.2.2.2.2.2.1 x.2.2.2.2.2.2.2.2 gW gC gV gB src dst).1 ∧ Rel gW gC gV gB gM gI (x_clone st d gW gC gV gB gM gI src dst).2.1 (x_clone st d gW gC gV gB gM gI src dst).2.2 (m_clone x.1 x.2.1 x.2.2.1 x.2.2.2.1 x.2.2.2.2.1 x.2.2.2.2.2.1 x.2.2.2.2.2.2.1 x.2.2.2.2.2.2.2.1 x.2.2.2.2.2.2.2.2 gW gC gV gB src dst).2 := by
  unfold x_clone m_clone
  have hd : x.2.2.2.2.2.2.2.1 = d.2.2.2.2 := R.1.2.2.2.symm
  by_cases h : d.2.2.2.2 = 0
  case neg =>
    have h2 : ¬ x.2.2.2.2.2.2.2.1 = 0 := by rw [hd]; exact h
    rw [if_neg h, if_neg h2]
    exact ⟨rfl, R⟩
  have h2 : x.2.2.2.2.2.2.2.1 = 0 := hd.trans h
  rw [if_pos h, if_pos h2]
  obtain ⟨u1, u2, u3, u4⟩ := Rel_up R h
  obtain ⟨-, -, ⟨hV1, hV2⟩, -⟩ := id hg
  by_cases c : inR src gV = 0
  · rw [if_pos c, if_pos c]
    exact ⟨rfl, R⟩
  · rw [if_neg c, if_neg c]
    by_cases c2 : inR dst gV = 0
    · rw [if_pos c2, if_pos c2]
      exact ⟨rfl, R⟩
    · rw [if_neg c2, if_neg c2]
      obtain ⟨o, ho, eo⟩ := inR_nz (by omega) c
      obtain ⟨v, hv, ev⟩ := inR_nz (by omega) c2
      rw [eo, ev, nI_clamp (n := o) (by omega), nI_clamp (n := v) (by omega)]
      have key := r_clo hg R h hv ho
      dsimp only
      exact key
theorem t_drop (hg : geo gW gC gV gB gM gI) (R : Rel gW gC gV gB gM gI st d x) (vol : Int32) : (x_drop st d gW gC gV gB gM gI vol).1 = (m_drop x.1 x.2.1 x.2.2.1 x.2.2.2.1 x.2.2.2.2.1 x.2.2.2.2.2.1 x.2.2.2.2.2.2.1 x.2.2.2.2.2.2.2.1 x.2.2.2.2.2.2.2.2 gW gC gV gB vol).1 ∧ Rel gW gC gV gB gM gI (x_drop st d gW gC gV gB gM gI vol).2.1 (x_drop st d gW gC gV gB gM gI vol).2.2 (m_drop x.1 x.2.1 x.2.2.1 x.2.2.2.1 x.2.2.2.2.1 x.2.2.2.2.2.1 x.2.2.2.2.2.2.1 x.2.2.2.2.2.2.2.1 x.2.2.2.2.2.2.2.2 gW gC gV gB vol).2 := by
  unfold x_drop m_drop
  have hd : x.2.2.2.2.2.2.2.1 = d.2.2.2.2 := R.1.2.2.2.symm
  by_cases h : d.2.2.2.2 = 0
  case neg =>
    have h2 : ¬ x.2.2.2.2.2.2.2.1 = 0 := by rw [hd]; exact h
    rw [if_neg h, if_neg h2]
    exact ⟨rfl, R⟩
  have h2 : x.2.2.2.2.2.2.2.1 = 0 := hd.trans h
  rw [if_pos h, if_pos h2]
  obtain ⟨u1, u2, u3, u4⟩ := Rel_up R h
  obtain ⟨-, -, ⟨hV1, hV2⟩, -⟩ := id hg
  by_cases c : inR vol gV = 0
  · rw [if_pos c, if_pos c]
    exact ⟨rfl, R⟩
  · rw [if_neg c, if_neg c]
    obtain ⟨v, hv, ev⟩ := inR_nz (by omega) c
    rw [ev, nI_clamp (n := v) (by omega)]
    have key := r_dro hg R h hv
    dsimp only
    exact key
theorem us_eq (hg : geo gW gC gV gB gM gI) (R : Rel gW gC gV gB gM gI st d x) (h : d.2.2.2.2 = 0) {k : Nat} (hk : k < 1000) : usd d.1 gM (gV * gB) (nI k) = usd x.1 0 24 (nI k) := by
  obtain ⟨-, -, ⟨hV1, hV2⟩, ⟨hB1, hB2⟩, -⟩ := id hg
  exact usd_vw hV2 hB2 (Rel_up R h).2.2.2 R.2.2.2.2.2.2.1.2.1 hk
theorem uN_eq (hg : geo gW gC gV gB gM gI) (R : Rel gW gC gV gB gM gI st d x) (h : d.2.2.2.2 = 0) : usN d.1 gM (gV * gB) (gC + 1) = usN x.1 0 24 (gC + 1) := by
  obtain ⟨-, ⟨hC1, hC2⟩, -⟩ := id hg
  exact usN_congr (fun k hk => us_eq hg R h (by omega))
theorem t_used (hg : geo gW gC gV gB gM gI) (R : Rel gW gC gV gB gM gI st d x) : (x_used st d gW gC gV gB gM gI).1 = (m_used x.1 x.2.1 x.2.2.1 x.2.2.2.1 x.2.2.2.2.1 x.2.2.2.2.2.1 x.2.2.2.2.2.2.1 x.2.2.2.2.2.2.2.1 x.2.2.2.2.2.2.2.2 gW gC gV gB).1 ∧ Rel gW gC gV gB gM gI (x_used st d gW gC gV gB gM gI).2.1 (x_used st d gW gC gV gB gM gI).2.2 (m_used x.1 x.2.1 x.2.2.1 x.2.2.2.1 x.2.2.2.2.1 x.2.2.2.2.2.1 x.2.2.2.2.2.2.1 x.2.2.2.2.2.2.2.1 x.2.2.2.2.2.2.2.2 gW gC gV gB).2 := by
  unfold x_used m_used
  have hd : x.2.2.2.2.2.2.2.1 = d.2.2.2.2 := R.1.2.2.2.symm
  by_cases h : d.2.2.2.2 = 0
  case neg =>
    have h2 : ¬ x.2.2.2.2.2.2.2.1 = 0 := by rw [hd]; exact h
    rw [if_neg h, if_neg h2]
    exact ⟨rfl, R⟩
  have h2 : x.2.2.2.2.2.2.2.1 = 0 := hd.trans h
  rw [if_pos h, if_pos h2]
  obtain ⟨u1, u2, u3, u4⟩ := Rel_up R h
  rw [uN_eq hg R h]
  exact ⟨rfl, R⟩
theorem t_refs (hg : geo gW gC gV gB gM gI) (R : Rel gW gC gV gB gM gI st d x) (vol lb : Int32) : (x_refs st d gW gC gV gB gM gI vol lb).1 = (m_refs x.1 x.2.1 x.2.2.1 x.2.2.2.1 x.2.2.2.2.1 x.2.2.2.2.2.1 x.2.2.2.2.2.2.1 x.2.2.2.2.2.2.2.1 x.2.2.2.2.2.2.2.2 gW gC gV gB vol lb).1 ∧ Rel gW gC gV gB gM gI (x_refs st d gW gC gV gB gM gI vol lb).2.1 (x_refs st d gW gC gV gB gM gI vol lb).2.2 (m_refs x.1 x.2.1 x.2.2.1 x.2.2.2.1 x.2.2.2.2.1 x.2.2.2.2.2.1 x.2.2.2.2.2.2.1 x.2.2.2.2.2.2.2.1 x.2.2.2.2.2.2.2.2 gW gC gV gB vol lb).2 := by
  unfold x_refs m_refs
  have hd : x.2.2.2.2.2.2.2.1 = d.2.2.2.2 := R.1.2.2.2.symm
  by_cases h : d.2.2.2.2 = 0
  case neg =>
    have h2 : ¬ x.2.2.2.2.2.2.2.1 = 0 := by rw [hd]; exact h
    rw [if_neg h, if_neg h2]
    exact ⟨rfl, R⟩
  have h2 : x.2.2.2.2.2.2.2.1 = 0 := hd.trans h
  rw [if_pos h, if_pos h2]
  obtain ⟨u1, u2, u3, u4⟩ := Rel_up R h
  obtain ⟨⟨hW1, hW2⟩, ⟨hC1, hC2⟩, ⟨hV1, hV2⟩, ⟨hB1, hB2⟩, eM, eI⟩ := id hg
  by_cases c : inB vol lb gV gB = 0
  case pos =>
    rw [if_pos c, if_pos c]
    exact ⟨rfl, R⟩
  rw [if_neg c, if_neg c]
  obtain ⟨v, b, hv, hb, ev, eb⟩ := inB_nz (by omega) (by omega) c
  rw [ev, eb, nI_clamp (n := v) (by omega), nI_clamp (n := b) (by omega)]
  rw [u4 v b hv hb]
  by_cases c3 : x.1 (6 * v + b) = 0
  · have c4 : x.1 (6 * v + b) ≤ 0 := by rw [c3]; decide
    rw [if_pos (m1_iff.mpr c3), if_pos c4]
    exact ⟨rfl, R⟩
  · obtain ⟨k, hk, ek⟩ := R.2.2.2.2.2.2.1.1 v b hv hb
    have hk0 : ¬ k = 0 := fun q => c3 (by rw [ek, q]; rfl)
    have c4 : ¬ x.1 (6 * v + b) ≤ 0 := by rw [ek]; exact nI_nle (by omega) (by omega)
    have c5 : ¬ x.1 (6 * v + b) - 1 = -1 := fun q => c3 (m1_iff.mp q)
    rw [if_neg c5, if_neg c4, Int32.sub_add_cancel, cnt_vw hV2 hB2 u4 R.2.2.2.2.2.2.1.2.1 c3]
    exact ⟨rfl, R⟩
theorem t_slot (hg : geo gW gC gV gB gM gI) (R : Rel gW gC gV gB gM gI st d x) (vol lb : Int32) : (x_slot st d gW gC gV gB gM gI vol lb).1 = (m_slot x.1 x.2.1 x.2.2.1 x.2.2.2.1 x.2.2.2.2.1 x.2.2.2.2.2.1 x.2.2.2.2.2.2.1 x.2.2.2.2.2.2.2.1 x.2.2.2.2.2.2.2.2 gW gC gV gB vol lb).1 ∧ Rel gW gC gV gB gM gI (x_slot st d gW gC gV gB gM gI vol lb).2.1 (x_slot st d gW gC gV gB gM gI vol lb).2.2 (m_slot x.1 x.2.1 x.2.2.1 x.2.2.2.1 x.2.2.2.2.1 x.2.2.2.2.2.1 x.2.2.2.2.2.2.1 x.2.2.2.2.2.2.2.1 x.2.2.2.2.2.2.2.2 gW gC gV gB vol lb).2 := by
  unfold x_slot m_slot
  have hd : x.2.2.2.2.2.2.2.1 = d.2.2.2.2 := R.1.2.2.2.symm
  by_cases h : d.2.2.2.2 = 0
  case neg =>
    have h2 : ¬ x.2.2.2.2.2.2.2.1 = 0 := by rw [hd]; exact h
    rw [if_neg h, if_neg h2]
    exact ⟨rfl, R⟩
  have h2 : x.2.2.2.2.2.2.2.1 = 0 := hd.trans h
  rw [if_pos h, if_pos h2]
  obtain ⟨u1, u2, u3, u4⟩ := Rel_up R h
  obtain ⟨⟨hW1, hW2⟩, ⟨hC1, hC2⟩, ⟨hV1, hV2⟩, ⟨hB1, hB2⟩, eM, eI⟩ := id hg
  by_cases c : inB vol lb gV gB = 0
  case pos =>
    rw [if_pos c, if_pos c]
    exact ⟨rfl, R⟩
  rw [if_neg c, if_neg c]
  obtain ⟨v, b, hv, hb, ev, eb⟩ := inB_nz (by omega) (by omega) c
  rw [ev, eb, nI_clamp (n := v) (by omega), nI_clamp (n := b) (by omega)]
  rw [u4 v b hv hb]
  by_cases c3 : x.1 (6 * v + b) = 0
  · rw [if_pos (m1_iff.mpr c3), if_pos c3]
    exact ⟨rfl, R⟩
  · rw [if_neg (show ¬ x.1 (6 * v + b) - 1 = -1 from fun q => c3 (m1_iff.mp q)), if_neg c3]
    exact ⟨rfl, R⟩
theorem t_word (hg : geo gW gC gV gB gM gI) (R : Rel gW gC gV gB gM gI st d x) (slot i : Int32) : (x_word st d gW gC gV gB gM gI slot i).1 = (m_word x.1 x.2.1 x.2.2.1 x.2.2.2.1 x.2.2.2.2.1 x.2.2.2.2.2.1 x.2.2.2.2.2.2.1 x.2.2.2.2.2.2.2.1 x.2.2.2.2.2.2.2.2 gW gC gV gB slot i).1 ∧ Rel gW gC gV gB gM gI (x_word st d gW gC gV gB gM gI slot i).2.1 (x_word st d gW gC gV gB gM gI slot i).2.2 (m_word x.1 x.2.1 x.2.2.1 x.2.2.2.1 x.2.2.2.2.1 x.2.2.2.2.2.1 x.2.2.2.2.2.2.1 x.2.2.2.2.2.2.2.1 x.2.2.2.2.2.2.2.2 gW gC gV gB slot i).2 := by
  unfold x_word m_word
  have hd : x.2.2.2.2.2.2.2.1 = d.2.2.2.2 := R.1.2.2.2.symm
  by_cases h : d.2.2.2.2 = 0
  case neg =>
    have h2 : ¬ x.2.2.2.2.2.2.2.1 = 0 := by rw [hd]; exact h
    rw [if_neg h, if_neg h2]
    exact ⟨rfl, R⟩
  have h2 : x.2.2.2.2.2.2.2.1 = 0 := hd.trans h
  rw [if_pos h, if_pos h2]
  obtain ⟨u1, u2, u3, u4⟩ := Rel_up R h
  obtain ⟨⟨hW1, hW2⟩, ⟨hC1, hC2⟩, -⟩ := id hg
  by_cases c : slot < 0
  · rw [if_pos c, if_pos c]
    exact ⟨rfl, R⟩
  · rw [if_neg c, if_neg c]
    by_cases c1 : nI gC < slot
    · rw [if_pos c1, if_pos c1]
      exact ⟨rfl, R⟩
    · rw [if_neg c1, if_neg c1]
      by_cases c2 : inR i gW = 0
      · rw [if_pos c2, if_pos c2]
        exact ⟨rfl, R⟩
      · rw [if_neg c2, if_neg c2]
        obtain ⟨k, hk, ek⟩ := nI_of3 (by omega) c c1
        obtain ⟨j, hj, ej⟩ := inR_nz (by omega) c2
        rw [ek, ej, nI_clamp (n := k) (by omega), nI_clamp (n := j) (by omega)]
        exact ⟨R.2.2.2.2.2.1 k j hk hj, R⟩
theorem t_arm (R : Rel gW gC gV gB gM gI st d x) (n : Int32) : Rel gW gC gV gB gM gI st (dk_arm d n) (m_arm x.1 x.2.1 x.2.2.1 x.2.2.2.1 x.2.2.2.2.1 x.2.2.2.2.2.1 x.2.2.2.2.2.2.1 x.2.2.2.2.2.2.2.1 x.2.2.2.2.2.2.2.2 gW gC gV gB n) := by
  unfold dk_arm m_arm
  have hd : x.2.2.2.2.2.2.2.1 = d.2.2.2.2 := R.1.2.2.2.symm
  have har : x.2.2.2.2.2.2.1 = d.2.2.2.1 := R.1.2.2.1.symm
  by_cases h : d.2.2.2.2 = 0
  · rw [if_pos h, if_pos (hd.trans h)]
    have u := Rel_up R h
    obtain ⟨⟨r1, r2, r3, r4⟩, r5, r6, r7, r8, r9, r10, r11⟩ := id R
    by_cases c : 1 ≤ n
    · rw [if_pos c, if_pos c]
      by_cases c2 : 30 ≤ d.2.2.2.1
      · rw [if_pos c2, if_pos (show 30 ≤ x.2.2.2.2.2.2.1 by rw [har]; exact c2)]
        exact R
      · rw [if_neg c2, if_neg (show ¬ 30 ≤ x.2.2.2.2.2.2.1 by rw [har]; exact c2)]
        obtain ⟨a, ha, ea⟩ := nI_of (x := n) (fun q => absurd (Int32.lt_of_lt_of_le q (by decide : (0 : Int32) ≤ 1)) (Int32.not_lt.mpr c))
        exact ⟨⟨r1, rfl, by rw [← r3], r4⟩, r5, ⟨a, ha, ea⟩, fun q => absurd h q, r8, r9, r10, Or.inl u.2⟩
    · rw [if_neg c, if_neg c]
      exact ⟨⟨r1, rfl, r3, r4⟩, r5, ⟨0, by omega, rfl⟩, fun q => absurd h q, r8, r9, r10, Or.inl u.2⟩
  · rw [if_neg h, if_neg (show ¬ x.2.2.2.2.2.2.2.1 = 0 by rw [hd]; exact h)]
    exact R
theorem fil_get {f : Nat → Int32} {n j : Nat} (h : j < n) : fillN f n 0 j = 0 := by
  unfold fillN
  rw [if_pos h]
theorem mok_0 {mp sl : Nat → Int32} (hg : geo gW gC gV gB gM gI) (h : ∀ j, j < 24 → mp j = 0) : mok mp sl gW gC gV gB := by
  obtain ⟨⟨hW1, hW2⟩, ⟨hC1, hC2⟩, ⟨hV1, hV2⟩, ⟨hB1, hB2⟩, eM, eI⟩ := id hg
  have hu : ∀ k, k < gC + 1 → usd mp 0 24 (nI k) = 0 := fun k hk => usd_0 (cnt_none (fun j hj => by
    rw [Nat.zero_add, h j hj]
    exact fun q => nI_s0 (k := k) (by omega) q.symm))
  refine ⟨fun v b hv hb => ⟨0, by omega, (h _ (by omega)).trans nI_0.symm⟩, fun v b hv hb _ => h _ (by omega), ?_, fun i j hi hj ui => absurd (hu i (by omega)) ui⟩
  have : ∀ n, n ≤ gC + 1 → usN mp 0 24 n = 0 := by
    intro n
    induction n with
    | zero => intro _; rfl
    | succ n ih =>
      intro hn
      rw [← usN_mis (hu n (by omega))]
      exact ih (by omega)
  rw [this (gC + 1) (Nat.le_refl _)]
  omega
theorem t_format (hg : geo gW gC gV gB gM gI) (R : Rel gW gC gV gB gM gI st d x) : (x_format st d gW gC gV gB gM gI).1 = (m_format x.1 x.2.1 x.2.2.1 x.2.2.2.1 x.2.2.2.2.1 x.2.2.2.2.2.1 x.2.2.2.2.2.2.1 x.2.2.2.2.2.2.2.1 x.2.2.2.2.2.2.2.2 gW gC gV gB).1 ∧ Rel gW gC gV gB gM gI (x_format st d gW gC gV gB gM gI).2.1 (x_format st d gW gC gV gB gM gI).2.2 (m_format x.1 x.2.1 x.2.2.1 x.2.2.2.1 x.2.2.2.2.1 x.2.2.2.2.2.1 x.2.2.2.2.2.2.1 x.2.2.2.2.2.2.2.1 x.2.2.2.2.2.2.2.2 gW gC gV gB).2 := by
  obtain ⟨⟨hW1, hW2⟩, ⟨hC1, hC2⟩, ⟨hV1, hV2⟩, ⟨hB1, hB2⟩, eM, eI⟩ := id hg
  obtain ⟨⟨r1, r2, r3, r4⟩, r5, r6, r7, r8, r9, r10, r11⟩ := R
  refine ⟨rfl, ⟨r1, rfl, r3, rfl⟩, Or.inl rfl, ⟨0, by omega, rfl⟩, fun _ => rfl, fun i hi => ?_, fun k i hk hi => ?_, mok_0 hg (fun j hj => fil_get hj), Or.inl ⟨rfl, fil_get (by omega), fun v b hv hb => ?_⟩⟩
  · show fillN st gW 0 i = fillN x.2.2.2.1 4 0 i
    rw [fil_get hi, fil_get (by omega)]
  · have hs := geo_slot hg hk hi
    show fillN d.1 (gI + 4) 0 (k * gW + i) = fillN x.2.2.1 52 0 (4 * k + i)
    rw [fil_get (by omega), fil_get (by omega)]
  · have hs := geo_map hg hv hb
    show fillN d.1 (gI + 4) 0 (gM + v * gB + b) = fillN x.1 24 0 (6 * v + b)
    rw [fil_get (by omega), fil_get (by omega)]
theorem t_rec (hg : geo gW gC gV gB gM gI) (R : Rel gW gC gV gB gM gI st d x) : (x_rec st d gW gC gV gB gM gI).1 = (m_rec x.1 x.2.1 x.2.2.1 x.2.2.2.1 x.2.2.2.2.1 x.2.2.2.2.2.1 x.2.2.2.2.2.2.1 x.2.2.2.2.2.2.2.1 x.2.2.2.2.2.2.2.2 gW gC gV gB).1 ∧ Rel gW gC gV gB gM gI (x_rec st d gW gC gV gB gM gI).2.1 (x_rec st d gW gC gV gB gM gI).2.2 (m_rec x.1 x.2.1 x.2.2.1 x.2.2.2.1 x.2.2.2.2.1 x.2.2.2.2.2.1 x.2.2.2.2.2.2.1 x.2.2.2.2.2.2.2.1 x.2.2.2.2.2.2.2.2 gW gC gV gB).2 := by
  obtain ⟨⟨hW1, hW2⟩, ⟨hC1, hC2⟩, ⟨hV1, hV2⟩, ⟨hB1, hB2⟩, eM, eI⟩ := id hg
  unfold x_rec m_rec
  have hd : x.2.2.2.2.2.2.2.1 = d.2.2.2.2 := R.1.2.2.2.symm
  by_cases h : d.2.2.2.2 = 0
  · rw [if_pos h, if_pos (hd.trans h)]
    exact ⟨rfl, R⟩
  · rw [if_neg h, if_neg (show ¬ x.2.2.2.2.2.2.2.1 = 0 by rw [hd]; exact h)]
    obtain ⟨⟨r1, r2, r3, r4⟩, r5, r6, r7, r8, r9, r10, r11⟩ := R
    have hst : ∀ i, i < gW → fillN st gW 0 i = fillN x.2.2.2.1 4 0 i := fun i hi => by rw [fil_get hi, fil_get (by omega)]
    have ham : x.2.2.2.2.2.1 = 0 := by rw [← r2]; exact r7 h
    rw [r7 h]
    rcases r11 with ⟨q1, q2, q3⟩ | ⟨q1, q2, q3, f', q4, q5, q6, q7⟩
    · rw [if_pos (show x.2.2.2.2.2.2.2.2 ≤ 0 by rw [q1]; decide)]
      have ec : carry (d.1, d.2.1, 0, d.2.2.2.1, 0) gM gB gI = (d.1, d.2.1, 0, d.2.2.2.1, 0) := if_pos q2
      rw [ec]
      exact ⟨rfl, ⟨r1, ham.symm, r3, rfl⟩, Or.inl rfl, ⟨0, by omega, rfl⟩, fun _ => rfl, hst, r9, r10, Or.inl ⟨rfl, q2, q3⟩⟩
    · rw [if_neg q2, q4]
      refine ⟨rfl, ⟨?_, ham.symm, r3, rfl⟩, Or.inl rfl, ⟨0, by omega, rfl⟩, fun _ => rfl, hst, fun k i hk hi => ?_, r10, Or.inl ⟨rfl, q5, q6⟩⟩
      · show d.2.1 + x.2.2.2.2.2.2.2.2 + 1 = x.2.2.2.2.1 + x.2.2.2.2.2.2.2.2 + 1
        rw [r1]
      · show f' (k * gW + i) = x.2.2.1 (4 * k + i)
        rw [q7 _ (geo_slot hg hk hi)]
        exact r9 k i hk hi
end OP
