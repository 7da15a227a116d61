abbrev MS := (Nat → Int32) × (Nat → Int32) × (Nat → Int32) × (Nat → Int32) × Int32 × Int32 × Int32 × Int32 × Int32
def mo_w (o0 om ow os og : Nat) (z1 z2 z3 z4 : ClassId) (gW gC gV gB : Nat) (x : MS) : va_W := [(o0, .inr (2, [.int (nI gW), .int (nI gC), .int (nI gV), .int (nI gB), .ref om, .ref ow, .ref os, .ref og, .int x.2.2.2.2.1, .int x.2.2.2.2.2.1, .int x.2.2.2.2.2.2.1, .int x.2.2.2.2.2.2.2.1, .int x.2.2.2.2.2.2.2.2])), (om, .inl (z1, 24, .inl x.1)), (ow, .inl (z2, 24, .inl x.2.1)), (os, .inl (z3, 52, .inl x.2.2.1)), (og, .inl (z4, 4, .inl x.2.2.2.1))]
def mge (gW gC gV gB : Nat) : Prop := (1 ≤ gW ∧ gW ≤ 4) ∧ (1 ≤ gC ∧ gC ≤ 12) ∧ (1 ≤ gV ∧ gV ≤ 4) ∧ (1 ≤ gB ∧ gB ≤ 6)
def cpyN (f g : Nat → Int32) (n : Nat) : Nat → Int32 := fun j => if j < n then g j else f j
theorem cpyN_0 {f g : Nat → Int32} : f = cpyN f g 0 := by
  funext j
  unfold cpyN
  rw [if_neg (Nat.not_lt_zero j)]
theorem cpyN_s {f g : Nat → Int32} {i : Nat} : upd (cpyN f g i) i (g i) = cpyN f g (i + 1) := by
  funext j
  by_cases h : j = i
  · subst h
    rw [pk_us]
    unfold cpyN
    rw [if_pos (Nat.lt_succ_self j)]
  · rw [pk_un h]
    unfold cpyN
    by_cases c : j < i
    · rw [if_pos c, if_pos (by omega)]
    · rw [if_neg c, if_neg (by omega)]
def cloN (f g : Nat → Int32) (s t : Nat) : Nat → (Nat → Int32)
  | 0 => f
  | k + 1 => upd (cloN f g s t k) (6 * t + k) (g (6 * s + k))
def droN (f : Nat → Int32) (t : Nat) : Nat → (Nat → Int32)
  | 0 => f
  | k + 1 => upd (droN f t k) (6 * t + k) 0
def wrtN (f g : Nat → Int32) (off : Nat) : Nat → (Nat → Int32)
  | 0 => f
  | k + 1 => upd (wrtN f g off k) (off + k) (g k)
def m_many (am n : Int32) : Int32 := if am ≤ 0 then n else if n < am then n else am - 1
def m_left (am n : Int32) : Int32 := if am ≤ 0 then 0 else if n < am then am - n else 0
def m_dn (am n dn : Int32) : Int32 := if am ≤ 0 then dn else if n < am then dn else 1
theorem usd_0 {f : Nat → Int32} {lo q : Nat} {k : Int32} (h : cntC f lo (k + 1) q = 0) : usd f lo q k = 0 := by
  unfold usd
  rw [if_pos h]
theorem usd_1 {f : Nat → Int32} {lo q : Nat} {k : Int32} (h : ¬ cntC f lo (k + 1) q = 0) : ¬ usd f lo q k = 0 := by
  unfold usd
  rw [if_neg h]
  decide
theorem samN_01 (f st : Nat → Int32) (off : Nat) : ∀ k, samN f st off k = 0 ∨ samN f st off k = 1
  | 0 => Or.inr rfl
  | k + 1 => by
    show (if f (off + k) = st k then samN f st off k else 0) = 0 ∨ (if f (off + k) = st k then samN f st off k else 0) = 1
    split
    · exact samN_01 f st off k
    · exact Or.inl rfl
theorem samN_z {f st : Nat → Int32} {off k : Nat} (h : samN f st off k = 0) : samN f st off (k + 1) = 0 := by
  show (if f (off + k) = st k then samN f st off k else 0) = 0
  rw [h]
  split <;> rfl
def shrN (mp sl sg : Nat → Int32) (W : Nat) : Nat → Int32
  | 0 => -1
  | k + 1 => if usd mp 0 24 (nI k) = 0 then shrN mp sl sg W k else if samN sl sg (4 * k) W = 0 then shrN mp sl sg W k else nI k
theorem shrN_u {mp sl sg : Nat → Int32} {W k : Nat} (h : usd mp 0 24 (nI k) = 0) : shrN mp sl sg W (k + 1) = shrN mp sl sg W k := by
  show (if usd mp 0 24 (nI k) = 0 then shrN mp sl sg W k else _) = _
  rw [if_pos h]
theorem shrN_n {mp sl sg : Nat → Int32} {W k : Nat} (h : samN sl sg (4 * k) W = 0) : shrN mp sl sg W (k + 1) = shrN mp sl sg W k := by
  show (if usd mp 0 24 (nI k) = 0 then shrN mp sl sg W k else if samN sl sg (4 * k) W = 0 then shrN mp sl sg W k else nI k) = _
  rw [if_pos h]
  split <;> rfl
theorem shrN_y {mp sl sg : Nat → Int32} {W k : Nat} (h : ¬ usd mp 0 24 (nI k) = 0) (h2 : ¬ samN sl sg (4 * k) W = 0) : shrN mp sl sg W (k + 1) = nI k := by
  show (if usd mp 0 24 (nI k) = 0 then shrN mp sl sg W k else if samN sl sg (4 * k) W = 0 then shrN mp sl sg W k else nI k) = _
  rw [if_neg h, if_neg h2]
theorem shrN_or (mp sl sg : Nat → Int32) (W : Nat) : ∀ k, shrN mp sl sg W k = -1 ∨ ∃ i, i < k ∧ shrN mp sl sg W k = nI i
  | 0 => Or.inl rfl
  | k + 1 => by
    by_cases h : usd mp 0 24 (nI k) = 0
    · rw [shrN_u h]
      rcases shrN_or mp sl sg W k with q | ⟨i, hi, q⟩
      · exact Or.inl q
      · exact Or.inr ⟨i, by omega, q⟩
    · by_cases h2 : samN sl sg (4 * k) W = 0
      · rw [shrN_n h2]
        rcases shrN_or mp sl sg W k with q | ⟨i, hi, q⟩
        · exact Or.inl q
        · exact Or.inr ⟨i, by omega, q⟩
      · exact Or.inr ⟨k, Nat.lt_succ_self k, shrN_y h h2⟩
theorem slot_of0 {x : Int32} {n : Nat} (h : ∃ j, j ≤ n + 1 ∧ x = nI j) (c : ¬ x = 0) : ∃ k, k ≤ n ∧ x - 1 = nI k := by
  obtain ⟨j, hj, ej⟩ := h
  cases j with
  | zero => exact absurd ej c
  | succ k => exact ⟨k, by omega, by rw [ej]; exact nI_pred k⟩
def manyN (a n : Nat) : Nat := if a = 0 then n else if n < a then n else a - 1
def leftN (a n : Nat) : Nat := if a = 0 then 0 else if n < a then a - n else 0
theorem m_many_of {a n : Nat} (ha : a < 2 ^ 31) (hn : n < 2 ^ 31) : m_many (nI a) (nI n) = nI (manyN a n) := by
  unfold m_many manyN
  by_cases h : a = 0
  · rw [if_pos h, if_pos (by rw [h]; decide)]
  · rw [if_neg h, if_neg (nI_nle (by omega) ha)]
    by_cases h2 : n < a
    · rw [if_pos h2, if_pos (nI_lt h2 ha)]
    · rw [if_neg h2, if_neg (nI_nlt (by omega) hn)]
      obtain ⟨k, rfl⟩ : ∃ k, a = k + 1 := ⟨a - 1, by omega⟩
      exact nI_pred k
theorem m_left_of {a n : Nat} (ha : a < 2 ^ 31) (hn : n < 2 ^ 31) : m_left (nI a) (nI n) = nI (leftN a n) := by
  unfold m_left leftN
  by_cases h : a = 0
  · rw [if_pos h, if_pos (by rw [h]; decide)]; rfl
  · rw [if_neg h, if_neg (nI_nle (by omega) ha)]
    by_cases h2 : n < a
    · rw [if_pos h2, if_pos (nI_lt h2 ha)]
      exact pk_sub (by omega)
    · rw [if_neg h2, if_neg (nI_nlt (by omega) hn)]; rfl
theorem m_many_nat {am : Int32} {a n : Nat} (ha : a < 2 ^ 31) (ea : am = nI a) (hn : n < 2 ^ 31) : ∃ q, q ≤ n ∧ m_many am (nI n) = nI q := by
  refine ⟨manyN a n, ?_, by rw [ea]; exact m_many_of ha hn⟩
  unfold manyN
  split
  · exact Nat.le_refl n
  · split <;> omega
def m_format (mp wa sl sg : Nat → Int32) (hp am ar dn rd : Int32) (gW gC gV gB : Nat) : Int32 × MS := (0, (fillN mp 24 0, wa, fillN sl 52 0, fillN sg 4 0, hp, 0, ar, 0, 0))
def m_chg (mp wa sl sg : Nat → Int32) (hp am ar dn rd : Int32) (gW gC gV gB : Nat) (n : Int32) : Int32 × MS :=
  (if m_dn am (n + 5) dn = 0 then 0 else -4, (if m_many am (n + 5) < 4 then mp else cpyN mp wa 24, wa, sl, sg, hp + m_many am (n + 5), m_left am (n + 5), ar, m_dn am (n + 5) dn, if m_many am (n + 5) < 4 then rd else if m_dn am (n + 5) dn = 0 then 0 else n))
def m_stage (mp wa sl sg : Nat → Int32) (hp am ar dn rd : Int32) (gW gC gV gB : Nat) (i x : Int32) : Int32 × MS :=
  if dn = 0 then (if inR i gW = 0 then (-1, (mp, wa, sl, sg, hp, am, ar, dn, rd)) else (0, (mp, wa, sl, upd sg i.toNatClampNeg x, hp, am, ar, dn, rd))) else (-4, (mp, wa, sl, sg, hp, am, ar, dn, rd))
def m_read (mp wa sl sg : Nat → Int32) (hp am ar dn rd : Int32) (gW gC gV gB : Nat) (vol lb i : Int32) : Int32 × MS :=
  if dn = 0 then
    if inB vol lb gV gB = 0 then (0, (mp, wa, sl, sg, hp, am, ar, dn, rd))
    else if inR i gW = 0 then (0, (mp, wa, sl, sg, hp, am, ar, dn, rd))
    else if mp (6 * vol.toNatClampNeg + lb.toNatClampNeg) = 0 then (0, (mp, wa, sl, sg, hp, am, ar, dn, rd))
    else (sl (4 * (mp (6 * vol.toNatClampNeg + lb.toNatClampNeg) - 1).toNatClampNeg + i.toNatClampNeg), (mp, wa, sl, sg, hp, am, ar, dn, rd))
  else (-4, (mp, wa, sl, sg, hp, am, ar, dn, rd))
def m_trim (mp wa sl sg : Nat → Int32) (hp am ar dn rd : Int32) (gW gC gV gB : Nat) (vol lb : Int32) : Int32 × MS :=
  if dn = 0 then
    if inB vol lb gV gB = 0 then (-1, (mp, wa, sl, sg, hp, am, ar, dn, rd))
    else if mp (6 * vol.toNatClampNeg + lb.toNatClampNeg) = 0 then (-3, (mp, wa, sl, sg, hp, am, ar, dn, rd))
    else m_chg mp (upd (cpyN wa mp 24) (6 * vol.toNatClampNeg + lb.toNatClampNeg) 0) sl sg hp am ar dn rd gW gC gV gB 1
  else (-4, (mp, wa, sl, sg, hp, am, ar, dn, rd))
def m_clone (mp wa sl sg : Nat → Int32) (hp am ar dn rd : Int32) (gW gC gV gB : Nat) (src dst : Int32) : Int32 × MS :=
  if dn = 0 then
    if inR src gV = 0 then (-1, (mp, wa, sl, sg, hp, am, ar, dn, rd))
    else if inR dst gV = 0 then (-1, (mp, wa, sl, sg, hp, am, ar, dn, rd))
    else m_chg mp (cloN (cpyN wa mp 24) mp src.toNatClampNeg dst.toNatClampNeg 6) sl sg hp am ar dn rd gW gC gV gB (nI gB)
  else (-4, (mp, wa, sl, sg, hp, am, ar, dn, rd))
def m_drop (mp wa sl sg : Nat → Int32) (hp am ar dn rd : Int32) (gW gC gV gB : Nat) (vol : Int32) : Int32 × MS :=
  if dn = 0 then
    if inR vol gV = 0 then (-1, (mp, wa, sl, sg, hp, am, ar, dn, rd))
    else m_chg mp (droN (cpyN wa mp 24) vol.toNatClampNeg 6) sl sg hp am ar dn rd gW gC gV gB (nI gB)
  else (-4, (mp, wa, sl, sg, hp, am, ar, dn, rd))
def m_used (mp wa sl sg : Nat → Int32) (hp am ar dn rd : Int32) (gW gC gV gB : Nat) : Int32 × MS :=
  if dn = 0 then (nI (usN mp 0 24 (gC + 1)), (mp, wa, sl, sg, hp, am, ar, dn, rd)) else (-4, (mp, wa, sl, sg, hp, am, ar, dn, rd))
def m_refs (mp wa sl sg : Nat → Int32) (hp am ar dn rd : Int32) (gW gC gV gB : Nat) (vol lb : Int32) : Int32 × MS :=
  if dn = 0 then
    if inB vol lb gV gB = 0 then (0, (mp, wa, sl, sg, hp, am, ar, dn, rd))
    else if mp (6 * vol.toNatClampNeg + lb.toNatClampNeg) ≤ 0 then (0, (mp, wa, sl, sg, hp, am, ar, dn, rd))
    else (nI (cntC mp 0 (mp (6 * vol.toNatClampNeg + lb.toNatClampNeg) - 1 + 1) 24), (mp, wa, sl, sg, hp, am, ar, dn, rd))
  else (-4, (mp, wa, sl, sg, hp, am, ar, dn, rd))
def m_slot (mp wa sl sg : Nat → Int32) (hp am ar dn rd : Int32) (gW gC gV gB : Nat) (vol lb : Int32) : Int32 × MS :=
  if dn = 0 then
    if inB vol lb gV gB = 0 then (-1, (mp, wa, sl, sg, hp, am, ar, dn, rd))
    else if mp (6 * vol.toNatClampNeg + lb.toNatClampNeg) = 0 then (-3, (mp, wa, sl, sg, hp, am, ar, dn, rd))
    else (mp (6 * vol.toNatClampNeg + lb.toNatClampNeg) - 1, (mp, wa, sl, sg, hp, am, ar, dn, rd))
  else (-4, (mp, wa, sl, sg, hp, am, ar, dn, rd))
def m_word (mp wa sl sg : Nat → Int32) (hp am ar dn rd : Int32) (gW gC gV gB : Nat) (slot i : Int32) : Int32 × MS :=
  if dn = 0 then
    if slot < 0 then (0, (mp, wa, sl, sg, hp, am, ar, dn, rd))
    else if nI gC < slot then (0, (mp, wa, sl, sg, hp, am, ar, dn, rd))
    else if inR i gW = 0 then (0, (mp, wa, sl, sg, hp, am, ar, dn, rd))
    else (sl (4 * slot.toNatClampNeg + i.toNatClampNeg), (mp, wa, sl, sg, hp, am, ar, dn, rd))
  else (-4, (mp, wa, sl, sg, hp, am, ar, dn, rd))
def m_arm (mp wa sl sg : Nat → Int32) (hp am ar dn rd : Int32) (gW gC gV gB : Nat) (n : Int32) : MS :=
  if dn = 0 then
    if 1 ≤ n then (if 30 ≤ ar then (mp, wa, sl, sg, hp, am, ar, dn, rd) else (mp, wa, sl, sg, hp, n, ar + 1, dn, rd))
    else (mp, wa, sl, sg, hp, 0, ar, dn, rd)
  else (mp, wa, sl, sg, hp, am, ar, dn, rd)
def m_rec (mp wa sl sg : Nat → Int32) (hp am ar dn rd : Int32) (gW gC gV gB : Nat) : Int32 × MS :=
  if dn = 0 then (0, (mp, wa, sl, sg, hp, am, ar, dn, rd))
  else if rd ≤ 0 then (0, (mp, wa, sl, fillN sg 4 0, hp, am, ar, 0, 0))
  else (0, (mp, wa, sl, fillN sg 4 0, hp + rd + 1, am, ar, 0, 0))
def m_lft (mp : Nat → Int32) (gC : Nat) (c : Int32) : Nat :=
  if c ≤ 0 then usN mp 0 24 (gC + 1) + 1 else if cntC mp 0 (c - 1 + 1) 24 = 1 then usN mp 0 24 (gC + 1) else usN mp 0 24 (gC + 1) + 1
def m_wc (mp wa sl sg : Nat → Int32) (hp am ar dn rd : Int32) (gW gC gV gB v b : Nat) (r : Int32) (u : MS) : Prop :=
  (∃ i : Nat, i ≤ gC ∧ shrN mp sl sg gW (gC + 1) = nI i ∧ mp (6 * v + b) = nI (i + 1) ∧ r = 0 ∧ u = (mp, wa, sl, sg, hp, am, ar, dn, rd)) ∨
  (∃ i : Nat, i ≤ gC ∧ shrN mp sl sg gW (gC + 1) = nI i ∧ ¬ mp (6 * v + b) = nI (i + 1) ∧
    r = (m_chg mp (upd (cpyN wa mp 24) (6 * v + b) (nI (i + 1))) sl sg hp am ar dn rd gW gC gV gB 1).1 ∧ u = (m_chg mp (upd (cpyN wa mp 24) (6 * v + b) (nI (i + 1))) sl sg hp am ar dn rd gW gC gV gB 1).2) ∨
  (shrN mp sl sg gW (gC + 1) = -1 ∧ ¬ m_lft mp gC (mp (6 * v + b)) ≤ gC ∧ r = -2 ∧ u = (mp, wa, sl, sg, hp, am, ar, dn, rd)) ∨
  (shrN mp sl sg gW (gC + 1) = -1 ∧ m_lft mp gC (mp (6 * v + b)) ≤ gC ∧ ∃ k : Nat, k ≤ 12 ∧ (∀ j, j < k → ¬ usd mp 0 24 (nI j) = 0) ∧ usd mp 0 24 (nI k) = 0 ∧ ∃ q : Nat, q ≤ gW ∧ m_many am (nI gW) = nI q ∧
    ((¬ m_dn am (nI gW) dn = 0 ∧ r = -4 ∧ u = (mp, wa, wrtN sl sg (4 * k) q, sg, hp + m_many am (nI gW), m_left am (nI gW), ar, m_dn am (nI gW) dn, rd)) ∨
     (m_dn am (nI gW) dn = 0 ∧
       r = (m_chg mp (upd (cpyN wa mp 24) (6 * v + b) (nI (k + 1))) (wrtN sl sg (4 * k) q) sg (hp + m_many am (nI gW)) (m_left am (nI gW)) ar (m_dn am (nI gW) dn) rd gW gC gV gB 1).1 ∧
       u = (m_chg mp (upd (cpyN wa mp 24) (6 * v + b) (nI (k + 1))) (wrtN sl sg (4 * k) q) sg (hp + m_many am (nI gW)) (m_left am (nI gW)) ar (m_dn am (nI gW) dn) rd gW gC gV gB 1).2)))
def m_wb (mp wa sl sg : Nat → Int32) (hp am ar dn rd : Int32) (gW gC gV gB : Nat) (vol lb : Int32) (r : Int32) (u : MS) : Prop :=
  (¬ dn = 0 ∧ r = -4 ∧ u = (mp, wa, sl, sg, hp, am, ar, dn, rd)) ∨
  (dn = 0 ∧ inB vol lb gV gB = 0 ∧ r = -1 ∧ u = (mp, wa, sl, sg, hp, am, ar, dn, rd)) ∨
  (dn = 0 ∧ ¬ inB vol lb gV gB = 0 ∧ ∃ v b : Nat, v < gV ∧ b < gB ∧ vol = nI v ∧ lb = nI b ∧ m_wc mp wa sl sg hp am ar dn rd gW gC gV gB v b r u)
