theorem cnt_pos {f : Nat → Int32} {lo n : Nat} {v : Int32} (h : ¬ cntC f lo v n = 0) : ∃ j, j < n ∧ f (lo + j) = v := by
  induction n with
  | zero => exact absurd rfl h
  | succ n ih =>
    by_cases c : f (lo + n) = v
    · exact ⟨n, Nat.lt_succ_self n, c⟩
    · rw [← cntC_mis c] at h
      obtain ⟨j, hj, e⟩ := ih h
      exact ⟨j, by omega, e⟩
theorem cnt_ge {f : Nat → Int32} {lo n : Nat} {v : Int32} {j : Nat} (hj : j < n) (e : f (lo + j) = v) : 1 ≤ cntC f lo v n := by
  induction n with
  | zero => omega
  | succ n ih =>
    by_cases c : f (lo + n) = v
    · rw [← cntC_hit c]; omega
    · rw [← cntC_mis c]
      rcases Nat.lt_or_ge j n with q | q
      · exact ih q
      · have : j = n := by omega
        subst this
        exact absurd e c
theorem cnt_two {f : Nat → Int32} {lo n : Nat} {v : Int32} {i j : Nat} (hi : i < n) (hj : j < n) (hne : ¬ i = j) (ei : f (lo + i) = v) (ej : f (lo + j) = v) : 2 ≤ cntC f lo v n := by
  induction n with
  | zero => omega
  | succ n ih =>
    by_cases c : f (lo + n) = v
    · rw [← cntC_hit c]
      rcases Nat.lt_or_ge i n with q | q
      · have := cnt_ge (f := f) (lo := lo) (v := v) q ei
        omega
      · have := cnt_ge (f := f) (lo := lo) (v := v) (show j < n by omega) ej
        omega
    · rw [← cntC_mis c]
      have h1 : ¬ i = n := fun q => c (by rw [← q]; exact ei)
      have h2 : ¬ j = n := fun q => c (by rw [← q]; exact ej)
      exact ih (by omega) (by omega)
theorem cnt_congr {f g : Nat → Int32} {lo lo2 n : Nat} {v : Int32} (h : ∀ j, j < n → f (lo + j) = g (lo2 + j)) : cntC f lo v n = cntC g lo2 v n := by
  induction n with
  | zero => rfl
  | succ n ih =>
    show cntC f lo v n + (if f (lo + n) = v then 1 else 0) = cntC g lo2 v n + (if g (lo2 + n) = v then 1 else 0)
    rw [ih (fun j hj => h j (by omega)), h n (Nat.lt_succ_self n)]
theorem cnt_split (f : Nat → Int32) (lo a : Nat) (v : Int32) : ∀ b, cntC f lo v (a + b) = cntC f lo v a + cntC f (lo + a) v b
  | 0 => rfl
  | b + 1 => by
    show cntC f lo v (a + b) + (if f (lo + (a + b)) = v then 1 else 0) = cntC f lo v a + (cntC f (lo + a) v b + (if f (lo + a + b) = v then 1 else 0))
    rw [cnt_split f lo a v b, Nat.add_assoc lo a b]
    omega
theorem cnt_none {f : Nat → Int32} {lo n : Nat} {v : Int32} (h : ∀ j, j < n → ¬ f (lo + j) = v) : cntC f lo v n = 0 :=
  Classical.byContradiction fun q => by
    obtain ⟨j, hj, e⟩ := cnt_pos q
    exact h j hj e
theorem cnt_vw {f mp : Nat → Int32} {gV gB gM : Nat} {x : Int32} (hV : gV ≤ 4) (hB : gB ≤ 6) (h : vw f mp gV gB gM) (hz : ∀ v b, v < 4 → b < 6 → ¬ (v < gV ∧ b < gB) → mp (6 * v + b) = 0) (hx : ¬ x = 0) : cntC f gM x (gV * gB) = cntC mp 0 x 24 := by
  have hx' : ∀ y : Int32, y = 0 → ¬ y = x := fun y hy e => hx (by rw [← e]; exact hy)
  have row : ∀ v, v < gV → cntC f (gM + v * gB) x gB = cntC mp (6 * v) x 6 := by
    intro v hv
    have e : cntC mp (6 * v) x 6 = cntC mp (6 * v) x gB + cntC mp (6 * v + gB) x (6 - gB) := by
      rw [← cnt_split, show gB + (6 - gB) = 6 by omega]
    rw [e, cnt_none (f := mp) (lo := 6 * v + gB), Nat.add_zero]
    · exact cnt_congr (fun j hj => h v j hv hj)
    · intro j hj
      rw [Nat.add_assoc]
      exact hx' _ (hz v (gB + j) (by omega) (by omega) (by omega))
  have left : ∀ n, n ≤ gV → cntC f gM x (n * gB) = cntC mp 0 x (6 * n) := by
    intro n
    induction n with
    | zero => intro _; rw [Nat.zero_mul]; rfl
    | succ n ih =>
      intro hn
      rw [Nat.succ_mul, cnt_split, ih (by omega), row n (by omega), show 6 * (n + 1) = 6 * n + 6 by omega, cnt_split, Nat.zero_add]
  rw [left gV (Nat.le_refl gV)]
  have e : cntC mp 0 x 24 = cntC mp 0 x (6 * gV) + cntC mp (0 + 6 * gV) x (24 - 6 * gV) := by
    rw [← cnt_split, show 6 * gV + (24 - 6 * gV) = 24 by omega]
  rw [e, cnt_none (f := mp) (lo := 0 + 6 * gV), Nat.add_zero]
  intro j hj
  have e2 : 0 + 6 * gV + j = 6 * (gV + j / 6) + j % 6 := by omega
  rw [e2]
  exact hx' _ (hz (gV + j / 6) (j % 6) (by omega) (by omega) (by omega))
theorem nI_s0 {k : Nat} (h : k < 1000) : ¬ nI k + 1 = 0 := by
  rw [nI_1]
  exact nI_ne0 (by omega) (by omega)
theorem usd_vw {f mp : Nat → Int32} {gV gB gM : Nat} {k : Nat} (hV : gV ≤ 4) (hB : gB ≤ 6) (h : vw f mp gV gB gM) (hz : ∀ v b, v < 4 → b < 6 → ¬ (v < gV ∧ b < gB) → mp (6 * v + b) = 0) (hk : k < 1000) : usd f gM (gV * gB) (nI k) = usd mp 0 24 (nI k) := by
  unfold usd
  rw [cnt_vw hV hB h hz (nI_s0 hk)]
theorem usN_congr {f g : Nat → Int32} {lo lo2 q q2 n : Nat} (h : ∀ k, k < n → usd f lo q (nI k) = usd g lo2 q2 (nI k)) : usN f lo q n = usN g lo2 q2 n := by
  induction n with
  | zero => rfl
  | succ n ih =>
    show usN f lo q n + (if usd f lo q (nI n) = 0 then 0 else 1) = usN g lo2 q2 n + (if usd g lo2 q2 (nI n) = 0 then 0 else 1)
    rw [ih (fun k hk => h k (by omega)), h n (Nat.lt_succ_self n)]
theorem usN_mono {f g : Nat → Int32} {n : Nat} (h : ∀ k, k < n → ¬ usd f 0 24 (nI k) = 0 → ¬ usd g 0 24 (nI k) = 0) : usN f 0 24 n ≤ usN g 0 24 n := by
  induction n with
  | zero => exact Nat.le_refl 0
  | succ n ih =>
    have ih := ih (fun k hk => h k (by omega))
    by_cases c : usd f 0 24 (nI n) = 0
    · rw [← usN_mis c]
      by_cases c2 : usd g 0 24 (nI n) = 0
      · rw [← usN_mis c2]; exact ih
      · rw [← usN_hit c2]; omega
    · rw [← usN_hit c, ← usN_hit (h n (Nat.lt_succ_self n) c)]
      omega
theorem usN_add {f g : Nat → Int32} {n k : Nat} (h : ∀ j, j < n → ¬ usd g 0 24 (nI j) = 0 → j = k ∨ ¬ usd f 0 24 (nI j) = 0) : usN g 0 24 n ≤ usN f 0 24 n + 1 ∧ (n ≤ k → usN g 0 24 n ≤ usN f 0 24 n) := by
  induction n with
  | zero => exact ⟨by show 0 ≤ 0 + 1; omega, fun _ => Nat.le_refl 0⟩
  | succ n ih =>
    obtain ⟨i1, i2⟩ := ih (fun j hj => h j (by omega))
    by_cases c : usd g 0 24 (nI n) = 0
    · rw [← usN_mis c]
      by_cases c2 : usd f 0 24 (nI n) = 0
      · rw [← usN_mis c2]; exact ⟨i1, fun q => i2 (by omega)⟩
      · rw [← usN_hit c2]; exact ⟨by omega, fun q => by have := i2 (by omega); omega⟩
    · rw [← usN_hit c]
      rcases h n (Nat.lt_succ_self n) c with q | q
      · have := i2 (by omega)
        refine ⟨?_, fun q2 => by omega⟩
        by_cases c2 : usd f 0 24 (nI n) = 0
        · rw [← usN_mis c2]; omega
        · rw [← usN_hit c2]; omega
      · rw [← usN_hit q]
        exact ⟨by omega, fun q2 => by have := i2 (by omega); omega⟩
theorem usN_less {f g : Nat → Int32} {o : Nat} {n : Nat} (hm : ∀ j, j < n → ¬ usd g 0 24 (nI j) = 0 → ¬ usd f 0 24 (nI j) = 0) (ho : o < n) (hof : ¬ usd f 0 24 (nI o) = 0) (hog : usd g 0 24 (nI o) = 0) : usN g 0 24 n + 1 ≤ usN f 0 24 n := by
  induction n with
  | zero => omega
  | succ n ih =>
    by_cases e : o = n
    · subst e
      rw [← usN_mis hog, ← usN_hit hof]
      have := usN_mono (f := g) (g := f) (n := o) (fun j hj => hm j (by omega))
      omega
    · have ih := ih (fun j hj => hm j (by omega)) (by omega)
      by_cases c : usd g 0 24 (nI n) = 0
      · rw [← usN_mis c]
        by_cases c2 : usd f 0 24 (nI n) = 0
        · rw [← usN_mis c2]; exact ih
        · rw [← usN_hit c2]; omega
      · rw [← usN_hit c, ← usN_hit (hm n (Nat.lt_succ_self n) c)]
        omega
theorem usN_swap {f g : Nat → Int32} {n k o : Nat} (h : ∀ j, j < n → ¬ usd g 0 24 (nI j) = 0 → j = k ∨ ¬ usd f 0 24 (nI j) = 0) (ho : o < n) (hof : ¬ usd f 0 24 (nI o) = 0) (hog : usd g 0 24 (nI o) = 0) : usN g 0 24 n ≤ usN f 0 24 n := by
  induction n with
  | zero => omega
  | succ n ih =>
    have hh : ∀ j, j < n → ¬ usd g 0 24 (nI j) = 0 → j = k ∨ ¬ usd f 0 24 (nI j) = 0 := fun j hj => h j (by omega)
    obtain ⟨i1, i2⟩ := usN_add hh
    by_cases e : o = n
    · subst e
      rw [← usN_mis hog, ← usN_hit hof]
      exact i1
    · have ih := ih hh (by omega)
      by_cases c : usd g 0 24 (nI n) = 0
      · rw [← usN_mis c]
        by_cases c2 : usd f 0 24 (nI n) = 0
        · rw [← usN_mis c2]; exact ih
        · rw [← usN_hit c2]; omega
      · rcases h n (Nat.lt_succ_self n) c with q | q
        · have := i2 (by omega)
          rw [← usN_hit c]
          have strict : usN g 0 24 n + 1 ≤ usN f 0 24 n := usN_less (fun j hj hu => (hh j hj hu).resolve_left (by omega)) (by omega) hof hog
          by_cases c2 : usd f 0 24 (nI n) = 0
          · rw [← usN_mis c2]; exact strict
          · rw [← usN_hit c2]; omega
        · rw [← usN_hit c, ← usN_hit q]
          omega
theorem usN_free {f : Nat → Int32} {n : Nat} (h : usN f 0 24 n < n) : ∃ k, k < n ∧ usd f 0 24 (nI k) = 0 := by
  induction n with
  | zero => omega
  | succ n ih =>
    by_cases c : usd f 0 24 (nI n) = 0
    · exact ⟨n, Nat.lt_succ_self n, c⟩
    · rw [← usN_hit c] at h
      obtain ⟨k, hk, e⟩ := ih (by omega)
      exact ⟨k, by omega, e⟩
theorem usd_ex {mp : Nat → Int32} {k : Nat} (h : ¬ usd mp 0 24 (nI k) = 0) : ∃ j, j < 24 ∧ mp j = nI (k + 1) := by
  have h2 : ¬ cntC mp 0 (nI k + 1) 24 = 0 := fun q => h (usd_0 q)
  obtain ⟨j, hj, e⟩ := cnt_pos h2
  rw [Nat.zero_add, nI_1] at e
  exact ⟨j, hj, e⟩
theorem usd_in {mp : Nat → Int32} {k j : Nat} (hj : j < 24) (e : mp j = nI (k + 1)) : ¬ usd mp 0 24 (nI k) = 0 := by
  refine usd_1 (fun q => ?_)
  have := cnt_ge (f := mp) (lo := 0) (n := 24) (v := nI k + 1) hj (by rw [Nat.zero_add, nI_1]; exact e)
  omega
theorem at_lt {v b : Nat} (hv : v < 4) (hb : b < 6) : 6 * v + b < 24 := by omega
theorem mok_rng {mp sl : Nat → Int32} {gW gC gV gB : Nat} (hV : gV ≤ 4) (hB : gB ≤ 6) (h : mok mp sl gW gC gV gB) {j : Nat} (hj : j < 24) : ∃ i, i ≤ gC + 1 ∧ mp j = nI i := by
  have e : j = 6 * (j / 6) + j % 6 := by omega
  rw [e]
  by_cases c : j / 6 < gV ∧ j % 6 < gB
  · exact h.1 _ _ c.1 c.2
  · exact ⟨0, by omega, (h.2.1 _ _ (by omega) (by omega) c).trans nI_0.symm⟩
theorem mok_sub {mp mp' sl : Nat → Int32} {gW gC gV gB : Nat} (hV : gV ≤ 4) (hB : gB ≤ 6) (hC : gC ≤ 12) (h : mok mp sl gW gC gV gB) (h1 : ∀ j, j < 24 → mp' j = 0 ∨ ∃ i, i < 24 ∧ mp' j = mp i) (h2 : ∀ v b, v < 4 → b < 6 → ¬ (v < gV ∧ b < gB) → mp' (6 * v + b) = 0) : mok mp' sl gW gC gV gB := by
  have hu : ∀ k, k < gC + 1 → ¬ usd mp' 0 24 (nI k) = 0 → ¬ usd mp 0 24 (nI k) = 0 := by
    intro k hk hu
    obtain ⟨j, hj, e⟩ := usd_ex hu
    rcases h1 j hj with q | ⟨i, hi, q⟩
    · rw [q] at e
      exact absurd e.symm (nI_ne0 (by omega) (by omega))
    · exact usd_in hi (q.symm.trans e)
  refine ⟨fun v b hv hb => ?_, h2, Nat.le_trans (usN_mono hu) h.2.2.1, fun i j hi hj ui uj hw => h.2.2.2 i j hi hj (hu i (by omega) ui) (hu j (by omega) uj) hw⟩
  rcases h1 (6 * v + b) (at_lt (by omega) (by omega)) with q | ⟨i, hi, q⟩
  · exact ⟨0, by omega, q.trans nI_0.symm⟩
  · rw [q]
    exact mok_rng hV hB h hi
theorem cpy_upd {mp wa : Nat → Int32} {x : Nat} {c : Int32} (hx : x < 24) : cpyN mp (upd (cpyN wa mp 24) x c) 24 = upd mp x c := by
  funext j
  by_cases h : j = x
  · subst h
    rw [pk_us]
    unfold cpyN
    rw [if_pos hx]
    exact pk_us
  · rw [pk_un h]
    unfold cpyN
    by_cases q : j < 24
    · rw [if_pos q, pk_un h]
      show (if j < 24 then mp j else wa j) = mp j
      rw [if_pos q]
    · rw [if_neg q]
theorem clo_get (f g : Nat → Int32) (s t : Nat) (j : Nat) : ∀ n, cloN f g s t n j = if 6 * t ≤ j ∧ j < 6 * t + n then g (6 * s + (j - 6 * t)) else f j
  | 0 => by
    rw [if_neg (by omega)]
    rfl
  | n + 1 => by
    show upd (cloN f g s t n) (6 * t + n) (g (6 * s + n)) j = _
    by_cases h : j = 6 * t + n
    · subst h
      rw [pk_us, if_pos (by omega), show 6 * t + n - 6 * t = n by omega]
    · rw [pk_un h, clo_get f g s t j n]
      by_cases q : 6 * t ≤ j ∧ j < 6 * t + n
      · rw [if_pos q, if_pos (by omega)]
      · rw [if_neg q, if_neg (by omega)]
theorem dro_get (f : Nat → Int32) (t : Nat) (j : Nat) : ∀ n, droN f t n j = if 6 * t ≤ j ∧ j < 6 * t + n then 0 else f j
  | 0 => by
    rw [if_neg (by omega)]
    rfl
  | n + 1 => by
    show upd (droN f t n) (6 * t + n) 0 j = _
    by_cases h : j = 6 * t + n
    · subst h
      rw [pk_us, if_pos (by omega)]
    · rw [pk_un h, dro_get f t j n]
      by_cases q : 6 * t ≤ j ∧ j < 6 * t + n
      · rw [if_pos q, if_pos (by omega)]
      · rw [if_neg q, if_neg (by omega)]
theorem cpy_clo {mp wa : Nat → Int32} {s t : Nat} (ht : t < 4) : cpyN mp (cloN (cpyN wa mp 24) mp s t 6) 24 = cloN mp mp s t 6 := by
  funext j
  rw [clo_get]
  unfold cpyN
  by_cases q : j < 24
  · rw [if_pos q, clo_get]
    by_cases p : 6 * t ≤ j ∧ j < 6 * t + 6
    · rw [if_pos p, if_pos p]
    · rw [if_neg p, if_neg p, if_pos q]
  · rw [if_neg q, if_neg (by omega)]
theorem cpy_dro {mp wa : Nat → Int32} {t : Nat} (ht : t < 4) : cpyN mp (droN (cpyN wa mp 24) t 6) 24 = droN mp t 6 := by
  funext j
  rw [dro_get]
  unfold cpyN
  by_cases q : j < 24
  · rw [if_pos q, dro_get]
    by_cases p : 6 * t ≤ j ∧ j < 6 * t + 6
    · rw [if_pos p, if_pos p]
    · rw [if_neg p, if_neg p, if_pos q]
  · rw [if_neg q, if_neg (by omega)]
