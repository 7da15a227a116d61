def dk_run (d : DS) : List (Nat × Int32) → DS
  | [] => d
  | w :: L => dk_run (dk_write d w.1 w.2) L
def ap (f : Nat → Int32) : List (Nat × Int32) → (Nat → Int32)
  | [] => f
  | w :: L => ap (upd f w.1 w.2) L
theorem dk_run_app (d : DS) (L M : List (Nat × Int32)) : dk_run d (L ++ M) = dk_run (dk_run d L) M := by
  induction L generalizing d with
  | nil => rfl
  | cons w L ih => exact ih _
theorem ap_app (f : Nat → Int32) (L M : List (Nat × Int32)) : ap f (L ++ M) = ap (ap f L) M := by
  induction L generalizing f with
  | nil => rfl
  | cons w L ih => exact ih _
theorem dk_run_down {d : DS} (h : ¬ d.2.2.2.2 = 0) (L : List (Nat × Int32)) : dk_run d L = d := by
  induction L with
  | nil => rfl
  | cons w L ih =>
    show dk_run (dk_write d w.1 w.2) L = d
    rw [dk_down h]
    exact ih
theorem ap_nin {f : Nat → Int32} {L : List (Nat × Int32)} {x : Nat} (h : ∀ w ∈ L, ¬ w.1 = x) : ap f L x = f x := by
  induction L generalizing f with
  | nil => rfl
  | cons w L ih =>
    show ap (upd f w.1 w.2) L x = f x
    rw [ih (fun q hq => h q (List.mem_cons_of_mem _ hq))]
    exact pk_un (fun e => h w List.mem_cons_self e.symm)
theorem ap_keep {f : Nat → Int32} {L : List (Nat × Int32)} {x : Nat} {c : Int32} (h : ∀ w ∈ L, w.1 = x → w.2 = c) (h0 : f x = c) : ap f L x = c := by
  induction L generalizing f with
  | nil => exact h0
  | cons w L ih =>
    show ap (upd f w.1 w.2) L x = c
    refine ih (fun q hq => h q (List.mem_cons_of_mem _ hq)) ?_
    by_cases e : x = w.1
    · rw [e, pk_us]
      exact h w List.mem_cons_self e.symm
    · rw [pk_un e]
      exact h0
theorem ap_or (L : List (Nat × Int32)) (x : Nat) : (∀ f, ap f L x = f x) ∨ (∃ c, ∀ f, ap f L x = c) := by
  induction L with
  | nil => exact Or.inl (fun f => rfl)
  | cons w L ih =>
    rcases ih with h | ⟨c, h⟩
    · by_cases e : x = w.1
      · refine Or.inr ⟨w.2, fun f => ?_⟩
        show ap (upd f w.1 w.2) L x = w.2
        rw [h, e, pk_us]
      · refine Or.inl (fun f => ?_)
        show ap (upd f w.1 w.2) L x = f x
        rw [h, pk_un e]
    · exact Or.inr ⟨c, fun f => h _⟩
theorem ap_cong {L : List (Nat × Int32)} {x : Nat} {f g : Nat → Int32} (h : f x = g x) : ap f L x = ap g L x := by
  rcases ap_or L x with q | ⟨c, q⟩
  · rw [q, q, h]
  · rw [q, q]
theorem ap_again {L : List (Nat × Int32)} {x j : Nat} {f : Nat → Int32} : ap (ap f (L.take j)) L x = ap f L x := by
  rcases ap_or L x with q | ⟨c, q⟩
  · have h1 := q f
    rw [q (ap f (L.take j)), h1]
    have h2 : ap f L = ap (ap f (L.take j)) (L.drop j) := by rw [← ap_app, List.take_append_drop]
    rcases ap_or (L.drop j) x with p | ⟨c, p⟩
    · rw [← p (ap f (L.take j)), ← h2]
      exact h1
    ·
      exfalso
      have k1 : ∀ g : Nat → Int32, g x = c := fun g => by
        have e : ap g L = ap (ap g (L.take j)) (L.drop j) := by rw [← ap_app, List.take_append_drop]
        rw [← q g, e]
        exact p _
      have a := k1 (fun _ => 0)
      have b := k1 (fun _ => 1)
      rw [← b] at a
      exact absurd a (by decide)
  · rw [q, q]
theorem ap_last (f : Nat → Int32) (L : List (Nat × Int32)) (y : Nat) (c : Int32) : ap f (L ++ [(y, c)]) y = c := by
  rw [ap_app]
  exact pk_us
theorem run_off (f : Nat → Int32) (wc la : Int32) (L : List (Nat × Int32)) : dk_run (f, wc, 0, la, 0) L = (ap f L, wc + nI L.length, 0, la, 0) := by
  induction L generalizing f wc with
  | nil =>
    show (f, wc, (0 : Int32), la, (0 : Int32)) = (f, wc + nI 0, 0, la, 0)
    rw [nI_0, Int32.add_zero]
  | cons w L ih =>
    have e : dk_write (f, wc, 0, la, 0) w.1 w.2 = (upd f w.1 w.2, wc + 1, 0, la, 0) := by
      unfold dk_write
      rw [if_pos rfl, if_pos rfl]
    show dk_run (dk_write (f, wc, 0, la, 0) w.1 w.2) L = _
    rw [e, ih]
    show (ap (upd f w.1 w.2) L, wc + 1 + nI L.length, (0 : Int32), la, (0 : Int32)) = (ap (upd f w.1 w.2) L, wc + nI (L.length + 1), 0, la, 0)
    rw [Int32.add_assoc, ← nI_1, Int32.add_comm 1 (nI L.length)]
def dnN (a n : Nat) : Int32 := if a = 0 then 0 else if n < a then 0 else 1
theorem run_on (la : Int32) (L : List (Nat × Int32)) : ∀ (f : Nat → Int32) (wc : Int32) (a : Nat), 0 < a → a < 2 ^ 31 → dk_run (f, wc, nI a, la, 0) L = (ap f (L.take (manyN a L.length)), wc + nI (manyN a L.length), nI (leftN a L.length), la, dnN a L.length) := by
  induction L with
  | nil =>
    intro f wc a h0 h1
    have e1 : manyN a 0 = 0 := by unfold manyN; rw [if_neg (by omega), if_pos h0]
    have e2 : leftN a 0 = a := by unfold leftN; rw [if_neg (by omega), if_pos h0]; omega
    have e3 : dnN a 0 = 0 := by unfold dnN; rw [if_neg (by omega), if_pos h0]
    show (f, wc, nI a, la, (0 : Int32)) = (ap f (List.take (manyN a 0) []), wc + nI (manyN a 0), nI (leftN a 0), la, dnN a 0)
    rw [e1, e2, e3, nI_0, Int32.add_zero]
    rfl
  | cons w L ih =>
    intro f wc a h0 h1
    show dk_run (dk_write (f, wc, nI a, la, 0) w.1 w.2) L = _
    have hn : ¬ nI a = 0 := nI_ne0 h0 h1
    rcases Nat.lt_or_ge 1 a with c | c
    · obtain ⟨b, rfl⟩ : ∃ b, a = b + 1 := ⟨a - 1, by omega⟩
      have hb : ¬ nI b = 0 := nI_ne0 (by omega) (by omega)
      have e : dk_write (f, wc, nI (b + 1), la, 0) w.1 w.2 = (upd f w.1 w.2, wc + 1, nI b, la, 0) := by
        unfold dk_write
        dsimp only
        rw [if_pos rfl, if_neg hn, nI_pred, if_neg hb]
      rw [e, ih _ _ b (by omega) (by omega)]
      have e1 : manyN (b + 1) (L.length + 1) = manyN b L.length + 1 := by
        unfold manyN
        repeat' split
        all_goals omega
      have e2 : leftN (b + 1) (L.length + 1) = leftN b L.length := by
        unfold leftN
        repeat' split
        all_goals omega
      have e3 : dnN (b + 1) (L.length + 1) = dnN b L.length := by
        unfold dnN
        repeat' split
        all_goals first | rfl | (exfalso; omega)
      rw [List.length_cons, e1, e2, e3, List.take_succ_cons]
      show (ap (upd f w.1 w.2) (L.take (manyN b L.length)), wc + 1 + nI (manyN b L.length), _) = (ap (upd f w.1 w.2) (L.take (manyN b L.length)), wc + nI (manyN b L.length + 1), _)
      rw [Int32.add_assoc, ← nI_1, Int32.add_comm 1 (nI (manyN b L.length))]
    · have ha : a = 1 := by omega
      subst ha
      have e : dk_write (f, wc, nI 1, la, 0) w.1 w.2 = (f, wc, 0, la, 1) := by
        unfold dk_write
        dsimp only
        rw [if_pos rfl, if_neg hn, show nI 1 - 1 = 0 from rfl, if_pos rfl]
      rw [e, dk_run_down (d := (f, wc, 0, la, 1)) (show ¬ (1 : Int32) = 0 by decide)]
      have e1 : manyN 1 (L.length + 1) = 0 := by
        unfold manyN
        rw [if_neg (by omega), if_neg (by omega)]
      have e2 : leftN 1 (L.length + 1) = 0 := by
        unfold leftN
        rw [if_neg (by omega), if_neg (by omega)]
      have e3 : dnN 1 (L.length + 1) = 1 := by
        unfold dnN
        rw [if_neg (by omega), if_neg (by omega)]
      rw [List.length_cons, e1, e2, e3, nI_0, Int32.add_zero]
      rfl
theorem run_all (f : Nat → Int32) (wc la : Int32) (a : Nat) (ha : a < 2 ^ 31) (L : List (Nat × Int32)) : dk_run (f, wc, nI a, la, 0) L = (ap f (L.take (manyN a L.length)), wc + nI (manyN a L.length), nI (leftN a L.length), la, dnN a L.length) := by
  rcases Nat.eq_zero_or_pos a with h | h
  · subst h
    have e1 : manyN 0 L.length = L.length := by unfold manyN; rw [if_pos rfl]
    have e2 : leftN 0 L.length = 0 := by unfold leftN; rw [if_pos rfl]
    have e3 : dnN 0 L.length = 0 := by unfold dnN; rw [if_pos rfl]
    rw [e1, e2, e3, nI_0, List.take_length]
    exact run_off f wc la L
  · exact run_on la L f wc a h ha
theorem m_dn_of {a n : Nat} (ha : a < 2 ^ 31) (hn : n < 2 ^ 31) : m_dn (nI a) (nI n) 0 = dnN a n := by
  unfold m_dn dnN
  by_cases h : a = 0
  · rw [if_pos h, if_pos (by rw [h]; decide)]
  · rw [if_neg h, if_neg (nI_nle (by omega) ha)]
    by_cases h2 : n < a
    · rw [if_pos h2, if_pos (nI_lt h2 ha)]
    · rw [if_neg h2, if_neg (nI_nlt (by omega) hn)]
theorem run_out {d : DS} {L : List (Nat × Int32)} {x : Nat} (h : ∀ w ∈ L, ¬ w.1 = x) : (dk_run d L).1 x = d.1 x := by
  induction L generalizing d with
  | nil => rfl
  | cons w L ih =>
    show (dk_run (dk_write d w.1 w.2) L).1 x = d.1 x
    rw [ih (fun q hq => h q (List.mem_cons_of_mem _ hq))]
    exact dk_out (fun e => h w List.mem_cons_self e.symm)
def wsL (off : Nat) (st : Nat → Int32) (k : Nat) : List (Nat × Int32) := (List.range k).map (fun j => (off + j, st j))
theorem ws_run (d : DS) (off : Nat) (st : Nat → Int32) : ∀ k, dk_ws d off st k = dk_run d (wsL off st k)
  | 0 => rfl
  | k + 1 => by
    show dk_write (dk_ws d off st k) (off + k) (st k) = _
    rw [ws_run d off st k]
    unfold wsL
    rw [List.range_succ, List.map_append, dk_run_app]
    rfl
def rowL (lo b v : Nat) (g : Nat → Int32) (k : Nat) : List (Nat × Int32) := (List.range k).map (fun j => (lo + v * b + j, g j))
theorem rowL_s (lo b v : Nat) (g : Nat → Int32) (k : Nat) : rowL lo b v g (k + 1) = rowL lo b v g k ++ [(lo + v * b + k, g k)] := by
  unfold rowL
  rw [List.range_succ, List.map_append]
  rfl
theorem rowL_mem {lo b v : Nat} {g : Nat → Int32} {k : Nat} {w : Nat × Int32} (h : w ∈ rowL lo b v g k) : ∃ j, j < k ∧ w = (lo + v * b + j, g j) := by
  unfold rowL at h
  obtain ⟨j, hj, e⟩ := List.mem_map.mp h
  exact ⟨j, List.mem_range.mp hj, e.symm⟩
theorem rowL_len (lo b v : Nat) (g : Nat → Int32) (k : Nat) : (rowL lo b v g k).length = k := by
  unfold rowL
  rw [List.length_map, List.length_range]
theorem un_run (lo b v : Nat) (d : DS) : ∀ k, dk_un lo b v d k = dk_run d (rowL lo b v (fun _ => (-1) + 1) k)
  | 0 => rfl
  | k + 1 => by
    show dk_write (dk_un lo b v d k) (lo + v * b + k) ((-1) + 1) = _
    rw [un_run lo b v d k, rowL_s, dk_run_app]
    rfl
theorem as_run (lo b v w : Nat) (d : DS) (g : Nat → Int32) (hg : ∀ j, j < b → d.1 (lo + w * b + j) = g j) : ∀ k, k ≤ b → dk_as lo b v w d k = dk_run d (rowL lo b v (fun j => g j - 1 + 1) k)
  | 0, _ => rfl
  | k + 1, hk => by
    show dk_write (dk_as lo b v w d k) (lo + v * b + k) ((dk_as lo b v w d k).1 (lo + w * b + k) - 1 + 1) = _
    rw [as_run lo b v w d g hg k (by omega), rowL_s, dk_run_app]
    have e : (dk_run d (rowL lo b v (fun j => g j - 1 + 1) k)).1 (lo + w * b + k) = g k := by
      rw [run_out, hg k (by omega)]
      intro q hq e
      obtain ⟨j, hj, rfl⟩ := rowL_mem hq
      have e : lo + v * b + j = lo + w * b + k := e
      have := ix_eq (v := v) (w := w) (b := j) (q := k) (B := b) (by omega) (by omega) (by omega)
      omega
    rw [e]
    rfl
