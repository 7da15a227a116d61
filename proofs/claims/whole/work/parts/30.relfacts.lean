def bo_w (h0 hs hd hc : Nat) (a1 a2 : ClassId) (o0 om ow os og : Nat) (z1 z2 z3 z4 : ClassId) (gW gC gV gB gM gI : Nat) (u : XS) (x : MS) : va_W := xo_w h0 hs hd hc a1 a2 gW gC gV gB gM gI u ++ mo_w o0 om ow os og z1 z2 z3 z4 gW gC gV gB x
section RF
variable {gW gC gV gB gM gI : Nat} {st : Nat → Int32} {d : DS} {x : MS}
theorem rf_k0 (R : Rel gW gC gV gB gM gI st d x) : d.2.2.2.2 = 0 → d.1 (gI + 3) = 0 := fun h => (Rel_up R h).2.2.1
theorem rf_mr (R : Rel gW gC gV gB gM gI st d x) : d.2.2.2.2 = 0 → ∀ v b, v < gV → b < gB → ∃ j, j ≤ gC + 1 ∧ d.1 (gM + v * gB + b) = nI j := fun h v b hv hb => by
  rw [(Rel_up R h).2.2.2 v b hv hb]
  exact R.2.2.2.2.2.2.1.1 v b hv hb
theorem rf_ok (R : Rel gW gC gV gB gM gI st d x) : okI d gV gB gI := by
  rcases R.2.2.2.2.2.2.2 with q | q
  · exact fun h => absurd q.2.1 h
  · exact q.2.2.1
theorem rf_mm (R : Rel gW gC gV gB gM gI st d x) : x.2.2.2.2.2.2.2.1 = 0 → ∀ v b, v < gV → b < gB → ∃ j, j ≤ gC + 1 ∧ x.1 (6 * v + b) = nI j := fun _ => R.2.2.2.2.2.2.1.1
theorem rf_low (hg : geo gW gC gV gB gM gI) (R : Rel gW gC gV gB gM gI st d x) : x.2.2.2.2.2.2.2.1 = 0 → ∃ N, N ≤ 12 ∧ usd x.1 0 24 (nI N) = 0 := fun _ => by
  obtain ⟨-, ⟨hC1, hC2⟩, -⟩ := id hg
  obtain ⟨k, hk, e⟩ := usN_free (f := x.1) (n := gC + 1) (by have := R.2.2.2.2.2.2.1.2.2.1; omega)
  exact ⟨k, by omega, e⟩
theorem rf_z (R : Rel gW gC gV gB gM gI st d x) : x.2.2.2.2.2.2.2.1 = 0 ∨ x.2.2.2.2.2.2.2.1 = 1 := by
  rw [← R.1.2.2.2]
  exact R.2.1
theorem rf_mge (hg : geo gW gC gV gB gM gI) : mge gW gC gV gB := ⟨hg.1, hg.2.1, hg.2.2.1, hg.2.2.2.1⟩
theorem rf_0 (hg : geo gW gC gV gB gM gI) : Rel gW gC gV gB gM gI (fun _ => 0) (fun _ => 0, 0, 0, 0, 0) (fun _ => 0, fun _ => 0, fun _ => 0, fun _ => 0, 0, 0, 0, 0, 0) :=
  ⟨⟨rfl, rfl, rfl, rfl⟩, Or.inl rfl, ⟨0, by omega, rfl⟩, fun _ => rfl, fun _ _ => rfl, fun _ _ _ _ => rfl, mok_0 hg (fun _ _ => rfl), Or.inl ⟨rfl, rfl, fun _ _ _ _ => rfl⟩⟩
end RF
theorem nI_room {L i : Nat} (hL : L < 100000) (hi : i < 100000) (h : ¬ nI L - 4 < nI i) : i + 4 ≤ L := by
  rcases Nat.lt_or_ge L 4 with q | q
  · exact absurd (Int32.lt_of_lt_of_le (pk_sneg (a := L) (b := 4) (by omega) q) (nI_pos' (n := i) (by omega))) h
  · have e : nI L - 4 = nI (L - 4) := pk_sub (a := L) (b := 4) q
    rw [e] at h
    rcases Nat.lt_or_ge (L - 4) i with p | p
    · exact absurd (nI_lt p (by omega)) h
    · omega
