def ctE (l : Launch) (y : MethodName) (wy : List Cond) (rm : Room) (sz : Nat) (av : List Value) (post : Int32 → Prop) : Prop := Met l y wy rm (va_Pc av (fun U => U.heap.size = sz)) (va_Qi (fun r (_ : Unit) => post r) (fun _ _ => True) (va_A [] sz)) 0 0 (va_A [] sz)
def pcC (b L : Nat) (xs : Nat → Int32) (sz : Nat) (k : Int32) : Array Value → State → Prop := va_Pc [.ref b, .int k] (fun U => U.heap.size = sz ∧ va_X b L xs U U.heap ∧ b < sz)
def celF (xs : Nat → Int32) (L k : Nat) : Int32 := if L ≤ k then 0 else xs k
section XE
variable {S : Type} {p : Program} {l : Launch} {e : Env} {R : Room} {s : State} {m : MethodId} {args : Array Value} {below : List Frame} {meth : Method} {c : Code} {H : Heap} {locs : List Loc} {cells slots : Nat} {Q : State → Prop} {D : va_G} {A : Nat → Prop} {ws : va_W} {pc : Nat} {ls : Array Slot} {st0 rest : List Value} {a : Array Value}
theorem xr_c {post : Int32 → S → Prop} {B : S → State → Prop} (hr : va_Run p l e R s m args below meth c H locs cells slots 0 0 (F0 m pc ls st0) rest (va_Qi post B (va_A [] H.size) a) (va_A [] H.size)) (hP : va_P D vwCl ws H) (hS : va_S A s.heap H locs) (hA : ∀ q, s.heap.size ≤ q → A q)
    (kk : ∀ (r : Int32) (u : S) (H : Heap) (locs : List Loc), post r u → va_P D vwCl ws H → va_S A s.heap H locs → W p l e R s m args below meth c H locs cells slots Q (F0 m (pc + 3) ls (.int r :: rest))) : W p l e R s m args below meth c H locs cells slots Q (F0 m pc ls st0) := by
  have hFc : ∀ q, va_A [] H.size q → A q := fun q h => by
    rcases h with ⟨k, e, h⟩ | h
    · simp at h
    · exact hA q (Nat.le_trans hS.1 h)
  refine va_calli hr hS (fun q _ h => hFc q h) hFc (fun r u t H1 locs1 ht hvm hw hB hz1 hk1 hS1 => ?_)
  refine kk r u H1 locs1 hw (fun k q h => (hP k q h).kept (hk1 q.1 (hP k q h).lt (fun z => ?_))) hS1
  rcases z with ⟨k2, e2, z⟩ | z
  · simp at z
  · exact absurd z (Nat.not_le.mpr (hP k q h).lt)
end XE
