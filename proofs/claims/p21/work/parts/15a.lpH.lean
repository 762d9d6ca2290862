/-! Loops that make cells; what a method with draws answers. -/
def tc_QD (v : UInt64) (B : Heap → Prop) (A : Nat → Prop) : Array Value → State → Outcome → State → Prop := fun _ st oc t => (∃ r : UInt64, oc = .returned (some (.double r)) ∧ alike64 r v = true ∧ B t.heap) ∧ va_F A st t
theorem tc_lpH2 {p : Program} {l : Launch} {e : Env} {R : Room} {s : State} {m : MethodId} {args : Array Value} {below : List Frame} {meth : Method} {c : Code} {H : Heap} {locs : List Loc} {cells slots : Nat} {Q : State → Prop} {pc : Nat} {A : Nat → Prop} {H0 : Heap} {α β ρ : Type} (f : Nat → α → β → Option ρ) (lvs : α → β → List (Nat × Value)) {nL : Nat} {r : ρ} (I : Heap → Prop) (N a b : Nat) (v1 : α) (v2 : β)
    (step : ∀ (n : Nat) (v1 : α) (v2 : β), n + 1 ≤ N → (∀ (v1 : α) (v2 : β), f n v1 v2 = some r → ∀ ls H locs, lv_has ls nL (lvs v1 v2) → I H → va_S A H0 H locs → W p l e R s m args below meth c H locs (cells + (N - n) * a) (slots + (N - n) * b) Q (F0 m pc ls [])) → f (n + 1) v1 v2 = some r → ∀ ls H locs, lv_has ls nL (lvs v1 v2) → I H → va_S A H0 H locs → W p l e R s m args below meth c H locs (cells + (N - (n + 1)) * a) (slots + (N - (n + 1)) * b) Q (F0 m pc ls []))
    (zero : ∀ v1 v2, ¬ f 0 v1 v2 = some r) (hF : f N v1 v2 = some r) {ls : Array Slot} (hl : lv_has ls nL (lvs v1 v2)) (hI : I H) (hS : va_S A H0 H locs) : W p l e R s m args below meth c H locs cells slots Q (F0 m pc ls []) := by
  have key : ∀ (n : Nat), n ≤ N → ∀ (v1 : α) (v2 : β), f n v1 v2 = some r → ∀ ls H locs, lv_has ls nL (lvs v1 v2) → I H → va_S A H0 H locs → W p l e R s m args below meth c H locs (cells + (N - n) * a) (slots + (N - n) * b) Q (F0 m pc ls []) := by
    intro n
    induction n with
    | zero => intro _ v1 v2 h; exact absurd h (zero v1 v2)
    | succ n ih => intro hn v1 v2 h ls H locs hl hI hS; exact step n v1 v2 hn (ih (by omega)) h ls H locs hl hI hS
  have k := key N (Nat.le_refl _) v1 v2 hF ls H locs hl hI hS
  rw [Nat.sub_self, Nat.zero_mul, Nat.add_zero, Nat.zero_mul, Nat.add_zero] at k
  exact k
