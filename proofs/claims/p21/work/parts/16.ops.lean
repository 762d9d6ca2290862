/-! What the calls of class and reference owe a relation (from whole's parts 16, 17, 19). -/
def tc_c3 (k : Nat) : Int32 := if k = 0 then 0 else if k = 1 then 1 else if k = 2 then 2 else 3
def tc_c13 (k : Nat) : Int32 := if k = 0 then 0 else if k = 1 then 1 else 2
theorem tc_c3_0 {k : Nat} (h : tc_c3 k = 0) : k = 0 := by
  unfold tc_c3 at h
  by_cases h0 : k = 0
  · exact h0
  · rw [if_neg h0] at h
    by_cases h1 : k = 1
    · rw [if_pos h1] at h; exact absurd h (by decide)
    · rw [if_neg h1] at h
      by_cases h2 : k = 2
      · rw [if_pos h2] at h; exact absurd h (by decide)
      · rw [if_neg h2] at h; exact absurd h (by decide)
theorem tc_c13_0 {k : Nat} (h : tc_c13 k = 0) : k = 0 := by
  unfold tc_c13 at h
  by_cases h0 : k = 0
  · exact h0
  · rw [if_neg h0] at h
    by_cases h1 : k = 1
    · rw [if_pos h1] at h; exact absurd h (by decide)
    · rw [if_neg h1] at h; exact absurd h (by decide)
theorem tc_cmp0 (x : Int64) : lg_cmp x x = 0 := by simp [lg_cmp]
theorem tc_cdD {cs : List Choice} {p : Program} {l : Launch} {e : Env} {R : Room} {s : State} {m : MethodId} {args : Array Value} {below : List Frame} {meth : Method} {c : Code} {H : Heap} {locs : List Loc} {cells slots : Nat} {Q : State → Prop} {mc ms : Nat} {free : Addr → Prop} {A0 A1 : Nat → Prop} {H0 : Heap} {a : Array Value} {pc : Nat} {ls : Array Slot} {st0 rest : List Value} {v : UInt64} {B : Heap → Prop} {d0 : Drawn} (hd0 : s.drawn.sameBut d0 cs) (hr : va_RunD cs p l e R (s.setDrawn d0) m args below meth c H locs cells slots mc ms (F0 m pc ls st0) rest (tc_QD v B A1 a) free) (hS : va_S A0 H0 H locs) (hA : ∀ q, q < H.size → A1 q → A0 q) (hf : ∀ q, free q → A0 q)
    (kk : ∀ (r : UInt64) (H1 : Heap) (locs1 : List Loc), alike64 r v = true → B H1 → H.size ≤ H1.size → (∀ q : Nat, q < H.size → ¬ A1 q → H1[q]? = H[q]?) → va_S A0 H0 H1 locs1 → ∀ d' : Drawn, s.drawn.sameBut d' cs → W p l e R (s.setDrawn d') m args below meth c H1 locs1 (cells + mc) (slots + ms) Q (F0 m (pc + 3) ls (.double r :: rest))) : W p l e R (s.setDrawn d0) m args below meth c H locs cells slots Q (F0 m pc ls st0) := by
  intro T hT X
  obtain ⟨v, st₀, t, T', L, d', hd', h0, X', hL, e1, e2, ⟨⟨r, hv, hp, hb⟩, hF⟩, st⟩ := hr T hT X
  cases hv
  obtain ⟨k1, k2, k3⟩ := vx_keep h0 e1 hS hA hf hL hF
  obtain ⟨t2, a1, b1⟩ := kk r T'.heap (locs ++ L) hp (by rw [e1]; exact hb) k1 k2 k3 d' (hd0.trans hd') T' rfl X'
  exact ⟨t2, st t2 a1, b1⟩
def op_land (R : tc_X → tc_Y → Prop) : Prop := ∀ (x : tc_X) (y : tc_Y) (a1 a2 : Int32), R x y → ∃ (k : Nat) (r : Int32) (z : tc_X) (v : Int32) (y' : tc_Y), f_X2_land x a1 a2 = some (k, r, z) ∧ f_X3_land y a1 a2 = some (v, y') ∧ k ≤ 3 ∧ (k ≠ 0 → z = x) ∧ y' 0 0 = tc_c3 k ∧ (k = 0 → v = r) ∧ R z y'
def op_build (R : tc_X → tc_Y → Prop) : Prop := ∀ (x : tc_X) (y : tc_Y) (a1 a2 a3 a4 : Int32), R x y → ∃ (k : Nat) (r : Int32) (z : tc_X) (v : Int32) (y' : tc_Y), f_X2_build x a1 a2 a3 a4 = some (k, r, z) ∧ f_X3_build y a1 a2 a3 a4 = some (v, y') ∧ k ≤ 3 ∧ (k ≠ 0 → z = x) ∧ y' 0 0 = tc_c3 k ∧ (k = 0 → v = r) ∧ R z y'
def op_man (R : tc_X → tc_Y → Prop) : Prop := ∀ (x : tc_X) (y : tc_Y) (a1 a2 : Int32), R x y → ∃ (k : Nat) (r : Int32) (z : tc_X) (v : Int32) (y' : tc_Y), f_X2_man x a1 a2 = some (k, r, z) ∧ f_X3_man y a1 a2 = some (v, y') ∧ k ≤ 2 ∧ (k ≠ 0 → z = x) ∧ y' 0 0 = tc_c3 k ∧ (k = 0 → v = r) ∧ R z y'
def op_mend (R : tc_X → tc_Y → Prop) : Prop := ∀ (x : tc_X) (y : tc_Y) (a1 : Int32), R x y → ∃ (k : Nat) (r : Int32) (z : tc_X) (v : Int32) (y' : tc_Y), f_X2_mend x a1 = some (k, r, z) ∧ f_X3_mend y a1 = some (v, y') ∧ k ≤ 1 ∧ (k ≠ 0 → z = x) ∧ y' 0 0 = tc_c3 k ∧ (k = 0 → v = r) ∧ R z y'
def op_turn (R : tc_X → tc_Y → Prop) : Prop := ∀ (x : tc_X) (y : tc_Y) (a1 a2 : Int32), R x y → ∃ (k : Nat) (r : Int32) (z : tc_X) (v : Int32) (y' : tc_Y), f_X2_turn x a1 a2 = some (k, r, z) ∧ f_X3_turn y a1 a2 = some (v, y') ∧ (k = 0 ∨ k = 1 ∨ k = 3) ∧ (k ≠ 0 → z = x) ∧ y' 0 0 = tc_c13 k ∧ (k = 0 → v = r) ∧ R z y'
def op_hoist (R : tc_X → tc_Y → Prop) : Prop := ∀ (x : tc_X) (y : tc_Y) (a1 a2 : Int32), R x y → ∃ (k : Nat) (r : Int32) (z : tc_X) (v : Int32) (y' : tc_Y), f_X2_hoist x a1 a2 = some (k, r, z) ∧ f_X3_hoist y a1 a2 = some (v, y') ∧ k ≤ 3 ∧ (k ≠ 0 → z = x) ∧ y' 0 0 = tc_c3 k ∧ (k = 0 → v = r) ∧ R z y'
def op_take (R : tc_X → tc_Y → Prop) : Prop := ∀ (x : tc_X) (y : tc_Y) (a1 : Int32), R x y → ∃ (k : Nat) (r : Int32) (z : tc_X) (v : Int32) (y' : tc_Y), f_X2_take x a1 = some (k, r, z) ∧ f_X3_take y a1 = some (v, y') ∧ (k = 0 ∨ k = 1 ∨ k = 3) ∧ (k ≠ 0 → z = x) ∧ y' 0 0 = tc_c13 k ∧ (k = 0 → v = r) ∧ R z y'
def op_lay (R : tc_X → tc_Y → Prop) : Prop := ∀ (x : tc_X) (y : tc_Y) (a1 : Int32), R x y → ∃ (k : Nat) (r : Int32) (z : tc_X) (v : Int32) (y' : tc_Y), f_X2_lay x a1 = some (k, r, z) ∧ f_X3_lay y a1 = some (v, y') ∧ (k = 0 ∨ k = 1 ∨ k = 3) ∧ (k ≠ 0 → z = x) ∧ y' 0 0 = tc_c13 k ∧ (k = 0 → v = r) ∧ R z y'
def op_place (R : tc_X → tc_Y → Prop) : Prop := ∀ (x : tc_X) (y : tc_Y) (a1 a2 : Int32), R x y → ∃ (k : Nat) (r : Int32) (v : Int32) (y' : tc_Y), f_X2_place x a1 a2 = some (k, r) ∧ f_X3_place y a1 a2 = some (v, y') ∧ k ≤ 1 ∧  y' 0 0 = tc_c3 k ∧ (k = 0 → v = r) ∧ R x y'
def op_barrel (R : tc_X → tc_Y → Prop) : Prop := ∀ (x : tc_X) (y : tc_Y) (a1 a2 : Int32), R x y → ∃ (k : Nat) (r : Int32) (v : Int32) (y' : tc_Y), f_X2_barrel x a1 a2 = some (k, r) ∧ f_X3_barrel y a1 a2 = some (v, y') ∧ k ≤ 1 ∧  y' 0 0 = tc_c3 k ∧ (k = 0 → v = r) ∧ R x y'
def op_crane (R : tc_X → tc_Y → Prop) : Prop := ∀ (x : tc_X) (y : tc_Y) (a1 a2 : Int32), R x y → ∃ (k : Nat) (r : Int32) (v : Int32) (y' : tc_Y), f_X2_crane x a1 a2 = some (k, r) ∧ f_X3_crane y a1 a2 = some (v, y') ∧ k ≤ 1 ∧  y' 0 0 = tc_c3 k ∧ (k = 0 → v = r) ∧ R x y'
def op_count (R : tc_X → tc_Y → Prop) : Prop := ∀ (x : tc_X) (y : tc_Y) (a1 : Int32), R x y → ∃ (k : Nat) (r : Int32) (v : Int32) (y' : tc_Y), f_X2_count x a1 = some (k, r) ∧ f_X3_count y a1 = some (v, y') ∧ k ≤ 1 ∧  y' 0 0 = tc_c3 k ∧ (k = 0 → v = r) ∧ R x y'
def op_move (R : tc_X → tc_Y → Prop) : Prop := ∀ (x : tc_X) (y : tc_Y) (a1 a2 a3 : Int32), R x y → ∃ (k : Nat) (r : Int32) (v : Int32) (y' : tc_Y), f_X2_move x a1 a2 a3 = some (k, r) ∧ f_X3_move y a1 a2 a3 = some (v, y') ∧ k ≤ 1 ∧  y' 0 0 = tc_c3 k ∧ (k = 0 → v = r) ∧ R x y'
def op_best (R : tc_X → tc_Y → Prop) : Prop := ∀ (x : tc_X) (y : tc_Y) (a1 a2 : Int32), R x y → ∃ (k : Nat) (r : Int32) (v : Int32) (y' : tc_Y), f_X2_best x a1 a2 = some (k, r) ∧ f_X3_best y a1 a2 = some (v, y') ∧ k ≤ 1 ∧  y' 0 0 = tc_c3 k ∧ (k = 0 → v = r) ∧ R x y'
def op_lasts (R : tc_X → tc_Y → Prop) : Prop := ∀ (x : tc_X) (y : tc_Y) (a1 a2 : Int32), R x y → ∃ (k : Nat) (r : Int32) (v : Int32) (y' : tc_Y), f_X2_lasts x a1 a2 = some (k, r) ∧ f_X3_lasts y a1 a2 = some (v, y') ∧ k ≤ 2 ∧  y' 0 0 = tc_c3 k ∧ (k = 0 → v = r) ∧ R x y'
def op_within (R : tc_X → tc_Y → Prop) : Prop := ∀ (x : tc_X) (y : tc_Y) (a1 : Int32), R x y → ∃ (k : Nat) (r : Int32) (v : Int32) (y' : tc_Y), f_X2_within x a1 = some (k, r) ∧ f_X3_within y a1 = some (v, y') ∧ k ≤ 1 ∧  y' 0 0 = tc_c3 k ∧ (k = 0 → v = r) ∧ R x y'
def op_mean (R : tc_X → tc_Y → Prop) : Prop := ∀ (x : tc_X) (y : tc_Y), R x y → ∃ (v : UInt64) (y' : tc_Y), f_X2_mean x = some v ∧ f_X3_mean y = some (v, y') ∧ R x y'
def op_digest (R : tc_X → tc_Y → Prop) : Prop := ∀ (x : tc_X) (y : tc_Y), R x y → ∃ (v : Int64) (y' : tc_Y), f_X2_digest x = some v ∧ f_X3_digest y = some (v, y') ∧ R x y'
def tc_Ops (R : tc_X → tc_Y → Prop) : Prop := R tc_x0 (fun _ _ => 0) ∧ (∀ (x : tc_X) (y : tc_Y), R x y → tc_wf x) ∧ op_land R ∧ op_build R ∧ op_man R ∧ op_mend R ∧ op_turn R ∧ op_hoist R ∧ op_take R ∧ op_lay R ∧ op_place R ∧ op_barrel R ∧ op_crane R ∧ op_count R ∧ op_move R ∧ op_best R ∧ op_lasts R ∧ op_within R ∧ op_mean R ∧ op_digest R
theorem tc_WC.reA {D : va_G} {cU cO : ClassId} {e0 : Nat} {A A' : Nat → Prop} {E : Nat → Nat} {x : tc_X} {H : Heap} (h : tc_WC D cU cO e0 A E x H) (q : ∀ i, tc_lv x i → A' (E i)) (he : ¬ A' e0) : tc_WC D cU cO e0 A' E x H := by
  obtain ⟨h0, h1, h2, h3, h4, h5, h6, h7, h8, h9⟩ := h
  exact ⟨h0, h1, h2, h3, h4, h5, h6, q, he, h9⟩
