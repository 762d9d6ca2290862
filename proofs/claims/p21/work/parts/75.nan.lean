/-! A FP.Core.quotient by a small whole number is a number. -/
section LKN
theorem lk_rr (f : FP.Core.Fmt) (s : Bool) (A B : Nat) (e : Int) : FP.Core.roundRatio f s A B e ≠ .nan := by
  unfold FP.Core.roundRatio FP.Core.roundAt FP.Core.settle FP.Core.bound
  split
  · exact fun z => by cases z
  · split
    · split <;> exact fun z => by cases z
    · split <;> exact fun z => by cases z
theorem lk_i2d (a : Int32) : FP.Core.val64 (FP.Core.i2d a) ≠ .nan := by
  rw [FP.Core.val64_i2d]
  exact lk_rr _ _ _ _ _
theorem lk_i2dm {m : Nat} (h : 1 ≤ m ∧ m ≤ 40) : ∃ s d r, FP.Core.val64 (FP.Core.i2d (nI m)) = .fin s d r ∧ d ≠ 0 := by
  have all : ∀ m, m < 41 → 1 ≤ m → (match FP.Core.round FP.Core.b64 (FP.Core.ofInt ((nI m).toInt)) with | .fin _ d _ => decide (d ≠ 0) | _ => false) = true := by decide +kernel
  have k := all m (by omega) h.1
  rw [FP.Core.val64_i2d]
  generalize FP.Core.round FP.Core.b64 (FP.Core.ofInt ((nI m).toInt)) = D at k ⊢
  cases D with
  | nan => cases k
  | inf s => cases k
  | fin s d r => exact ⟨s, d, r, rfl, of_decide_eq_true k⟩
theorem lk_ddiv (w : Int32) {m : Nat} (h : 1 ≤ m ∧ m ≤ 40) : FP.Core.val64 (FP.Core.ddiv (FP.Core.i2d w) (FP.Core.i2d (nI m))) ≠ .nan := by
  obtain ⟨s, d, r, e, hd⟩ := lk_i2dm h
  have hn := lk_i2d w
  rw [FP.Core.val64_ddiv, e]
  generalize FP.Core.val64 (FP.Core.i2d w) = D at hn ⊢
  cases D with
  | nan => exact absurd rfl hn
  | inf s' => exact fun z => by cases z
  | fin s' c q =>
    unfold FP.Core.quotient
    dsimp only
    rw [if_neg hd]
    exact lk_rr _ _ _ _ _
theorem lk_notnan {v : UInt64} (h : FP.Core.val64 v ≠ .nan) : isNaN64 v = false ∧ Op.cmpValue (FP.dcmp v v) .l = 0 := by
  constructor
  · cases e : isNaN64 v with
    | false => rfl
    | true =>
      have k := isNaN64_iff.mp e
      refine absurd ((FP.Core.decode_nan (f := FP.Core.b64) v.toNat).mpr ?_) h
      have e1 : v.toNat &&& 0x7fffffffffffffff = v.toNat % 2 ^ 63 := Nat.and_two_pow_sub_one_eq_mod v.toNat 63
      rw [e1] at k
      have e2 : FP.Core.infBits FP.Core.b64 = 0x7ff0000000000000 := by decide +kernel
      have e3 : FP.Core.half FP.Core.b64 = 2 ^ 63 := by decide +kernel
      unfold FP.Core.mag
      rw [e2, e3]; exact k
  · have e : FP.dcmp v v = some .eq := FP.Core.dcmp_self h
    rw [e]; rfl
theorem lk_mean0 (w : Int32) {m : Nat} (hm : m ≤ 40) {v : UInt64} (hv : v = if nI m = 0 then FP.dconst0 else FP.ddiv (FP.i2d w) (FP.i2d (nI m))) : isNaN64 v = false ∧ Op.cmpValue (FP.dcmp v v) .l = 0 := by
  apply lk_notnan
  rw [hv]
  by_cases e : nI m = 0
  · rw [if_pos e]
    decide +kernel
  · rw [if_neg e]
    have e0 : m ≠ 0 := fun z => e (by rw [z]; rfl)
    exact lk_ddiv w ⟨by omega, hm⟩
end LKN
