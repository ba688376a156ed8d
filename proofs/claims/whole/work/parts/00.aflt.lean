/-! ===== floats: what is no NaN ===== -/
section
theorem rr_nan {f : FP.Core.Fmt} {s : Bool} {A B : Nat} {e : Int} : FP.Core.roundRatio f s A B e ≠ .nan := by
  unfold FP.Core.roundRatio
  split
  · intro h; cases h
  · unfold FP.Core.roundAt FP.Core.settle FP.Core.bound
    split <;> split <;> intro h <;> cases h
theorem fin_nn {x : UInt32} {c : Nat} {q : Int} {s : Bool} (hx : FP.Core.val32 x = .fin s c q) : FP.Core.val32 x ≠ .nan := by
  rw [hx]
  intro h
  cases h
theorem dcmp_eq {x : UInt64} (h : FP.Core.val64 x ≠ .nan) : Op.cmpValue (FP.dcmp x x) .l = 0 := by
  have : FP.dcmp x x = some .eq := FP.Core.dcmp_self h
  rw [this]
  rfl
theorem f2d_nn {x : UInt32} (h : FP.Core.val32 x ≠ .nan) : FP.Core.val64 (FP.f2d x) ≠ .nan := by
  have hn := (FP.Core.notNaN_iff32 x).mpr h
  unfold FP.f2d
  rw [if_neg (by rw [hn]; decide), FP.Core.val64_f2d]
  revert h
  cases FP.Core.val32 x with
  | nan => intro h; exact absurd rfl h
  | inf s => intro _ h; cases h
  | fin s c q => intro _; exact rr_nan
end
