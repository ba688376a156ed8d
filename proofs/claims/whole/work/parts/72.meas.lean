/-! ===== PURE: measures (open) ===== -/
section
variable {w ns k : Nat} {R D : Nat → Nat} {P : PlanT} {row : Nat → Int32} {S : SieveT}
theorem Q_shareBits (h : CX w ns R k D P row S) (e0 : Int32) (o t : Nat → Int32) (th : Int32) :
    ∃ v S' e' o' t', F_X10_shareBits P S = some (v, S') ∧ SOK w k D (1 + sm R ns) P S' ∧ F_X11_shareBits e0 o row th t = some (v, (e', o', 0, t')) := by
  sorry
theorem Q_spokeShare (h : CX w ns R k D P row S) (th : Int32) :
    ∃ v S', F_X10_spokeShare P S = some (v, S') ∧ SOK w k D (1 + sm R ns) P S' ∧ F_X11_spokeShare row th = some (v, 0) ∧ vf_n64 (FP.f2d v) ∧ Op.cmpValue (FP.dcmp (FP.f2d v) (FP.f2d v)) .l = 0 := by
  sorry
theorem Q_useful (h : CX w ns R k D P row S) (e0 : Int32) (o t : Nat → Int32) (th : Int32) :
    ∃ v S' e' o' t', F_X10_useful P S = some (v, S') ∧ SOK w k D (1 + sm R ns) P S' ∧ F_X11_useful e0 o row th t = some (v, (e', o', 0, t')) ∧ Op.cmpValue (FP.dcmp v v) .l = 0 := by
  sorry
end
