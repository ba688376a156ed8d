/-! ===== PURE: a text: strikers ===== -/
section
variable {g : Nat → Nat} {f n : Nat} {b : Nat → Int32} {w ns : Nat} {R : Nat → Nat} {rd : ReadT} {t : SrcT}
/-- how a text ends: what is wrong there -/
def t51 (ba err ea nb : Int32) (row : Nat → Int32) (tok : Int32) : Int32 × Int32 × Int32 × Int32 × (Nat → Int32) × Int32 :=
  if err = 0 then (if tok = 0 then (ba, 0, ea, nb, row, tok) else (ba, 1, ba, nb, row, tok)) else (ba, err, ea, nb, row, tok)
theorem TN_f {x y : Int32} (h : F_X8_isNumber t = some false) : F_X4_takeNumber x y rd t = some (false, ((1, t.2.2.2.2.2.1, rd.2.2), t)) := by
  unfold F_X4_takeNumber
  rw [h]
  rfl
theorem TN_o {c lo hi : Nat} (h : F_X8_isNumber t = some true) (hv : F_X8_tokenValue t = some (nI c)) (hc : c < 2 ^ 31) (hl : lo < 2 ^ 31) (hh : hi < 2 ^ 31) (q : ¬ (lo ≤ c ∧ c ≤ hi)) :
    F_X4_takeNumber (nI lo) (nI hi) rd t = some (false, ((2, t.2.2.2.2.2.1, nI c), t)) := by
  unfold F_X4_takeNumber
  rw [h, Option.bind_some, if_pos rfl, hv, Option.bind_some]
  by_cases z : c < lo
  · rw [if_pos (nI_lt z (by omega))]
    rfl
  · rw [if_neg (nI_nlt (by omega) (by omega)), if_neg (nI_ge (by omega) (by omega))]
    rfl
theorem TN_t {c lo hi : Nat} {t' : SrcT} (h : F_X8_isNumber t = some true) (hv : F_X8_tokenValue t = some (nI c)) (hc : c < 2 ^ 31) (hl : lo < 2 ^ 31) (hh : hi < 2 ^ 31) (q : lo ≤ c ∧ c ≤ hi) (ha : F_X8_advance t = some t') :
    F_X4_takeNumber (nI lo) (nI hi) rd t = some (true, ((rd.1, rd.2.1, nI c), t')) := by
  unfold F_X4_takeNumber
  rw [h, Option.bind_some, if_pos rfl, hv, Option.bind_some, if_neg (nI_nlt q.1 (by omega)), if_pos (nI_le q.2 (by omega)), ha]
  rfl
end
