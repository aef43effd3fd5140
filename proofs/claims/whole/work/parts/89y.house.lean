/-! a whole house from the tape -/
def XH (a j : Nat) : Prop := (a = 93 ∧ j ≠ 23) ∨ (97 ≤ a ∧ a ≤ 102) ∨ (a = 104 ∧ j = 2)
theorem XF_H {a j : Nat} (h : XF a j) : XH a j := by unfold XF at h; unfold XH; omega
section HOUSE
variable {T : Nat → Nat} {n e : Nat} {U S : HS}
/-- the model gives up -/
theorem m_up (f : Nat) {σ : St} (c : Int32) {pf : Nat} (hk : HK σ 106 S) (h19 : σ.1 93 19 = nI pf) (h104 : σ.1 104 2 = c') : True := trivial
