/-! CONTRACTS OF THE MODEL: the best tree is laid -/
/-- a node's number in the row: of gate g, number k of each node -/
def rw5 (w : Nat → Int32) (g k : Nat) (n : Nat) : Int32 := w (132 + g * 94 + (19 + n * 5 + k))
section M3
variable {d : Nat} {Γ : am_G} {I : am_I} {L : am_L} {m : Nat} {g Q T : Nat} {qc ty tl ct : Nat → Nat}
end M3
