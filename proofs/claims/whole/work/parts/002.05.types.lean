/-! AN ABSTRACT MACHINE for the methods of this claim. Cells have numbers instead of addresses; a value is the machine's, with a cell's number for an address.
ax_C: an array (its kind, its contents) or an object (its class's place in 'classes', its fields); ax_H: the cells (none: one that nobody looks into), and how many slots were ever made. -/
abbrev ax_C : Type := (Nat × vp_A) ⊕ (Nat × List Value)
abbrev ax_H : Type := List (Option ax_C) × Nat
abbrev ax_L : Type := List (Nat × Value)
/-- an end: an answer, or the number of the class of what was thrown -/
abbrev ax_R : Type := (Option Value ⊕ Nat) × ax_H
/-- a method: its class's number, what it returns, its instructions (place, instruction, next place, place jumped to), its handlers, whether it makes an object -/
abbrev ax_M : Type := Nat × Option FieldType × List (Nat × Instr × Nat × Nat) × List (Nat × Nat × Nat × Nat) × Bool
