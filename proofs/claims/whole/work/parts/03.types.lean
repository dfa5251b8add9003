/-! A SMALL MACHINE beside the large one: cells have places (numbers), a reference is a place; nothing is made. Whatever it computes, the large machine computes (part 08). -/
abbrev mm_C : Type := (Nat × vp_A) ⊕ (Nat × List Value)
abbrev mm_H : Type := List mm_C
abbrev mm_L : Type := List (Option Value)
/-- place in the code, locals, operand stack, cells -/
abbrev mm_F : Type := Nat × mm_L × List Value × mm_H
/-- a method: instructions, name, bytes, locals, what it returns, how many arguments, its class's number -/
abbrev mm_Mt : Type := List (Nat × Instr × Nat) × MethodName × ByteArray × Nat × Option FieldType × Nat × Nat
