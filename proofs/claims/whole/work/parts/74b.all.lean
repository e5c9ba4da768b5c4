def z_All (tab : Nat → zT) (b : ByteArray) (nL : Nat) (ret : Option FieldType) (own : String) (pcs : List Nat) : Nat → List zOp → Prop
  | _, [] => True
  | i, op :: l => z_OpOk tab b nL ret own pcs i op ∧ z_All tab b nL ret own pcs (i + 1) l
theorem z_nil {tab : Nat → zT} {b : ByteArray} {nL : Nat} {ret : Option FieldType} {own : String} {pcs : List Nat} {i : Nat} : z_All tab b nL ret own pcs i [] := trivial
theorem z_cons {tab : Nat → zT} {b : ByteArray} {nL : Nat} {ret : Option FieldType} {own : String} {pcs : List Nat} {i : Nat} {op : zOp} {l : List zOp} (h : z_OpOk tab b nL ret own pcs i op) (hl : z_All tab b nL ret own pcs (i + 1) l) : z_All tab b nL ret own pcs i (op :: l) := ⟨h, hl⟩
