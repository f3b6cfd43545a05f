/-! the plain part, closed -/
theorem ops_ok {X Y : Nat} : Ops X Y (REL X Y) := ⟨fun σ ρ h => ⟨kX_0 h.2.2.1, kY_0 h.2.2.2.1⟩, op_0, op_1, op_2, op_3, op_4, op_5, op_6, op_7, op_8, op_9, op_10, op_11, op_12, op_13, op_14, op_15, op_16, op_17, op_18, op_19, op_20, op_21, op_22, op_23, op_24, op_25, op_26, op_27, op_28, op_29, op_30, op_31, op_32, op_33, op_34, op_35, op_36, op_37, op_38, op_39, op_40, op_41, op_42, op_43, op_44⟩
theorem plain_ok : Plain REL := fun z cs hz c1 c2 => ⟨(start_ok z cs hz c1 c2).1, (start_ok z cs hz c1 c2).2.1, (start_ok z cs hz c1 c2).2.2, ops_ok⟩
