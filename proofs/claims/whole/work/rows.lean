section
-- ===== PART A: goes FIRST, ahead of the names: the tables' words, and 'selects' of the private methods out of them =====
/-- a private method of a class that the tables say can be made, by its rows of tables_1 -/
def lw_okq (q : MethodName × Nat) : Prop := (q.1.cls ≠ "java/lang/invoke/MethodHandle" ∧ q.1.cls ≠ "java/lang/invoke/VarHandle") ∧ Cond.instantiable q.1.cls q.2 ∈ tables_1 ∧ Cond.privateMethod q.1 ∈ tables_1 ∧ Cond.instanceMethod q.1 ∈ tables_1
theorem lw_p0 : lw_okq (⟨"GateStack", "loosen", "()V"⟩, 6) := ⟨⟨by decide +kernel, by decide +kernel⟩, List.mem_of_getElem? (i := 10) (by decide +kernel), List.mem_of_getElem? (i := 170) (by decide +kernel), List.mem_of_getElem? (i := 171) (by decide +kernel)⟩
theorem lw_p1 : lw_okq (⟨"GateStack$Reader", "takes", "(LGateStack$ModuleText;I)Z"⟩, 8) := ⟨⟨by decide +kernel, by decide +kernel⟩, List.mem_of_getElem? (i := 57) (by decide +kernel), List.mem_of_getElem? (i := 204) (by decide +kernel), List.mem_of_getElem? (i := 205) (by decide +kernel)⟩
theorem lw_p2 : lw_okq (⟨"GateStack$Reader", "takesProcedure", "(LGateStack$ModuleText;I)Z"⟩, 8) := ⟨⟨by decide +kernel, by decide +kernel⟩, List.mem_of_getElem? (i := 57) (by decide +kernel), List.mem_of_getElem? (i := 212) (by decide +kernel), List.mem_of_getElem? (i := 213) (by decide +kernel)⟩
theorem lw_p3 : lw_okq (⟨"GateStack$Reader", "begins", "(II)Z"⟩, 8) := ⟨⟨by decide +kernel, by decide +kernel⟩, List.mem_of_getElem? (i := 57) (by decide +kernel), List.mem_of_getElem? (i := 229) (by decide +kernel), List.mem_of_getElem? (i := 230) (by decide +kernel)⟩
theorem lw_p4 : lw_okq (⟨"GateStack$Reader", "expects", "(I)Z"⟩, 8) := ⟨⟨by decide +kernel, by decide +kernel⟩, List.mem_of_getElem? (i := 57) (by decide +kernel), List.mem_of_getElem? (i := 233) (by decide +kernel), List.mem_of_getElem? (i := 234) (by decide +kernel)⟩
theorem lw_p5 : lw_okq (⟨"GateStack$Reader", "opens", "(II)Z"⟩, 8) := ⟨⟨by decide +kernel, by decide +kernel⟩, List.mem_of_getElem? (i := 57) (by decide +kernel), List.mem_of_getElem? (i := 237) (by decide +kernel), List.mem_of_getElem? (i := 238) (by decide +kernel)⟩
theorem lw_p6 : lw_okq (⟨"GateStack$Reader", "takesStatement", "(LGateStack$ModuleText;I)Z"⟩, 8) := ⟨⟨by decide +kernel, by decide +kernel⟩, List.mem_of_getElem? (i := 57) (by decide +kernel), List.mem_of_getElem? (i := 241) (by decide +kernel), List.mem_of_getElem? (i := 242) (by decide +kernel)⟩
theorem lw_p7 : lw_okq (⟨"GateStack$Reader", "closesBlock", "(LGateStack$ModuleText;I)Z"⟩, 8) := ⟨⟨by decide +kernel, by decide +kernel⟩, List.mem_of_getElem? (i := 57) (by decide +kernel), List.mem_of_getElem? (i := 245) (by decide +kernel), List.mem_of_getElem? (i := 246) (by decide +kernel)⟩
theorem lw_p8 : lw_okq (⟨"GateStack$ModuleText", "isPlace", "(I)Z"⟩, 10) := ⟨⟨by decide +kernel, by decide +kernel⟩, List.mem_of_getElem? (i := 19) (by decide +kernel), List.mem_of_getElem? (i := 253) (by decide +kernel), List.mem_of_getElem? (i := 254) (by decide +kernel)⟩
theorem lw_p9 : lw_okq (⟨"GateStack$Reader", "takesOperand", "(LGateStack$ModuleText;I)Z"⟩, 8) := ⟨⟨by decide +kernel, by decide +kernel⟩, List.mem_of_getElem? (i := 57) (by decide +kernel), List.mem_of_getElem? (i := 271) (by decide +kernel), List.mem_of_getElem? (i := 272) (by decide +kernel)⟩
theorem lw_p10 : lw_okq (⟨"GateStack$Reader", "endsOperand", "(LGateStack$ModuleText;I)Z"⟩, 8) := ⟨⟨by decide +kernel, by decide +kernel⟩, List.mem_of_getElem? (i := 57) (by decide +kernel), List.mem_of_getElem? (i := 278) (by decide +kernel), List.mem_of_getElem? (i := 279) (by decide +kernel)⟩
theorem lw_p11 : lw_okq (⟨"GateStack$Reader", "lastOpen", "(LGateStack$ModuleText;)I"⟩, 8) := ⟨⟨by decide +kernel, by decide +kernel⟩, List.mem_of_getElem? (i := 57) (by decide +kernel), List.mem_of_getElem? (i := 282) (by decide +kernel), List.mem_of_getElem? (i := 283) (by decide +kernel)⟩
theorem lw_p12 : lw_okq (⟨"GateStack$Reader", "takesDigit", "()Z"⟩, 8) := ⟨⟨by decide +kernel, by decide +kernel⟩, List.mem_of_getElem? (i := 57) (by decide +kernel), List.mem_of_getElem? (i := 289) (by decide +kernel), List.mem_of_getElem? (i := 290) (by decide +kernel)⟩
theorem lw_p13 : lw_okq (⟨"GateStack$Reader", "takesOperator", "(LGateStack$ModuleText;I)Z"⟩, 8) := ⟨⟨by decide +kernel, by decide +kernel⟩, List.mem_of_getElem? (i := 57) (by decide +kernel), List.mem_of_getElem? (i := 293) (by decide +kernel), List.mem_of_getElem? (i := 294) (by decide +kernel)⟩
theorem lw_p14 : lw_okq (⟨"GateStack$Program", "forget", "()V"⟩, 3) := ⟨⟨by decide +kernel, by decide +kernel⟩, List.mem_of_getElem? (i := 88) (by decide +kernel), List.mem_of_getElem? (i := 334) (by decide +kernel), List.mem_of_getElem? (i := 335) (by decide +kernel)⟩
theorem lw_p15 : lw_okq (⟨"GateStack$Program", "takeOver", "(LGateStack$ModuleText;)V"⟩, 3) := ⟨⟨by decide +kernel, by decide +kernel⟩, List.mem_of_getElem? (i := 88) (by decide +kernel), List.mem_of_getElem? (i := 339) (by decide +kernel), List.mem_of_getElem? (i := 340) (by decide +kernel)⟩
def lw_privs_1 : List (MethodName × Nat) := [(⟨"GateStack", "loosen", "()V"⟩, 6), (⟨"GateStack$Reader", "takes", "(LGateStack$ModuleText;I)Z"⟩, 8), (⟨"GateStack$Reader", "takesProcedure", "(LGateStack$ModuleText;I)Z"⟩, 8), (⟨"GateStack$Reader", "begins", "(II)Z"⟩, 8), (⟨"GateStack$Reader", "expects", "(I)Z"⟩, 8), (⟨"GateStack$Reader", "opens", "(II)Z"⟩, 8), (⟨"GateStack$Reader", "takesStatement", "(LGateStack$ModuleText;I)Z"⟩, 8), (⟨"GateStack$Reader", "closesBlock", "(LGateStack$ModuleText;I)Z"⟩, 8), (⟨"GateStack$ModuleText", "isPlace", "(I)Z"⟩, 10), (⟨"GateStack$Reader", "takesOperand", "(LGateStack$ModuleText;I)Z"⟩, 8), (⟨"GateStack$Reader", "endsOperand", "(LGateStack$ModuleText;I)Z"⟩, 8), (⟨"GateStack$Reader", "lastOpen", "(LGateStack$ModuleText;)I"⟩, 8), (⟨"GateStack$Reader", "takesDigit", "()Z"⟩, 8), (⟨"GateStack$Reader", "takesOperator", "(LGateStack$ModuleText;I)Z"⟩, 8), (⟨"GateStack$Program", "forget", "()V"⟩, 3), (⟨"GateStack$Program", "takeOver", "(LGateStack$ModuleText;)V"⟩, 3)]
theorem lw_r1 : ∀ q ∈ lw_privs_1, lw_okq q := List.forall_mem_cons.mpr ⟨lw_p0, List.forall_mem_cons.mpr ⟨lw_p1, List.forall_mem_cons.mpr ⟨lw_p2, List.forall_mem_cons.mpr ⟨lw_p3, List.forall_mem_cons.mpr ⟨lw_p4, List.forall_mem_cons.mpr ⟨lw_p5, List.forall_mem_cons.mpr ⟨lw_p6, List.forall_mem_cons.mpr ⟨lw_p7, List.forall_mem_cons.mpr ⟨lw_p8, List.forall_mem_cons.mpr ⟨lw_p9, List.forall_mem_cons.mpr ⟨lw_p10, List.forall_mem_cons.mpr ⟨lw_p11, List.forall_mem_cons.mpr ⟨lw_p12, List.forall_mem_cons.mpr ⟨lw_p13, List.forall_mem_cons.mpr ⟨lw_p14, List.forall_mem_cons.mpr ⟨lw_p15, fun _ h => absurd h List.not_mem_nil⟩⟩⟩⟩⟩⟩⟩⟩⟩⟩⟩⟩⟩⟩⟩⟩
theorem lw_p16 : lw_okq (⟨"GateStack$Program", "lacksOne", "()Z"⟩, 3) := ⟨⟨by decide +kernel, by decide +kernel⟩, List.mem_of_getElem? (i := 88) (by decide +kernel), List.mem_of_getElem? (i := 348) (by decide +kernel), List.mem_of_getElem? (i := 349) (by decide +kernel)⟩
theorem lw_p17 : lw_okq (⟨"GateStack$Program", "followChains", "()V"⟩, 3) := ⟨⟨by decide +kernel, by decide +kernel⟩, List.mem_of_getElem? (i := 88) (by decide +kernel), List.mem_of_getElem? (i := 352) (by decide +kernel), List.mem_of_getElem? (i := 353) (by decide +kernel)⟩
theorem lw_p18 : lw_okq (⟨"GateStack$Program", "hasCircle", "()Z"⟩, 3) := ⟨⟨by decide +kernel, by decide +kernel⟩, List.mem_of_getElem? (i := 88) (by decide +kernel), List.mem_of_getElem? (i := 356) (by decide +kernel), List.mem_of_getElem? (i := 357) (by decide +kernel)⟩
theorem lw_p19 : lw_okq (⟨"GateStack$Machine", "enter", "(LGateStack$Program;I)V"⟩, 5) := ⟨⟨by decide +kernel, by decide +kernel⟩, List.mem_of_getElem? (i := 118) (by decide +kernel), List.mem_of_getElem? (i := 373) (by decide +kernel), List.mem_of_getElem? (i := 374) (by decide +kernel)⟩
theorem lw_p20 : lw_okq (⟨"GateStack$Machine", "leaveEndedBlocks", "(LGateStack$Program;)V"⟩, 5) := ⟨⟨by decide +kernel, by decide +kernel⟩, List.mem_of_getElem? (i := 118) (by decide +kernel), List.mem_of_getElem? (i := 386) (by decide +kernel), List.mem_of_getElem? (i := 387) (by decide +kernel)⟩
theorem lw_p21 : lw_okq (⟨"GateStack$Machine", "currentText", "(LGateStack$Program;)LGateStack$ModuleText;"⟩, 5) := ⟨⟨by decide +kernel, by decide +kernel⟩, List.mem_of_getElem? (i := 118) (by decide +kernel), List.mem_of_getElem? (i := 390) (by decide +kernel), List.mem_of_getElem? (i := 391) (by decide +kernel)⟩
theorem lw_p22 : lw_okq (⟨"GateStack$ModuleText", "behindEndOf", "(I)I"⟩, 10) := ⟨⟨by decide +kernel, by decide +kernel⟩, List.mem_of_getElem? (i := 19) (by decide +kernel), List.mem_of_getElem? (i := 405) (by decide +kernel), List.mem_of_getElem? (i := 406) (by decide +kernel)⟩
theorem lw_p23 : lw_okq (⟨"GateStack$Machine", "placeBehind", "(LGateStack$ModuleText;ILGateStack$Calculator;)I"⟩, 5) := ⟨⟨by decide +kernel, by decide +kernel⟩, List.mem_of_getElem? (i := 118) (by decide +kernel), List.mem_of_getElem? (i := 418) (by decide +kernel), List.mem_of_getElem? (i := 419) (by decide +kernel)⟩
theorem lw_p24 : lw_okq (⟨"GateStack$Calculator", "expression", "(LGateStack$ModuleText;I)I"⟩, 2) := ⟨⟨by decide +kernel, by decide +kernel⟩, List.mem_of_getElem? (i := 105) (by decide +kernel), List.mem_of_getElem? (i := 427) (by decide +kernel), List.mem_of_getElem? (i := 428) (by decide +kernel)⟩
theorem lw_p25 : lw_okq (⟨"GateStack$Calculator", "operand", "(LGateStack$ModuleText;I)I"⟩, 2) := ⟨⟨by decide +kernel, by decide +kernel⟩, List.mem_of_getElem? (i := 105) (by decide +kernel), List.mem_of_getElem? (i := 431) (by decide +kernel), List.mem_of_getElem? (i := 432) (by decide +kernel)⟩
theorem lw_p26 : lw_okq (⟨"GateStack$Calculator", "number", "(LGateStack$ModuleText;)I"⟩, 2) := ⟨⟨by decide +kernel, by decide +kernel⟩, List.mem_of_getElem? (i := 105) (by decide +kernel), List.mem_of_getElem? (i := 437) (by decide +kernel), List.mem_of_getElem? (i := 438) (by decide +kernel)⟩
theorem lw_p27 : lw_okq (⟨"GateStack$Machine", "keep", "(I)V"⟩, 5) := ⟨⟨by decide +kernel, by decide +kernel⟩, List.mem_of_getElem? (i := 118) (by decide +kernel), List.mem_of_getElem? (i := 457) (by decide +kernel), List.mem_of_getElem? (i := 458) (by decide +kernel)⟩
theorem lw_p28 : lw_okq (⟨"GateStackModel", "unlink", "()V"⟩, 30) := ⟨⟨by decide +kernel, by decide +kernel⟩, List.mem_of_getElem? (i := 530) (by decide +kernel), List.mem_of_getElem? (i := 636) (by decide +kernel), List.mem_of_getElem? (i := 637) (by decide +kernel)⟩
theorem lw_p29 : lw_okq (⟨"GateStackModel", "stands", "(I)Z"⟩, 30) := ⟨⟨by decide +kernel, by decide +kernel⟩, List.mem_of_getElem? (i := 530) (by decide +kernel), List.mem_of_getElem? (i := 648) (by decide +kernel), List.mem_of_getElem? (i := 649) (by decide +kernel)⟩
theorem lw_p30 : lw_okq (⟨"GateStackModel", "push", "(II)Z"⟩, 30) := ⟨⟨by decide +kernel, by decide +kernel⟩, List.mem_of_getElem? (i := 530) (by decide +kernel), List.mem_of_getElem? (i := 655) (by decide +kernel), List.mem_of_getElem? (i := 656) (by decide +kernel)⟩
theorem lw_p31 : lw_okq (⟨"GateStackModel", "atStatement", "(I)Z"⟩, 30) := ⟨⟨by decide +kernel, by decide +kernel⟩, List.mem_of_getElem? (i := 530) (by decide +kernel), List.mem_of_getElem? (i := 659) (by decide +kernel), List.mem_of_getElem? (i := 660) (by decide +kernel)⟩
def lw_privs_2 : List (MethodName × Nat) := [(⟨"GateStack$Program", "lacksOne", "()Z"⟩, 3), (⟨"GateStack$Program", "followChains", "()V"⟩, 3), (⟨"GateStack$Program", "hasCircle", "()Z"⟩, 3), (⟨"GateStack$Machine", "enter", "(LGateStack$Program;I)V"⟩, 5), (⟨"GateStack$Machine", "leaveEndedBlocks", "(LGateStack$Program;)V"⟩, 5), (⟨"GateStack$Machine", "currentText", "(LGateStack$Program;)LGateStack$ModuleText;"⟩, 5), (⟨"GateStack$ModuleText", "behindEndOf", "(I)I"⟩, 10), (⟨"GateStack$Machine", "placeBehind", "(LGateStack$ModuleText;ILGateStack$Calculator;)I"⟩, 5), (⟨"GateStack$Calculator", "expression", "(LGateStack$ModuleText;I)I"⟩, 2), (⟨"GateStack$Calculator", "operand", "(LGateStack$ModuleText;I)I"⟩, 2), (⟨"GateStack$Calculator", "number", "(LGateStack$ModuleText;)I"⟩, 2), (⟨"GateStack$Machine", "keep", "(I)V"⟩, 5), (⟨"GateStackModel", "unlink", "()V"⟩, 30), (⟨"GateStackModel", "stands", "(I)Z"⟩, 30), (⟨"GateStackModel", "push", "(II)Z"⟩, 30), (⟨"GateStackModel", "atStatement", "(I)Z"⟩, 30)]
theorem lw_r2 : ∀ q ∈ lw_privs_2, lw_okq q := List.forall_mem_cons.mpr ⟨lw_p16, List.forall_mem_cons.mpr ⟨lw_p17, List.forall_mem_cons.mpr ⟨lw_p18, List.forall_mem_cons.mpr ⟨lw_p19, List.forall_mem_cons.mpr ⟨lw_p20, List.forall_mem_cons.mpr ⟨lw_p21, List.forall_mem_cons.mpr ⟨lw_p22, List.forall_mem_cons.mpr ⟨lw_p23, List.forall_mem_cons.mpr ⟨lw_p24, List.forall_mem_cons.mpr ⟨lw_p25, List.forall_mem_cons.mpr ⟨lw_p26, List.forall_mem_cons.mpr ⟨lw_p27, List.forall_mem_cons.mpr ⟨lw_p28, List.forall_mem_cons.mpr ⟨lw_p29, List.forall_mem_cons.mpr ⟨lw_p30, List.forall_mem_cons.mpr ⟨lw_p31, fun _ h => absurd h List.not_mem_nil⟩⟩⟩⟩⟩⟩⟩⟩⟩⟩⟩⟩⟩⟩⟩⟩
theorem lw_p32 : lw_okq (⟨"GateStackModel", "atOperand", "(I)Z"⟩, 30) := ⟨⟨by decide +kernel, by decide +kernel⟩, List.mem_of_getElem? (i := 530) (by decide +kernel), List.mem_of_getElem? (i := 666) (by decide +kernel), List.mem_of_getElem? (i := 667) (by decide +kernel)⟩
theorem lw_p33 : lw_okq (⟨"GateStackModel", "operandEnds", "()V"⟩, 30) := ⟨⟨by decide +kernel, by decide +kernel⟩, List.mem_of_getElem? (i := 530) (by decide +kernel), List.mem_of_getElem? (i := 670) (by decide +kernel), List.mem_of_getElem? (i := 671) (by decide +kernel)⟩
theorem lw_p34 : lw_okq (⟨"GateStackModel", "afterOperand", "(I)Z"⟩, 30) := ⟨⟨by decide +kernel, by decide +kernel⟩, List.mem_of_getElem? (i := 530) (by decide +kernel), List.mem_of_getElem? (i := 674) (by decide +kernel), List.mem_of_getElem? (i := 675) (by decide +kernel)⟩
theorem lw_p35 : lw_okq (⟨"GateStackModel", "twice", "(I)Z"⟩, 30) := ⟨⟨by decide +kernel, by decide +kernel⟩, List.mem_of_getElem? (i := 530) (by decide +kernel), List.mem_of_getElem? (i := 686) (by decide +kernel), List.mem_of_getElem? (i := 687) (by decide +kernel)⟩
theorem lw_p36 : lw_okq (⟨"GateStackModel", "map", "(I)I"⟩, 30) := ⟨⟨by decide +kernel, by decide +kernel⟩, List.mem_of_getElem? (i := 530) (by decide +kernel), List.mem_of_getElem? (i := 690) (by decide +kernel), List.mem_of_getElem? (i := 691) (by decide +kernel)⟩
theorem lw_p37 : lw_okq (⟨"GateStackModel", "gather", "()Z"⟩, 30) := ⟨⟨by decide +kernel, by decide +kernel⟩, List.mem_of_getElem? (i := 530) (by decide +kernel), List.mem_of_getElem? (i := 698) (by decide +kernel), List.mem_of_getElem? (i := 699) (by decide +kernel)⟩
theorem lw_p38 : lw_okq (⟨"GateStackModel", "settle", "()V"⟩, 30) := ⟨⟨by decide +kernel, by decide +kernel⟩, List.mem_of_getElem? (i := 530) (by decide +kernel), List.mem_of_getElem? (i := 706) (by decide +kernel), List.mem_of_getElem? (i := 707) (by decide +kernel)⟩
theorem lw_p39 : lw_okq (⟨"GateStackModel", "step", "()V"⟩, 30) := ⟨⟨by decide +kernel, by decide +kernel⟩, List.mem_of_getElem? (i := 530) (by decide +kernel), List.mem_of_getElem? (i := 714) (by decide +kernel), List.mem_of_getElem? (i := 715) (by decide +kernel)⟩
theorem lw_p40 : lw_okq (⟨"GateStackModel", "branch", "(I)V"⟩, 30) := ⟨⟨by decide +kernel, by decide +kernel⟩, List.mem_of_getElem? (i := 530) (by decide +kernel), List.mem_of_getElem? (i := 718) (by decide +kernel), List.mem_of_getElem? (i := 719) (by decide +kernel)⟩
theorem lw_p41 : lw_okq (⟨"GateStackModel", "work", "(I)I"⟩, 30) := ⟨⟨by decide +kernel, by decide +kernel⟩, List.mem_of_getElem? (i := 530) (by decide +kernel), List.mem_of_getElem? (i := 722) (by decide +kernel), List.mem_of_getElem? (i := 723) (by decide +kernel)⟩
theorem lw_p42 : lw_okq (⟨"GateStackModel", "operand", "(II)V"⟩, 30) := ⟨⟨by decide +kernel, by decide +kernel⟩, List.mem_of_getElem? (i := 530) (by decide +kernel), List.mem_of_getElem? (i := 726) (by decide +kernel), List.mem_of_getElem? (i := 727) (by decide +kernel)⟩
def lw_privs_3 : List (MethodName × Nat) := [(⟨"GateStackModel", "atOperand", "(I)Z"⟩, 30), (⟨"GateStackModel", "operandEnds", "()V"⟩, 30), (⟨"GateStackModel", "afterOperand", "(I)Z"⟩, 30), (⟨"GateStackModel", "twice", "(I)Z"⟩, 30), (⟨"GateStackModel", "map", "(I)I"⟩, 30), (⟨"GateStackModel", "gather", "()Z"⟩, 30), (⟨"GateStackModel", "settle", "()V"⟩, 30), (⟨"GateStackModel", "step", "()V"⟩, 30), (⟨"GateStackModel", "branch", "(I)V"⟩, 30), (⟨"GateStackModel", "work", "(I)I"⟩, 30), (⟨"GateStackModel", "operand", "(II)V"⟩, 30)]
theorem lw_r3 : ∀ q ∈ lw_privs_3, lw_okq q := List.forall_mem_cons.mpr ⟨lw_p32, List.forall_mem_cons.mpr ⟨lw_p33, List.forall_mem_cons.mpr ⟨lw_p34, List.forall_mem_cons.mpr ⟨lw_p35, List.forall_mem_cons.mpr ⟨lw_p36, List.forall_mem_cons.mpr ⟨lw_p37, List.forall_mem_cons.mpr ⟨lw_p38, List.forall_mem_cons.mpr ⟨lw_p39, List.forall_mem_cons.mpr ⟨lw_p40, List.forall_mem_cons.mpr ⟨lw_p41, List.forall_mem_cons.mpr ⟨lw_p42, fun _ h => absurd h List.not_mem_nil⟩⟩⟩⟩⟩⟩⟩⟩⟩⟩⟩
def lw_privs : List (MethodName × Nat) := lw_privs_1 ++ (lw_privs_2 ++ (lw_privs_3))
def lw_tbl : List Cond := k2_sels lw_privs ++ tables_1
theorem lw_privs_ok : ∀ q ∈ lw_privs, lw_okq q := by
  show ∀ q ∈ lw_privs_1 ++ (lw_privs_2 ++ (lw_privs_3)), lw_okq q
  exact List.forall_mem_append.mpr ⟨lw_r1, List.forall_mem_append.mpr ⟨lw_r2, lw_r3⟩⟩
def R_GS : String := "GateStack"
def T_GS : u_T := fun k => match k with
  | 0 => ("GateStack", "modules", "[LGateStack$ModuleText;", true)
  | 1 => ("GateStack", "reader", "LGateStack$Reader;", true)
  | 2 => ("GateStack", "program", "LGateStack$Program;", true)
  | 3 => ("GateStack", "calculator", "LGateStack$Calculator;", true)
  | 4 => ("GateStack", "machine", "LGateStack$Machine;", true)
  | _ => ("GateStack", "linked", "Z", false)
def t_GS : Nat → FieldType := fun k => match k with
  | 0 => .array (.object "GateStack$ModuleText")
  | 1 => .object "GateStack$Reader"
  | 2 => .object "GateStack$Program"
  | 3 => .object "GateStack$Calculator"
  | 4 => .object "GateStack$Machine"
  | _ => .boolean
theorem n_GS : ∀ a, a < 6 → ∀ b, b < 6 → a ≠ b → (T_GS a).2.1 ≠ (T_GS b).2.1 := by decide +kernel
theorem t_GS_ok : ∀ k, k < 6 → parseFieldDescriptor (T_GS k).2.2.1 = some (t_GS k) := by decide +kernel
def R_MT : String := "GateStack$ModuleText"
def T_MT : u_T := fun k => match k with
  | 0 => ("GateStack$ModuleText", "signs", "[I", true)
  | 1 => ("GateStack$ModuleText", "numbers", "[I", true)
  | 2 => ("GateStack$ModuleText", "heads", "[I", true)
  | 3 => ("GateStack$ModuleText", "ends", "[I", true)
  | 4 => ("GateStack$ModuleText", "begins", "[I", true)
  | 5 => ("GateStack$ModuleText", "calls", "[I", true)
  | 6 => ("GateStack$ModuleText", "length", "I", false)
  | 7 => ("GateStack$ModuleText", "defined", "I", false)
  | 8 => ("GateStack$ModuleText", "twins", "Z", false)
  | _ => ("GateStack$ModuleText", "compiled", "Z", false)
def t_MT : Nat → FieldType := fun k => match k with
  | 0 => .array .int
  | 1 => .array .int
  | 2 => .array .int
  | 3 => .array .int
  | 4 => .array .int
  | 5 => .array .int
  | 6 => .int
  | 7 => .int
  | 8 => .boolean
  | _ => .boolean
theorem n_MT : ∀ a, a < 10 → ∀ b, b < 10 → a ≠ b → (T_MT a).2.1 ≠ (T_MT b).2.1 := by decide +kernel
theorem t_MT_ok : ∀ k, k < 10 → parseFieldDescriptor (T_MT k).2.2.1 = some (t_MT k) := by decide +kernel
def R_RD : String := "GateStack$Reader"
def T_RD : u_T := fun k => match k with
  | 0 => ("GateStack$Reader", "open", "[I", true)
  | 1 => ("GateStack$Reader", "depth", "I", false)
  | 2 => ("GateStack$Reader", "expected", "I", false)
  | 3 => ("GateStack$Reader", "head", "I", false)
  | 4 => ("GateStack$Reader", "expressionEnd", "I", false)
  | 5 => ("GateStack$Reader", "digits", "I", false)
  | 6 => ("GateStack$Reader", "procedure", "I", false)
  | _ => ("GateStack$Reader", "statements", "I", false)
def t_RD : Nat → FieldType := fun k => match k with
  | 0 => .array .int
  | 1 => .int
  | 2 => .int
  | 3 => .int
  | 4 => .int
  | 5 => .int
  | 6 => .int
  | _ => .int
theorem n_RD : ∀ a, a < 8 → ∀ b, b < 8 → a ≠ b → (T_RD a).2.1 ≠ (T_RD b).2.1 := by decide +kernel
theorem t_RD_ok : ∀ k, k < 8 → parseFieldDescriptor (T_RD k).2.2.1 = some (t_RD k) := by decide +kernel
def R_PR : String := "GateStack$Program"
def T_PR : u_T := fun k => match k with
  | 0 => ("GateStack$Program", "homes", "[LGateStack$ModuleText;", true)
  | 1 => ("GateStack$Program", "reached", "[I", true)
  | _ => ("GateStack$Program", "defined", "I", false)
def t_PR : Nat → FieldType := fun k => match k with
  | 0 => .array (.object "GateStack$ModuleText")
  | 1 => .array .int
  | _ => .int
theorem n_PR : ∀ a, a < 3 → ∀ b, b < 3 → a ≠ b → (T_PR a).2.1 ≠ (T_PR b).2.1 := by decide +kernel
theorem t_PR_ok : ∀ k, k < 3 → parseFieldDescriptor (T_PR k).2.2.1 = some (t_PR k) := by decide +kernel
def R_CA : String := "GateStack$Calculator"
def T_CA : u_T := fun k => match k with
  | 0 => ("GateStack$Calculator", "variables", "[I", true)
  | _ => ("GateStack$Calculator", "cursor", "I", false)
def t_CA : Nat → FieldType := fun k => match k with
  | 0 => .array .int
  | _ => .int
theorem n_CA : ∀ a, a < 2 → ∀ b, b < 2 → a ≠ b → (T_CA a).2.1 ≠ (T_CA b).2.1 := by decide +kernel
theorem t_CA_ok : ∀ k, k < 2 → parseFieldDescriptor (T_CA k).2.2.1 = some (t_CA k) := by decide +kernel
def R_MA : String := "GateStack$Machine"
def T_MA : u_T := fun k => match k with
  | 0 => ("GateStack$Machine", "letters", "[I", true)
  | 1 => ("GateStack$Machine", "places", "[I", true)
  | 2 => ("GateStack$Machine", "outputs", "[I", true)
  | 3 => ("GateStack$Machine", "depth", "I", false)
  | _ => ("GateStack$Machine", "outputCount", "I", false)
def t_MA : Nat → FieldType := fun k => match k with
  | 0 => .array .int
  | 1 => .array .int
  | 2 => .array .int
  | 3 => .int
  | _ => .int
theorem n_MA : ∀ a, a < 5 → ∀ b, b < 5 → a ≠ b → (T_MA a).2.1 ≠ (T_MA b).2.1 := by decide +kernel
theorem t_MA_ok : ∀ k, k < 5 → parseFieldDescriptor (T_MA k).2.2.1 = some (t_MA k) := by decide +kernel
def R_GM : String := "GateStackModel"
def T_GM : u_T := fun k => match k with
  | 0 => ("GateStackModel", "text", "[I", true)
  | 1 => ("GateStackModel", "length", "[I", true)
  | 2 => ("GateStackModel", "compiled", "[Z", true)
  | 3 => ("GateStackModel", "linked", "Z", false)
  | 4 => ("GateStackModel", "open", "[I", true)
  | 5 => ("GateStackModel", "opened", "I", false)
  | 6 => ("GateStackModel", "state", "I", false)
  | 7 => ("GateStackModel", "kind", "I", false)
  | 8 => ("GateStackModel", "digits", "I", false)
  | 9 => ("GateStackModel", "second", "Z", false)
  | 10 => ("GateStackModel", "partner", "[I", true)
  | 11 => ("GateStackModel", "owner", "[I", true)
  | 12 => ("GateStackModel", "kindAt", "[I", true)
  | 13 => ("GateStackModel", "numberAt", "[I", true)
  | 14 => ("GateStackModel", "letterAt", "[I", true)
  | 15 => ("GateStackModel", "body", "[I", true)
  | 16 => ("GateStackModel", "calls", "[I", true)
  | 17 => ("GateStackModel", "variable", "[I", true)
  | 18 => ("GateStackModel", "outputs", "[J", true)
  | 19 => ("GateStackModel", "outputCount", "I", false)
  | 20 => ("GateStackModel", "going", "Z", false)
  | 21 => ("GateStackModel", "place", "I", false)
  | 22 => ("GateStackModel", "behind", "[I", true)
  | 23 => ("GateStackModel", "depth", "I", false)
  | 24 => ("GateStackModel", "value", "[I", true)
  | 25 => ("GateStackModel", "operator", "[I", true)
  | 26 => ("GateStackModel", "base", "[I", true)
  | 27 => ("GateStackModel", "before", "[I", true)
  | 28 => ("GateStackModel", "signs", "I", false)
  | _ => ("GateStackModel", "end", "I", false)
def t_GM : Nat → FieldType := fun k => match k with
  | 0 => .array .int
  | 1 => .array .int
  | 2 => .array .boolean
  | 3 => .boolean
  | 4 => .array .int
  | 5 => .int
  | 6 => .int
  | 7 => .int
  | 8 => .int
  | 9 => .boolean
  | 10 => .array .int
  | 11 => .array .int
  | 12 => .array .int
  | 13 => .array .int
  | 14 => .array .int
  | 15 => .array .int
  | 16 => .array .int
  | 17 => .array .int
  | 18 => .array .long
  | 19 => .int
  | 20 => .boolean
  | 21 => .int
  | 22 => .array .int
  | 23 => .int
  | 24 => .array .int
  | 25 => .array .int
  | 26 => .array .int
  | 27 => .array .int
  | 28 => .int
  | _ => .int
theorem n_GM : ∀ a, a < 30 → ∀ b, b < 30 → a ≠ b → (T_GM a).2.1 ≠ (T_GM b).2.1 := by decide +kernel
theorem t_GM_ok : ∀ k, k < 30 → parseFieldDescriptor (T_GM k).2.2.1 = some (t_GM k) := by decide +kernel
def R_JI : String := "java/lang/Integer"
abbrev vwCl : List vw_C := [(R_GS, T_GS, 6), (R_MT, T_MT, 10), (R_RD, T_RD, 8), (R_PR, T_PR, 3), (R_CA, T_CA, 2), (R_MA, T_MA, 5), (R_GM, T_GM, 30)]
abbrev b_GS_init : ByteArray := prog_1_method_1_code
def y_GS_init : MethodName := ⟨R_GS, "<init>", "()V"⟩
abbrev b_GS_sign : ByteArray := prog_1_method_2_code
def y_GS_sign : MethodName := ⟨R_GS, "sign", "(II)I"⟩
abbrev b_GS_clear : ByteArray := prog_1_method_3_code
def y_GS_clear : MethodName := ⟨R_GS, "clear", "(I)I"⟩
abbrev b_GS_compile : ByteArray := prog_1_method_4_code
def y_GS_compile : MethodName := ⟨R_GS, "compile", "(I)I"⟩
abbrev b_GS_fault : ByteArray := prog_1_method_5_code
def y_GS_fault : MethodName := ⟨R_GS, "fault", "(I)I"⟩
abbrev b_GS_link : ByteArray := prog_1_method_6_code
def y_GS_link : MethodName := ⟨R_GS, "link", "()I"⟩
abbrev b_GS_start : ByteArray := prog_1_method_7_code
def y_GS_start : MethodName := ⟨R_GS, "start", "()I"⟩
abbrev b_GS_run : ByteArray := prog_1_method_8_code
def y_GS_run : MethodName := ⟨R_GS, "run", "(I)I"⟩
abbrev b_GS_stop : ByteArray := prog_1_method_9_code
def y_GS_stop : MethodName := ⟨R_GS, "stop", "()I"⟩
abbrev b_GS_set : ByteArray := prog_1_method_10_code
def y_GS_set : MethodName := ⟨R_GS, "set", "(II)I"⟩
abbrev b_GS_get : ByteArray := prog_1_method_11_code
def y_GS_get : MethodName := ⟨R_GS, "get", "(I)J"⟩
abbrev b_GS_output : ByteArray := prog_1_method_12_code
def y_GS_output : MethodName := ⟨R_GS, "output", "(I)J"⟩
abbrev b_GS_at : ByteArray := prog_1_method_13_code
def y_GS_at : MethodName := ⟨R_GS, "at", "(I)I"⟩
abbrev b_GS_operate : ByteArray := prog_1_method_14_code
def y_GS_operate : MethodName := ⟨R_GS, "operate", "(III)J"⟩
abbrev b_GS_state : ByteArray := prog_1_method_15_code
def y_GS_state : MethodName := ⟨R_GS, "state", "(II)I"⟩
abbrev b_GS_loosen : ByteArray := prog_1_method_16_code
def y_GS_loosen : MethodName := ⟨R_GS, "loosen", "()V"⟩
abbrev b_GS_isModule : ByteArray := prog_1_method_17_code
def y_GS_isModule : MethodName := ⟨R_GS, "isModule", "(I)Z"⟩
abbrev b_GS_isVariableNumber : ByteArray := prog_1_method_18_code
def y_GS_isVariableNumber : MethodName := ⟨R_GS, "isVariableNumber", "(I)Z"⟩
abbrev b_GS_isLetterNumber : ByteArray := prog_1_method_19_code
def y_GS_isLetterNumber : MethodName := ⟨R_GS, "isLetterNumber", "(I)Z"⟩
abbrev b_GS_isLetter : ByteArray := prog_1_method_20_code
def y_GS_isLetter : MethodName := ⟨R_GS, "isLetter", "(I)Z"⟩
abbrev b_GS_isVariable : ByteArray := prog_1_method_21_code
def y_GS_isVariable : MethodName := ⟨R_GS, "isVariable", "(I)Z"⟩
abbrev b_GS_isDigit : ByteArray := prog_1_method_22_code
def y_GS_isDigit : MethodName := ⟨R_GS, "isDigit", "(I)Z"⟩
abbrev b_GS_isPrefix : ByteArray := prog_1_method_23_code
def y_GS_isPrefix : MethodName := ⟨R_GS, "isPrefix", "(I)Z"⟩
abbrev b_GS_hasBit : ByteArray := prog_1_method_24_code
def y_GS_hasBit : MethodName := ⟨R_GS, "hasBit", "(II)Z"⟩
abbrev b_GS_operationOf : ByteArray := prog_1_method_25_code
def y_GS_operationOf : MethodName := ⟨R_GS, "operationOf", "(I)I"⟩
abbrev b_GS_worked : ByteArray := prog_1_method_26_code
def y_GS_worked : MethodName := ⟨R_GS, "worked", "(III)I"⟩
abbrev b_GM_init : ByteArray := prog_8_method_1_code
def y_GM_init : MethodName := ⟨R_GM, "<init>", "()V"⟩
abbrev b_GM_in : ByteArray := prog_8_method_2_code
def y_GM_in : MethodName := ⟨R_GM, "in", "(III)Z"⟩
abbrev b_GM_unlink : ByteArray := prog_8_method_3_code
def y_GM_unlink : MethodName := ⟨R_GM, "unlink", "()V"⟩
abbrev b_GM_sign : ByteArray := prog_8_method_4_code
def y_GM_sign : MethodName := ⟨R_GM, "sign", "(II)I"⟩
abbrev b_GM_clear : ByteArray := prog_8_method_5_code
def y_GM_clear : MethodName := ⟨R_GM, "clear", "(I)I"⟩
abbrev b_GM_isVariable : ByteArray := prog_8_method_6_code
def y_GM_isVariable : MethodName := ⟨R_GM, "isVariable", "(I)Z"⟩
abbrev b_GM_isLetter : ByteArray := prog_8_method_7_code
def y_GM_isLetter : MethodName := ⟨R_GM, "isLetter", "(I)Z"⟩
abbrev b_GM_isOperator : ByteArray := prog_8_method_8_code
def y_GM_isOperator : MethodName := ⟨R_GM, "isOperator", "(I)Z"⟩
abbrev b_GM_push : ByteArray := prog_8_method_9_code
def y_GM_push : MethodName := ⟨R_GM, "push", "(II)Z"⟩
abbrev b_GM_operandEnds : ByteArray := prog_8_method_10_code
def y_GM_operandEnds : MethodName := ⟨R_GM, "operandEnds", "()V"⟩
abbrev b_GM_atStatement : ByteArray := prog_8_method_11_code
def y_GM_atStatement : MethodName := ⟨R_GM, "atStatement", "(I)Z"⟩
abbrev b_GM_atOperand : ByteArray := prog_8_method_12_code
def y_GM_atOperand : MethodName := ⟨R_GM, "atOperand", "(I)Z"⟩
abbrev b_GM_afterOperand : ByteArray := prog_8_method_13_code
def y_GM_afterOperand : MethodName := ⟨R_GM, "afterOperand", "(I)Z"⟩
abbrev b_GM_stands : ByteArray := prog_8_method_14_code
def y_GM_stands : MethodName := ⟨R_GM, "stands", "(I)Z"⟩
abbrev b_GM_fault : ByteArray := prog_8_method_15_code
def y_GM_fault : MethodName := ⟨R_GM, "fault", "(I)I"⟩
abbrev b_GM_map : ByteArray := prog_8_method_16_code
def y_GM_map : MethodName := ⟨R_GM, "map", "(I)I"⟩
abbrev b_GM_twice : ByteArray := prog_8_method_17_code
def y_GM_twice : MethodName := ⟨R_GM, "twice", "(I)Z"⟩
abbrev b_GM_compile : ByteArray := prog_8_method_18_code
def y_GM_compile : MethodName := ⟨R_GM, "compile", "(I)I"⟩
abbrev b_GM_gather : ByteArray := prog_8_method_19_code
def y_GM_gather : MethodName := ⟨R_GM, "gather", "()Z"⟩
abbrev b_GM_link : ByteArray := prog_8_method_20_code
def y_GM_link : MethodName := ⟨R_GM, "link", "()I"⟩
abbrev b_GM_apply : ByteArray := prog_8_method_21_code
def y_GM_apply : MethodName := ⟨R_GM, "apply", "(III)I"⟩
abbrev b_GM_operand : ByteArray := prog_8_method_22_code
def y_GM_operand : MethodName := ⟨R_GM, "operand", "(II)V"⟩
abbrev b_GM_work : ByteArray := prog_8_method_23_code
def y_GM_work : MethodName := ⟨R_GM, "work", "(I)I"⟩
abbrev b_GM_settle : ByteArray := prog_8_method_24_code
def y_GM_settle : MethodName := ⟨R_GM, "settle", "()V"⟩
abbrev b_GM_start : ByteArray := prog_8_method_25_code
def y_GM_start : MethodName := ⟨R_GM, "start", "()I"⟩
abbrev b_GM_branch : ByteArray := prog_8_method_26_code
def y_GM_branch : MethodName := ⟨R_GM, "branch", "(I)V"⟩
abbrev b_GM_step : ByteArray := prog_8_method_27_code
def y_GM_step : MethodName := ⟨R_GM, "step", "()V"⟩
abbrev b_GM_run : ByteArray := prog_8_method_28_code
def y_GM_run : MethodName := ⟨R_GM, "run", "(I)I"⟩
abbrev b_GM_stop : ByteArray := prog_8_method_29_code
def y_GM_stop : MethodName := ⟨R_GM, "stop", "()I"⟩
abbrev b_GM_set : ByteArray := prog_8_method_30_code
def y_GM_set : MethodName := ⟨R_GM, "set", "(II)I"⟩
abbrev b_GM_get : ByteArray := prog_8_method_31_code
def y_GM_get : MethodName := ⟨R_GM, "get", "(I)J"⟩
abbrev b_GM_output : ByteArray := prog_8_method_32_code
def y_GM_output : MethodName := ⟨R_GM, "output", "(I)J"⟩
abbrev b_GM_at : ByteArray := prog_8_method_33_code
def y_GM_at : MethodName := ⟨R_GM, "at", "(I)I"⟩
abbrev b_GM_operate : ByteArray := prog_8_method_34_code
def y_GM_operate : MethodName := ⟨R_GM, "operate", "(III)J"⟩
abbrev b_GM_state : ByteArray := prog_8_method_35_code
def y_GM_state : MethodName := ⟨R_GM, "state", "(II)I"⟩
abbrev b_CA_init : ByteArray := prog_2_method_1_code
def y_CA_init : MethodName := ⟨R_CA, "<init>", "()V"⟩
abbrev b_CA_assign : ByteArray := prog_2_method_2_code
def y_CA_assign : MethodName := ⟨R_CA, "assign", "(II)Z"⟩
abbrev b_CA_variable : ByteArray := prog_2_method_3_code
def y_CA_variable : MethodName := ⟨R_CA, "variable", "(I)I"⟩
abbrev b_CA_valueAt : ByteArray := prog_2_method_4_code
def y_CA_valueAt : MethodName := ⟨R_CA, "valueAt", "(LGateStack$ModuleText;I)I"⟩
abbrev b_CA_cursor : ByteArray := prog_2_method_5_code
def y_CA_cursor : MethodName := ⟨R_CA, "cursor", "()I"⟩
abbrev b_CA_expression : ByteArray := prog_2_method_6_code
def y_CA_expression : MethodName := ⟨R_CA, "expression", "(LGateStack$ModuleText;I)I"⟩
abbrev b_CA_operand : ByteArray := prog_2_method_7_code
def y_CA_operand : MethodName := ⟨R_CA, "operand", "(LGateStack$ModuleText;I)I"⟩
abbrev b_CA_number : ByteArray := prog_2_method_8_code
def y_CA_number : MethodName := ⟨R_CA, "number", "(LGateStack$ModuleText;)I"⟩
abbrev b_MA_init : ByteArray := prog_3_method_1_code
def y_MA_init : MethodName := ⟨R_MA, "<init>", "()V"⟩
abbrev b_MA_isGoing : ByteArray := prog_3_method_2_code
def y_MA_isGoing : MethodName := ⟨R_MA, "isGoing", "()Z"⟩
abbrev b_MA_depth : ByteArray := prog_3_method_3_code
def y_MA_depth : MethodName := ⟨R_MA, "depth", "()I"⟩
abbrev b_MA_outputCount : ByteArray := prog_3_method_4_code
def y_MA_outputCount : MethodName := ⟨R_MA, "outputCount", "()I"⟩
abbrev b_MA_hasKept : ByteArray := prog_3_method_5_code
def y_MA_hasKept : MethodName := ⟨R_MA, "hasKept", "(I)Z"⟩
abbrev b_MA_kept : ByteArray := prog_3_method_6_code
def y_MA_kept : MethodName := ⟨R_MA, "kept", "(I)I"⟩
abbrev b_MA_letterCode : ByteArray := prog_3_method_7_code
def y_MA_letterCode : MethodName := ⟨R_MA, "letterCode", "()I"⟩
abbrev b_MA_statementNumber : ByteArray := prog_3_method_8_code
def y_MA_statementNumber : MethodName := ⟨R_MA, "statementNumber", "(LGateStack$Program;)I"⟩
abbrev b_MA_halt : ByteArray := prog_3_method_9_code
def y_MA_halt : MethodName := ⟨R_MA, "halt", "()V"⟩
abbrev b_MA_begin : ByteArray := prog_3_method_10_code
def y_MA_begin : MethodName := ⟨R_MA, "begin", "(LGateStack$Program;)V"⟩
abbrev b_MA_step : ByteArray := prog_3_method_11_code
def y_MA_step : MethodName := ⟨R_MA, "step", "(LGateStack$Program;LGateStack$Calculator;)V"⟩
abbrev b_MA_currentText : ByteArray := prog_3_method_12_code
def y_MA_currentText : MethodName := ⟨R_MA, "currentText", "(LGateStack$Program;)LGateStack$ModuleText;"⟩
abbrev b_MA_enter : ByteArray := prog_3_method_13_code
def y_MA_enter : MethodName := ⟨R_MA, "enter", "(LGateStack$Program;I)V"⟩
abbrev b_MA_placeBehind : ByteArray := prog_3_method_14_code
def y_MA_placeBehind : MethodName := ⟨R_MA, "placeBehind", "(LGateStack$ModuleText;ILGateStack$Calculator;)I"⟩
abbrev b_MA_keep : ByteArray := prog_3_method_15_code
def y_MA_keep : MethodName := ⟨R_MA, "keep", "(I)V"⟩
abbrev b_MA_leaveEndedBlocks : ByteArray := prog_3_method_16_code
def y_MA_leaveEndedBlocks : MethodName := ⟨R_MA, "leaveEndedBlocks", "(LGateStack$Program;)V"⟩
abbrev b_MT_init : ByteArray := prog_4_method_1_code
def y_MT_init : MethodName := ⟨R_MT, "<init>", "()V"⟩
abbrev b_MT_append : ByteArray := prog_4_method_2_code
def y_MT_append : MethodName := ⟨R_MT, "append", "(I)Z"⟩
abbrev b_MT_empty : ByteArray := prog_4_method_3_code
def y_MT_empty : MethodName := ⟨R_MT, "empty", "()V"⟩
abbrev b_MT_forget : ByteArray := prog_4_method_4_code
def y_MT_forget : MethodName := ⟨R_MT, "forget", "()V"⟩
abbrev b_MT_mark : ByteArray := prog_4_method_5_code
def y_MT_mark : MethodName := ⟨R_MT, "mark", "(Z)V"⟩
abbrev b_MT_addProcedure : ByteArray := prog_4_method_6_code
def y_MT_addProcedure : MethodName := ⟨R_MT, "addProcedure", "(II)V"⟩
abbrev b_MT_addCall : ByteArray := prog_4_method_7_code
def y_MT_addCall : MethodName := ⟨R_MT, "addCall", "(II)V"⟩
abbrev b_MT_addStatement : ByteArray := prog_4_method_8_code
def y_MT_addStatement : MethodName := ⟨R_MT, "addStatement", "(II)V"⟩
abbrev b_MT_addBlock : ByteArray := prog_4_method_9_code
def y_MT_addBlock : MethodName := ⟨R_MT, "addBlock", "(II)V"⟩
abbrev b_MT_length : ByteArray := prog_4_method_10_code
def y_MT_length : MethodName := ⟨R_MT, "length", "()I"⟩
abbrev b_MT_defined : ByteArray := prog_4_method_11_code
def y_MT_defined : MethodName := ⟨R_MT, "defined", "()I"⟩
abbrev b_MT_hasTwins : ByteArray := prog_4_method_12_code
def y_MT_hasTwins : MethodName := ⟨R_MT, "hasTwins", "()Z"⟩
abbrev b_MT_isCompiled : ByteArray := prog_4_method_13_code
def y_MT_isCompiled : MethodName := ⟨R_MT, "isCompiled", "()Z"⟩
abbrev b_MT_signAt : ByteArray := prog_4_method_14_code
def y_MT_signAt : MethodName := ⟨R_MT, "signAt", "(I)I"⟩
abbrev b_MT_numberAt : ByteArray := prog_4_method_15_code
def y_MT_numberAt : MethodName := ⟨R_MT, "numberAt", "(I)I"⟩
abbrev b_MT_callsOf : ByteArray := prog_4_method_16_code
def y_MT_callsOf : MethodName := ⟨R_MT, "callsOf", "(I)I"⟩
abbrev b_MT_firstPlaceOf : ByteArray := prog_4_method_17_code
def y_MT_firstPlaceOf : MethodName := ⟨R_MT, "firstPlaceOf", "(I)I"⟩
abbrev b_MT_endsProcedure : ByteArray := prog_4_method_18_code
def y_MT_endsProcedure : MethodName := ⟨R_MT, "endsProcedure", "(I)Z"⟩
abbrev b_MT_behindBlock : ByteArray := prog_4_method_19_code
def y_MT_behindBlock : MethodName := ⟨R_MT, "behindBlock", "(I)I"⟩
abbrev b_MT_placeIfZero : ByteArray := prog_4_method_20_code
def y_MT_placeIfZero : MethodName := ⟨R_MT, "placeIfZero", "(I)I"⟩
abbrev b_MT_behindEndOf : ByteArray := prog_4_method_21_code
def y_MT_behindEndOf : MethodName := ⟨R_MT, "behindEndOf", "(I)I"⟩
abbrev b_MT_isPlace : ByteArray := prog_4_method_22_code
def y_MT_isPlace : MethodName := ⟨R_MT, "isPlace", "(I)Z"⟩
abbrev b_PR_init : ByteArray := prog_5_method_1_code
def y_PR_init : MethodName := ⟨R_PR, "<init>", "()V"⟩
abbrev b_PR_join : ByteArray := prog_5_method_2_code
def y_PR_join : MethodName := ⟨R_PR, "join", "([LGateStack$ModuleText;)I"⟩
abbrev b_PR_homeOf : ByteArray := prog_5_method_3_code
def y_PR_homeOf : MethodName := ⟨R_PR, "homeOf", "(I)LGateStack$ModuleText;"⟩
abbrev b_PR_forget : ByteArray := prog_5_method_4_code
def y_PR_forget : MethodName := ⟨R_PR, "forget", "()V"⟩
abbrev b_PR_takeOver : ByteArray := prog_5_method_5_code
def y_PR_takeOver : MethodName := ⟨R_PR, "takeOver", "(LGateStack$ModuleText;)V"⟩
abbrev b_PR_lacksOne : ByteArray := prog_5_method_6_code
def y_PR_lacksOne : MethodName := ⟨R_PR, "lacksOne", "()Z"⟩
abbrev b_PR_followChains : ByteArray := prog_5_method_7_code
def y_PR_followChains : MethodName := ⟨R_PR, "followChains", "()V"⟩
abbrev b_PR_hasCircle : ByteArray := prog_5_method_8_code
def y_PR_hasCircle : MethodName := ⟨R_PR, "hasCircle", "()Z"⟩
abbrev b_RD_init : ByteArray := prog_6_method_1_code
def y_RD_init : MethodName := ⟨R_RD, "<init>", "()V"⟩
abbrev b_RD_faultOf : ByteArray := prog_6_method_2_code
def y_RD_faultOf : MethodName := ⟨R_RD, "faultOf", "(LGateStack$ModuleText;)I"⟩
abbrev b_RD_takes : ByteArray := prog_6_method_3_code
def y_RD_takes : MethodName := ⟨R_RD, "takes", "(LGateStack$ModuleText;I)Z"⟩
abbrev b_RD_takesProcedure : ByteArray := prog_6_method_4_code
def y_RD_takesProcedure : MethodName := ⟨R_RD, "takesProcedure", "(LGateStack$ModuleText;I)Z"⟩
abbrev b_RD_takesStatement : ByteArray := prog_6_method_5_code
def y_RD_takesStatement : MethodName := ⟨R_RD, "takesStatement", "(LGateStack$ModuleText;I)Z"⟩
abbrev b_RD_behindFirstSign : ByteArray := prog_6_method_6_code
def y_RD_behindFirstSign : MethodName := ⟨R_RD, "behindFirstSign", "(I)I"⟩
abbrev b_RD_closesBlock : ByteArray := prog_6_method_7_code
def y_RD_closesBlock : MethodName := ⟨R_RD, "closesBlock", "(LGateStack$ModuleText;I)Z"⟩
abbrev b_RD_takesOperand : ByteArray := prog_6_method_8_code
def y_RD_takesOperand : MethodName := ⟨R_RD, "takesOperand", "(LGateStack$ModuleText;I)Z"⟩
abbrev b_RD_takesDigit : ByteArray := prog_6_method_9_code
def y_RD_takesDigit : MethodName := ⟨R_RD, "takesDigit", "()Z"⟩
abbrev b_RD_takesOperator : ByteArray := prog_6_method_10_code
def y_RD_takesOperator : MethodName := ⟨R_RD, "takesOperator", "(LGateStack$ModuleText;I)Z"⟩
abbrev b_RD_endsOperand : ByteArray := prog_6_method_11_code
def y_RD_endsOperand : MethodName := ⟨R_RD, "endsOperand", "(LGateStack$ModuleText;I)Z"⟩
abbrev b_RD_lastOpen : ByteArray := prog_6_method_12_code
def y_RD_lastOpen : MethodName := ⟨R_RD, "lastOpen", "(LGateStack$ModuleText;)I"⟩
abbrev b_RD_opens : ByteArray := prog_6_method_13_code
def y_RD_opens : MethodName := ⟨R_RD, "opens", "(II)Z"⟩
abbrev b_RD_begins : ByteArray := prog_6_method_14_code
def y_RD_begins : MethodName := ⟨R_RD, "begins", "(II)Z"⟩
abbrev b_RD_expects : ByteArray := prog_6_method_15_code
def y_RD_expects : MethodName := ⟨R_RD, "expects", "(I)Z"⟩
abbrev b_JI_bitCount : ByteArray := prog_9_method_49_code
def y_JI_bitCount : MethodName := ⟨R_JI, "bitCount", "(I)I"⟩
def allW_0 : List Cond := [.initialized "GateStackLaw", .initialized R_GS, .initialized R_MT, .initialized R_RD, .initialized R_PR, .initialized R_CA, .initialized R_MA, .initialized R_GM, .initialized R_JI, .classLink "GateStackLaw" 7 "GateStack", .instantiable R_GS 6, .methodLink "GateStackLaw" 9 y_GS_init, .instanceMethod y_GS_init, .code y_GS_init prog_1_method_1_code 2 none, .methodLink R_GS 1 objectInit, .instanceMethod objectInit, .code objectInit object_method_1_code 1 none, .classLink R_GS 9 "GateStack$ModuleText", .instantiable R_MT 10, .instanceMethod y_MT_init, .code y_MT_init prog_4_method_1_code 1 none, .methodLink R_MT 3 objectInit, .fieldLink R_MT 9 "GateStack$ModuleText" "signs" "[I", .fieldLink R_MT 15 "GateStack$ModuleText" "numbers" "[I", .fieldLink R_MT 18 "GateStack$ModuleText" "heads" "[I", .fieldLink R_MT 21 "GateStack$ModuleText" "ends" "[I", .fieldLink R_MT 24 "GateStack$ModuleText" "begins" "[I", .fieldLink R_MT 27 "GateStack$ModuleText" "calls" "[I", .fieldLink R_MT 34 "GateStack$ModuleText" "length" "I", .fieldLink R_MT 41 "GateStack$ModuleText" "defined" "I", .fieldLink R_MT 44 "GateStack$ModuleText" "twins" "Z", .fieldLink R_MT 30 "GateStack$ModuleText" "compiled" "Z", .laysFinal R_MT "GateStack$ModuleText" "signs" "[I", .laysFinal R_MT "GateStack$ModuleText" "numbers" "[I", .laysFinal R_MT "GateStack$ModuleText" "heads" "[I", .laysFinal R_MT "GateStack$ModuleText" "ends" "[I", .laysFinal R_MT "GateStack$ModuleText" "begins" "[I", .laysFinal R_MT "GateStack$ModuleText" "calls" "[I", .lays R_MT "GateStack$ModuleText" "length" "I", .lays R_MT "GateStack$ModuleText" "defined" "I", .lays R_MT "GateStack$ModuleText" "twins" "Z", .lays R_MT "GateStack$ModuleText" "compiled" "Z", .arrayClass .int, .classLink R_GS 16 "GateStack$Reader", .instantiable R_RD 8, .instanceMethod y_RD_init, .code y_RD_init prog_6_method_1_code 1 none, .methodLink R_RD 3 objectInit, .fieldLink R_RD 9 "GateStack$Reader" "open" "[I", .fieldLink R_RD 20 "GateStack$Reader" "depth" "I", .fieldLink R_RD 24 "GateStack$Reader" "expected" "I", .fieldLink R_RD 42 "GateStack$Reader" "head" "I", .fieldLink R_RD 97 "GateStack$Reader" "expressionEnd" "I", .fieldLink R_RD 112 "GateStack$Reader" "digits" "I", .fieldLink R_RD 75 "GateStack$Reader" "procedure" "I", .fieldLink R_RD 78 "GateStack$Reader" "statements" "I", .laysFinal R_RD "GateStack$Reader" "open" "[I", .lays R_RD "GateStack$Reader" "depth" "I", .lays R_RD "GateStack$Reader" "expected" "I", .lays R_RD "GateStack$Reader" "head" "I"]
def allW_1 : List Cond := [.lays R_RD "GateStack$Reader" "expressionEnd" "I", .lays R_RD "GateStack$Reader" "digits" "I", .lays R_RD "GateStack$Reader" "procedure" "I", .lays R_RD "GateStack$Reader" "statements" "I", .classLink R_GS 23 "GateStack$Program", .instantiable R_PR 3, .instanceMethod y_PR_init, .code y_PR_init prog_5_method_1_code 1 none, .methodLink R_PR 3 objectInit, .classLink R_PR 9 "GateStack$ModuleText", .fieldLink R_PR 11 "GateStack$Program" "homes" "[LGateStack$ModuleText;", .fieldLink R_PR 17 "GateStack$Program" "reached" "[I", .fieldLink R_PR 24 "GateStack$Program" "defined" "I", .laysFinal R_PR "GateStack$Program" "homes" "[LGateStack$ModuleText;", .laysFinal R_PR "GateStack$Program" "reached" "[I", .lays R_PR "GateStack$Program" "defined" "I", .classLink R_GS 30 "GateStack$Calculator", .instantiable R_CA 2, .instanceMethod y_CA_init, .code y_CA_init prog_2_method_1_code 1 none, .methodLink R_CA 3 objectInit, .fieldLink R_CA 9 "GateStack$Calculator" "variables" "[I", .fieldLink R_CA 19 "GateStack$Calculator" "cursor" "I", .laysFinal R_CA "GateStack$Calculator" "variables" "[I", .lays R_CA "GateStack$Calculator" "cursor" "I", .classLink R_GS 37 "GateStack$Machine", .instantiable R_MA 5, .instanceMethod y_MA_init, .code y_MA_init prog_3_method_1_code 1 none, .methodLink R_MA 3 objectInit, .fieldLink R_MA 9 "GateStack$Machine" "letters" "[I", .fieldLink R_MA 15 "GateStack$Machine" "places" "[I", .fieldLink R_MA 18 "GateStack$Machine" "outputs" "[I", .fieldLink R_MA 21 "GateStack$Machine" "depth" "I", .fieldLink R_MA 25 "GateStack$Machine" "outputCount" "I", .laysFinal R_MA "GateStack$Machine" "letters" "[I", .laysFinal R_MA "GateStack$Machine" "places" "[I", .laysFinal R_MA "GateStack$Machine" "outputs" "[I", .lays R_MA "GateStack$Machine" "depth" "I", .lays R_MA "GateStack$Machine" "outputCount" "I", .fieldLink R_GS 11 "GateStack" "modules" "[LGateStack$ModuleText;", .fieldLink R_GS 19 "GateStack" "reader" "LGateStack$Reader;", .fieldLink R_GS 26 "GateStack" "program" "LGateStack$Program;", .fieldLink R_GS 33 "GateStack" "calculator" "LGateStack$Calculator;", .fieldLink R_GS 40 "GateStack" "machine" "LGateStack$Machine;", .fieldLink R_GS 44 "GateStack" "linked" "Z", .laysFinal R_GS "GateStack" "modules" "[LGateStack$ModuleText;", .laysFinal R_GS "GateStack" "reader" "LGateStack$Reader;", .laysFinal R_GS "GateStack" "program" "LGateStack$Program;", .laysFinal R_GS "GateStack" "calculator" "LGateStack$Calculator;", .laysFinal R_GS "GateStack" "machine" "LGateStack$Machine;", .lays R_GS "GateStack" "linked" "Z", .methodLink "GateStackLaw" 13 y_GS_sign, .instanceMethod y_GS_sign, .selects R_GS y_GS_sign y_GS_sign, .code y_GS_sign prog_1_method_2_code 3 (some .int), .methodLink R_GS 48 y_GS_isModule, .static y_GS_isModule, .code y_GS_isModule prog_1_method_17_code 1 (some .boolean), .methodLink R_GS 52 y_MT_append]
def allW_2 : List Cond := [.instanceMethod y_MT_append, .selects R_MT y_MT_append y_MT_append, .code y_MT_append prog_4_method_2_code 2 (some .boolean), .methodLink R_GS 55 y_GS_loosen, .instanceMethod y_GS_loosen, .code y_GS_loosen prog_1_method_16_code 1 none, .methodLink R_GS 104 y_MA_halt, .instanceMethod y_MA_halt, .selects R_MA y_MA_halt y_MA_halt, .code y_MA_halt prog_3_method_9_code 1 none, .methodLink R_GS 58 y_MT_length, .instanceMethod y_MT_length, .selects R_MT y_MT_length y_MT_length, .code y_MT_length prog_4_method_10_code 1 (some .int), .methodLink "GateStackLaw" 18 y_GS_clear, .instanceMethod y_GS_clear, .selects R_GS y_GS_clear y_GS_clear, .code y_GS_clear prog_1_method_3_code 2 (some .int), .methodLink R_GS 62 y_MT_empty, .instanceMethod y_MT_empty, .selects R_MT y_MT_empty y_MT_empty, .code y_MT_empty prog_4_method_3_code 1 none, .methodLink R_MT 38 y_MT_forget, .instanceMethod y_MT_forget, .selects R_MT y_MT_forget y_MT_forget, .code y_MT_forget prog_4_method_4_code 1 none, .methodLink "GateStackLaw" 23 y_GS_compile, .instanceMethod y_GS_compile, .selects R_GS y_GS_compile y_GS_compile, .code y_GS_compile prog_1_method_4_code 4 (some .int), .methodLink R_GS 65 y_RD_faultOf, .instanceMethod y_RD_faultOf, .selects R_RD y_RD_faultOf y_RD_faultOf, .code y_RD_faultOf prog_6_method_2_code 4 (some .int), .methodLink R_RD 15 y_MT_forget, .methodLink R_RD 27 y_MT_length, .methodLink R_RD 31 y_RD_takes, .instanceMethod y_RD_takes, .code y_RD_takes prog_6_method_3_code 4 (some .boolean), .methodLink R_RD 35 y_MT_signAt, .instanceMethod y_MT_signAt, .selects R_MT y_MT_signAt y_MT_signAt, .code y_MT_signAt prog_4_method_14_code 2 (some .int), .methodLink R_RD 39 y_RD_takesProcedure, .instanceMethod y_RD_takesProcedure, .code y_RD_takesProcedure prog_6_method_4_code 4 (some .boolean), .static y_GS_isLetter, .code y_GS_isLetter prog_1_method_20_code 1 (some .boolean), .methodLink R_RD 81 y_MT_addProcedure, .instanceMethod y_MT_addProcedure, .selects R_MT y_MT_addProcedure y_MT_addProcedure, .code y_MT_addProcedure prog_4_method_6_code 3 none, .static y_GS_isLetterNumber, .code y_GS_isLetterNumber prog_1_method_19_code 1 (some .boolean), .static y_GS_hasBit, .code y_GS_hasBit prog_1_method_24_code 2 (some .boolean), .methodLink R_RD 52 y_RD_begins, .instanceMethod y_RD_begins, .code y_RD_begins prog_6_method_14_code 3 (some .boolean), .methodLink R_RD 55 y_RD_expects]
def allW_3 : List Cond := [.instanceMethod y_RD_expects, .code y_RD_expects prog_6_method_15_code 2 (some .boolean), .methodLink R_RD 45 y_RD_opens, .instanceMethod y_RD_opens, .code y_RD_opens prog_6_method_13_code 3 (some .boolean), .methodLink R_RD 49 y_RD_takesStatement, .instanceMethod y_RD_takesStatement, .code y_RD_takesStatement prog_6_method_5_code 5 (some .boolean), .methodLink R_RD 85 y_RD_closesBlock, .instanceMethod y_RD_closesBlock, .code y_RD_closesBlock prog_6_method_7_code 5 (some .boolean), .methodLink R_RD 103 y_MT_addBlock, .instanceMethod y_MT_addBlock, .selects R_MT y_MT_addBlock y_MT_addBlock, .code y_MT_addBlock prog_4_method_9_code 3 none, .methodLink R_MT 55 y_MT_isPlace, .instanceMethod y_MT_isPlace, .code y_MT_isPlace prog_4_method_22_code 2 (some .boolean), .methodLink R_RD 88 y_RD_behindFirstSign, .static y_RD_behindFirstSign, .code y_RD_behindFirstSign prog_6_method_6_code 1 (some .int), .static y_GS_isVariable, .code y_GS_isVariable prog_1_method_21_code 1 (some .boolean), .methodLink R_RD 91 y_MT_addCall, .instanceMethod y_MT_addCall, .selects R_MT y_MT_addCall y_MT_addCall, .code y_MT_addCall prog_4_method_7_code 3 none, .methodLink R_RD 94 y_MT_addStatement, .instanceMethod y_MT_addStatement, .selects R_MT y_MT_addStatement y_MT_addStatement, .code y_MT_addStatement prog_4_method_8_code 3 none, .methodLink R_RD 59 y_RD_takesOperand, .instanceMethod y_RD_takesOperand, .code y_RD_takesOperand prog_6_method_8_code 4 (some .boolean), .static y_GS_isPrefix, .code y_GS_isPrefix prog_1_method_23_code 1 (some .boolean), .methodLink R_RD 109 y_RD_endsOperand, .instanceMethod y_RD_endsOperand, .code y_RD_endsOperand prog_6_method_11_code 3 (some .boolean), .methodLink R_RD 118 y_RD_lastOpen, .instanceMethod y_RD_lastOpen, .code y_RD_lastOpen prog_6_method_12_code 2 (some .int), .static y_GS_isDigit, .code y_GS_isDigit prog_1_method_22_code 1 (some .boolean), .methodLink R_RD 65 y_RD_takesDigit, .instanceMethod y_RD_takesDigit, .code y_RD_takesDigit prog_6_method_9_code 1 (some .boolean), .methodLink R_RD 69 y_RD_takesOperator, .instanceMethod y_RD_takesOperator, .code y_RD_takesOperator prog_6_method_10_code 5 (some .boolean), .static y_GS_operationOf, .code y_GS_operationOf prog_1_method_25_code 1 (some .int), .methodLink R_GS 69 y_MT_hasTwins, .instanceMethod y_MT_hasTwins, .selects R_MT y_MT_hasTwins y_MT_hasTwins, .code y_MT_hasTwins prog_4_method_12_code 1 (some .boolean), .methodLink R_GS 73 y_MT_mark, .instanceMethod y_MT_mark, .selects R_MT y_MT_mark y_MT_mark, .code y_MT_mark prog_4_method_5_code 2 none]
def allW_4 : List Cond := [.methodLink R_GS 77 y_MT_defined, .instanceMethod y_MT_defined, .selects R_MT y_MT_defined y_MT_defined, .code y_MT_defined prog_4_method_11_code 1 (some .int), .methodLink R_GS 80 y_JI_bitCount, .static y_JI_bitCount, .code y_JI_bitCount prog_9_method_49_code 1 (some .int), .constant R_JI 265 1431655765, .constant R_JI 266 858993459, .constant R_JI 267 252645135, .methodLink "GateStackLaw" 27 y_GS_fault, .instanceMethod y_GS_fault, .selects R_GS y_GS_fault y_GS_fault, .code y_GS_fault prog_1_method_5_code 2 (some .int), .methodLink "GateStackLaw" 31 y_GS_link, .instanceMethod y_GS_link, .selects R_GS y_GS_link y_GS_link, .code y_GS_link prog_1_method_6_code 2 (some .int), .methodLink R_GS 86 y_MT_isCompiled, .instanceMethod y_MT_isCompiled, .selects R_MT y_MT_isCompiled y_MT_isCompiled, .code y_MT_isCompiled prog_4_method_13_code 1 (some .boolean), .methodLink R_GS 89 y_PR_join, .instanceMethod y_PR_join, .selects R_PR y_PR_join y_PR_join, .code y_PR_join prog_5_method_2_code 3 (some .int), .methodLink R_PR 21 y_PR_forget, .instanceMethod y_PR_forget, .code y_PR_forget prog_5_method_4_code 2 none, .methodLink R_PR 28 y_MT_defined, .methodLink R_PR 31 y_PR_takeOver, .instanceMethod y_PR_takeOver, .code y_PR_takeOver prog_5_method_5_code 3 none, .methodLink R_PR 59 y_MT_callsOf, .instanceMethod y_MT_callsOf, .selects R_MT y_MT_callsOf y_MT_callsOf, .code y_MT_callsOf prog_4_method_16_code 2 (some .int), .methodLink R_PR 35 y_PR_lacksOne, .instanceMethod y_PR_lacksOne, .code y_PR_lacksOne prog_5_method_6_code 3 (some .boolean), .methodLink R_PR 39 y_PR_followChains, .instanceMethod y_PR_followChains, .code y_PR_followChains prog_5_method_7_code 3 none, .methodLink R_PR 42 y_PR_hasCircle, .instanceMethod y_PR_hasCircle, .code y_PR_hasCircle prog_5_method_8_code 2 (some .boolean), .methodLink R_PR 45 y_JI_bitCount, .methodLink "GateStackLaw" 36 y_GS_start, .instanceMethod y_GS_start, .selects R_GS y_GS_start y_GS_start, .code y_GS_start prog_1_method_7_code 1 (some .int), .methodLink R_GS 93 y_MA_isGoing, .instanceMethod y_MA_isGoing, .selects R_MA y_MA_isGoing y_MA_isGoing, .code y_MA_isGoing prog_3_method_2_code 1 (some .boolean), .methodLink R_GS 96 y_MA_begin, .instanceMethod y_MA_begin, .selects R_MA y_MA_begin y_MA_begin, .code y_MA_begin prog_3_method_10_code 2 none, .methodLink R_MA 42 y_MA_enter]
def allW_5 : List Cond := [.instanceMethod y_MA_enter, .code y_MA_enter prog_3_method_13_code 4 none, .methodLink R_MA 60 y_PR_homeOf, .instanceMethod y_PR_homeOf, .selects R_PR y_PR_homeOf y_PR_homeOf, .code y_PR_homeOf prog_5_method_3_code 2 (some (.object "GateStack$ModuleText")), .methodLink R_MA 66 y_MT_firstPlaceOf, .instanceMethod y_MT_firstPlaceOf, .selects R_MT y_MT_firstPlaceOf y_MT_firstPlaceOf, .code y_MT_firstPlaceOf prog_4_method_17_code 2 (some .int), .methodLink R_MA 46 y_MA_leaveEndedBlocks, .instanceMethod y_MA_leaveEndedBlocks, .code y_MA_leaveEndedBlocks prog_3_method_16_code 5 none, .methodLink R_MA 32 y_MA_currentText, .instanceMethod y_MA_currentText, .code y_MA_currentText prog_3_method_12_code 2 (some (.object "GateStack$ModuleText")), .methodLink R_MA 50 y_MT_signAt, .methodLink R_MA 93 y_MT_endsProcedure, .instanceMethod y_MT_endsProcedure, .selects R_MT y_MT_endsProcedure y_MT_endsProcedure, .code y_MT_endsProcedure prog_4_method_18_code 2 (some .boolean), .methodLink R_MT 58 y_MT_signAt, .methodLink R_MA 96 y_MT_behindBlock, .instanceMethod y_MT_behindBlock, .selects R_MT y_MT_behindBlock y_MT_behindBlock, .code y_MT_behindBlock prog_4_method_19_code 3 (some .int), .methodLink R_MT 65 y_MT_behindEndOf, .instanceMethod y_MT_behindEndOf, .code y_MT_behindEndOf prog_4_method_21_code 2 (some .int), .methodLink "GateStackLaw" 40 y_GS_run, .instanceMethod y_GS_run, .selects R_GS y_GS_run y_GS_run, .code y_GS_run prog_1_method_8_code 3 (some .int), .methodLink R_GS 100 y_MA_step, .instanceMethod y_MA_step, .selects R_MA y_MA_step y_MA_step, .code y_MA_step prog_3_method_11_code 7 none, .methodLink R_MA 56 y_MA_placeBehind, .instanceMethod y_MA_placeBehind, .code y_MA_placeBehind prog_3_method_14_code 8 (some .int), .methodLink R_MA 72 y_CA_valueAt, .instanceMethod y_CA_valueAt, .selects R_CA y_CA_valueAt y_CA_valueAt, .code y_CA_valueAt prog_2_method_4_code 3 (some .int), .methodLink R_CA 23 y_CA_expression, .instanceMethod y_CA_expression, .code y_CA_expression prog_2_method_6_code 6 (some .int), .methodLink R_CA 27 y_CA_operand, .instanceMethod y_CA_operand, .code y_CA_operand prog_2_method_7_code 5 (some .int), .methodLink R_CA 30 y_MT_signAt, .methodLink R_CA 46 y_CA_number, .instanceMethod y_CA_number, .code y_CA_number prog_2_method_8_code 4 (some .int), .static y_GS_worked, .code y_GS_worked prog_1_method_26_code 3 (some .int), .methodLink R_MA 78 y_CA_cursor, .instanceMethod y_CA_cursor, .selects R_CA y_CA_cursor y_CA_cursor, .code y_CA_cursor prog_2_method_5_code 1 (some .int)]
def allW_6 : List Cond := [.methodLink R_MA 82 y_CA_assign, .instanceMethod y_CA_assign, .selects R_CA y_CA_assign y_CA_assign, .code y_CA_assign prog_2_method_2_code 3 (some .boolean), .static y_GS_isVariableNumber, .code y_GS_isVariableNumber prog_1_method_18_code 1 (some .boolean), .methodLink R_MA 86 y_MA_keep, .instanceMethod y_MA_keep, .code y_MA_keep prog_3_method_15_code 2 none, .methodLink R_MA 90 y_MT_placeIfZero, .instanceMethod y_MT_placeIfZero, .selects R_MT y_MT_placeIfZero y_MT_placeIfZero, .code y_MT_placeIfZero prog_4_method_20_code 3 (some .int), .methodLink "GateStackLaw" 44 y_GS_stop, .instanceMethod y_GS_stop, .selects R_GS y_GS_stop y_GS_stop, .code y_GS_stop prog_1_method_9_code 1 (some .int), .methodLink "GateStackLaw" 48 y_GS_set, .instanceMethod y_GS_set, .selects R_GS y_GS_set y_GS_set, .code y_GS_set prog_1_method_10_code 3 (some .int), .methodLink R_GS 107 y_CA_assign, .methodLink "GateStackLaw" 52 y_GS_get, .instanceMethod y_GS_get, .selects R_GS y_GS_get y_GS_get, .code y_GS_get prog_1_method_11_code 2 (some .long), .methodLink R_GS 111 y_GS_isVariableNumber, .methodLink R_GS 114 y_CA_variable, .instanceMethod y_CA_variable, .selects R_CA y_CA_variable y_CA_variable, .code y_CA_variable prog_2_method_3_code 2 (some .int), .constantLong R_GS 117 (-1000000000000), .methodLink "GateStackLaw" 57 y_GS_output, .instanceMethod y_GS_output, .selects R_GS y_GS_output y_GS_output, .code y_GS_output prog_1_method_12_code 2 (some .long), .methodLink R_GS 119 y_MA_hasKept, .instanceMethod y_MA_hasKept, .selects R_MA y_MA_hasKept y_MA_hasKept, .code y_MA_hasKept prog_3_method_5_code 2 (some .boolean), .methodLink R_GS 122 y_MA_kept, .instanceMethod y_MA_kept, .selects R_MA y_MA_kept y_MA_kept, .code y_MA_kept prog_3_method_6_code 2 (some .int), .methodLink R_MA 28 y_MA_hasKept, .methodLink "GateStackLaw" 61 y_GS_at, .instanceMethod y_GS_at, .selects R_GS y_GS_at y_GS_at, .code y_GS_at prog_1_method_13_code 2 (some .int), .methodLink R_GS 125 y_MA_letterCode, .instanceMethod y_MA_letterCode, .selects R_MA y_MA_letterCode y_MA_letterCode, .code y_MA_letterCode prog_3_method_7_code 1 (some .int), .methodLink R_GS 128 y_MA_statementNumber, .instanceMethod y_MA_statementNumber, .selects R_MA y_MA_statementNumber y_MA_statementNumber, .code y_MA_statementNumber prog_3_method_8_code 3 (some .int), .methodLink R_MA 36 y_MT_numberAt, .instanceMethod y_MT_numberAt, .selects R_MT y_MT_numberAt y_MT_numberAt]
def allW_7 : List Cond := [.code y_MT_numberAt prog_4_method_15_code 2 (some .int), .methodLink R_GS 132 y_MA_depth, .instanceMethod y_MA_depth, .selects R_MA y_MA_depth y_MA_depth, .code y_MA_depth prog_3_method_3_code 1 (some .int), .methodLink R_GS 135 y_MA_outputCount, .instanceMethod y_MA_outputCount, .selects R_MA y_MA_outputCount y_MA_outputCount, .code y_MA_outputCount prog_3_method_4_code 1 (some .int), .methodLink "GateStackLaw" 65 y_GS_operate, .instanceMethod y_GS_operate, .selects R_GS y_GS_operate y_GS_operate, .code y_GS_operate prog_1_method_14_code 4 (some .long), .methodLink R_GS 138 y_GS_worked, .methodLink "GateStackLaw" 70 y_GS_state, .instanceMethod y_GS_state, .selects R_GS y_GS_state y_GS_state, .code y_GS_state prog_1_method_15_code 3 (some .int), .classLink "GateStackLaw" 10 "GateStackModel", .instantiable R_GM 30, .methodLink "GateStackLaw" 12 y_GM_init, .instanceMethod y_GM_init, .code y_GM_init prog_8_method_1_code 2 none, .methodLink R_GM 1 objectInit, .fieldLink R_GM 7 "GateStackModel" "text" "[I", .fieldLink R_GM 13 "GateStackModel" "length" "[I", .fieldLink R_GM 16 "GateStackModel" "compiled" "[Z", .fieldLink R_GM 66 "GateStackModel" "linked" "Z", .fieldLink R_GM 20 "GateStackModel" "open" "[I", .fieldLink R_GM 80 "GateStackModel" "opened" "I", .fieldLink R_GM 84 "GateStackModel" "state" "I", .fieldLink R_GM 90 "GateStackModel" "kind" "I", .fieldLink R_GM 104 "GateStackModel" "digits" "I", .fieldLink R_GM 87 "GateStackModel" "second" "Z", .fieldLink R_GM 23 "GateStackModel" "partner" "[I", .fieldLink R_GM 26 "GateStackModel" "owner" "[I", .fieldLink R_GM 29 "GateStackModel" "kindAt" "[I", .fieldLink R_GM 32 "GateStackModel" "numberAt" "[I", .fieldLink R_GM 35 "GateStackModel" "letterAt" "[I", .fieldLink R_GM 38 "GateStackModel" "body" "[I", .fieldLink R_GM 41 "GateStackModel" "calls" "[I", .fieldLink R_GM 44 "GateStackModel" "variable" "[I", .fieldLink R_GM 47 "GateStackModel" "outputs" "[J", .fieldLink R_GM 159 "GateStackModel" "outputCount" "I", .fieldLink R_GM 70 "GateStackModel" "going" "Z", .fieldLink R_GM 153 "GateStackModel" "place" "I", .fieldLink R_GM 51 "GateStackModel" "behind" "[I", .fieldLink R_GM 156 "GateStackModel" "depth" "I", .fieldLink R_GM 54 "GateStackModel" "value" "[I", .fieldLink R_GM 57 "GateStackModel" "operator" "[I", .fieldLink R_GM 60 "GateStackModel" "base" "[I", .fieldLink R_GM 63 "GateStackModel" "before" "[I", .fieldLink R_GM 139 "GateStackModel" "signs" "I", .fieldLink R_GM 150 "GateStackModel" "end" "I", .laysFinal R_GM "GateStackModel" "text" "[I", .laysFinal R_GM "GateStackModel" "length" "[I", .laysFinal R_GM "GateStackModel" "compiled" "[Z", .lays R_GM "GateStackModel" "linked" "Z", .laysFinal R_GM "GateStackModel" "open" "[I", .lays R_GM "GateStackModel" "opened" "I"]
def allW_8 : List Cond := [.lays R_GM "GateStackModel" "state" "I", .lays R_GM "GateStackModel" "kind" "I", .lays R_GM "GateStackModel" "digits" "I", .lays R_GM "GateStackModel" "second" "Z", .laysFinal R_GM "GateStackModel" "partner" "[I", .laysFinal R_GM "GateStackModel" "owner" "[I", .laysFinal R_GM "GateStackModel" "kindAt" "[I", .laysFinal R_GM "GateStackModel" "numberAt" "[I", .laysFinal R_GM "GateStackModel" "letterAt" "[I", .laysFinal R_GM "GateStackModel" "body" "[I", .laysFinal R_GM "GateStackModel" "calls" "[I", .laysFinal R_GM "GateStackModel" "variable" "[I", .laysFinal R_GM "GateStackModel" "outputs" "[J", .lays R_GM "GateStackModel" "outputCount" "I", .lays R_GM "GateStackModel" "going" "Z", .lays R_GM "GateStackModel" "place" "I", .laysFinal R_GM "GateStackModel" "behind" "[I", .lays R_GM "GateStackModel" "depth" "I", .laysFinal R_GM "GateStackModel" "value" "[I", .laysFinal R_GM "GateStackModel" "operator" "[I", .laysFinal R_GM "GateStackModel" "base" "[I", .laysFinal R_GM "GateStackModel" "before" "[I", .lays R_GM "GateStackModel" "signs" "I", .lays R_GM "GateStackModel" "end" "I", .arrayClass .boolean, .arrayClass .long, .methodLink "GateStackLaw" 17 y_GM_sign, .instanceMethod y_GM_sign, .selects R_GM y_GM_sign y_GM_sign, .code y_GM_sign prog_8_method_4_code 3 (some .int), .methodLink R_GM 73 y_GM_in, .static y_GM_in, .code y_GM_in prog_8_method_2_code 3 (some .boolean), .methodLink R_GM 77 y_GM_unlink, .instanceMethod y_GM_unlink, .code y_GM_unlink prog_8_method_3_code 1 none, .methodLink "GateStackLaw" 22 y_GM_clear, .instanceMethod y_GM_clear, .selects R_GM y_GM_clear y_GM_clear, .code y_GM_clear prog_8_method_5_code 2 (some .int), .methodLink "GateStackLaw" 30 y_GM_fault, .instanceMethod y_GM_fault, .selects R_GM y_GM_fault y_GM_fault, .code y_GM_fault prog_8_method_15_code 3 (some .int), .methodLink R_GM 122 y_GM_stands, .instanceMethod y_GM_stands, .code y_GM_stands prog_8_method_14_code 3 (some .boolean), .methodLink R_GM 93 y_GM_isLetter, .static y_GM_isLetter, .code y_GM_isLetter prog_8_method_7_code 1 (some .boolean), .methodLink R_GM 100 y_GM_push, .instanceMethod y_GM_push, .code y_GM_push prog_8_method_9_code 3 (some .boolean), .methodLink R_GM 113 y_GM_atStatement, .instanceMethod y_GM_atStatement, .code y_GM_atStatement prog_8_method_11_code 3 (some .boolean), .methodLink R_GM 97 y_GM_isVariable, .static y_GM_isVariable, .code y_GM_isVariable prog_8_method_6_code 1 (some .boolean), .methodLink R_GM 116 y_GM_atOperand]
def allW_9 : List Cond := [.instanceMethod y_GM_atOperand, .code y_GM_atOperand prog_8_method_12_code 3 (some .boolean), .methodLink R_GM 107 y_GM_operandEnds, .instanceMethod y_GM_operandEnds, .code y_GM_operandEnds prog_8_method_10_code 1 none, .methodLink R_GM 119 y_GM_afterOperand, .instanceMethod y_GM_afterOperand, .code y_GM_afterOperand prog_8_method_13_code 3 (some .boolean), .methodLink R_GM 110 y_GM_isOperator, .static y_GM_isOperator, .code y_GM_isOperator prog_8_method_8_code 1 (some .boolean), .methodLink "GateStackLaw" 26 y_GM_compile, .instanceMethod y_GM_compile, .selects R_GM y_GM_compile y_GM_compile, .code y_GM_compile prog_8_method_18_code 2 (some .int), .methodLink R_GM 125 y_GM_fault, .methodLink R_GM 129 y_GM_twice, .instanceMethod y_GM_twice, .code y_GM_twice prog_8_method_17_code 6 (some .boolean), .methodLink R_GM 132 y_GM_map, .instanceMethod y_GM_map, .code y_GM_map prog_8_method_16_code 11 (some .int), .methodLink "GateStackLaw" 35 y_GM_link, .instanceMethod y_GM_link, .selects R_GM y_GM_link y_GM_link, .code y_GM_link prog_8_method_20_code 7 (some .int), .methodLink R_GM 135 y_GM_gather, .instanceMethod y_GM_gather, .code y_GM_gather prog_8_method_19_code 7 (some .boolean), .methodLink "GateStackLaw" 39 y_GM_start, .instanceMethod y_GM_start, .selects R_GM y_GM_start y_GM_start, .code y_GM_start prog_8_method_25_code 1 (some .int), .methodLink R_GM 162 y_GM_settle, .instanceMethod y_GM_settle, .code y_GM_settle prog_8_method_24_code 3 none, .methodLink "GateStackLaw" 43 y_GM_run, .instanceMethod y_GM_run, .selects R_GM y_GM_run y_GM_run, .code y_GM_run prog_8_method_28_code 3 (some .int), .methodLink R_GM 172 y_GM_step, .instanceMethod y_GM_step, .code y_GM_step prog_8_method_27_code 3 none, .methodLink R_GM 168 y_GM_branch, .instanceMethod y_GM_branch, .code y_GM_branch prog_8_method_26_code 5 none, .methodLink R_GM 165 y_GM_work, .instanceMethod y_GM_work, .code y_GM_work prog_8_method_23_code 7 (some .int), .methodLink R_GM 146 y_GM_operand, .instanceMethod y_GM_operand, .code y_GM_operand prog_8_method_22_code 4 none, .methodLink R_GM 142 y_GM_apply, .static y_GM_apply, .code y_GM_apply prog_8_method_21_code 3 (some .int), .methodLink "GateStackLaw" 47 y_GM_stop, .instanceMethod y_GM_stop, .selects R_GM y_GM_stop y_GM_stop, .code y_GM_stop prog_8_method_29_code 1 (some .int), .methodLink "GateStackLaw" 51 y_GM_set]
def allW_10 : List Cond := [.instanceMethod y_GM_set, .selects R_GM y_GM_set y_GM_set, .code y_GM_set prog_8_method_30_code 3 (some .int), .methodLink "GateStackLaw" 56 y_GM_get, .instanceMethod y_GM_get, .selects R_GM y_GM_get y_GM_get, .code y_GM_get prog_8_method_31_code 2 (some .long), .constantLong R_GM 175 (-1000000000000), .methodLink "GateStackLaw" 60 y_GM_output, .instanceMethod y_GM_output, .selects R_GM y_GM_output y_GM_output, .code y_GM_output prog_8_method_32_code 2 (some .long), .methodLink "GateStackLaw" 64 y_GM_at, .instanceMethod y_GM_at, .selects R_GM y_GM_at y_GM_at, .code y_GM_at prog_8_method_33_code 2 (some .int), .methodLink "GateStackLaw" 69 y_GM_operate, .instanceMethod y_GM_operate, .selects R_GM y_GM_operate y_GM_operate, .code y_GM_operate prog_8_method_34_code 5 (some .long), .methodLink "GateStackLaw" 73 y_GM_state, .instanceMethod y_GM_state, .selects R_GM y_GM_state y_GM_state, .code y_GM_state prog_8_method_35_code 3 (some .int), .selects R_GS y_GS_loosen y_GS_loosen, .selects R_RD y_RD_takes y_RD_takes, .selects R_RD y_RD_takesProcedure y_RD_takesProcedure, .selects R_RD y_RD_begins y_RD_begins, .selects R_RD y_RD_expects y_RD_expects, .selects R_RD y_RD_opens y_RD_opens, .selects R_RD y_RD_takesStatement y_RD_takesStatement, .selects R_RD y_RD_closesBlock y_RD_closesBlock, .selects R_MT y_MT_isPlace y_MT_isPlace, .selects R_RD y_RD_takesOperand y_RD_takesOperand, .selects R_RD y_RD_endsOperand y_RD_endsOperand, .selects R_RD y_RD_lastOpen y_RD_lastOpen, .selects R_RD y_RD_takesDigit y_RD_takesDigit, .selects R_RD y_RD_takesOperator y_RD_takesOperator, .selects R_PR y_PR_forget y_PR_forget, .selects R_PR y_PR_takeOver y_PR_takeOver, .selects R_PR y_PR_lacksOne y_PR_lacksOne, .selects R_PR y_PR_followChains y_PR_followChains, .selects R_PR y_PR_hasCircle y_PR_hasCircle, .selects R_MA y_MA_enter y_MA_enter, .selects R_MA y_MA_leaveEndedBlocks y_MA_leaveEndedBlocks, .selects R_MA y_MA_currentText y_MA_currentText, .selects R_MT y_MT_behindEndOf y_MT_behindEndOf, .selects R_MA y_MA_placeBehind y_MA_placeBehind, .selects R_CA y_CA_expression y_CA_expression, .selects R_CA y_CA_operand y_CA_operand, .selects R_CA y_CA_number y_CA_number, .selects R_MA y_MA_keep y_MA_keep, .selects R_GM y_GM_unlink y_GM_unlink, .selects R_GM y_GM_stands y_GM_stands, .selects R_GM y_GM_push y_GM_push, .selects R_GM y_GM_atStatement y_GM_atStatement, .selects R_GM y_GM_atOperand y_GM_atOperand, .selects R_GM y_GM_operandEnds y_GM_operandEnds, .selects R_GM y_GM_afterOperand y_GM_afterOperand, .selects R_GM y_GM_twice y_GM_twice]
def allW_11 : List Cond := [.selects R_GM y_GM_map y_GM_map, .selects R_GM y_GM_gather y_GM_gather, .selects R_GM y_GM_settle y_GM_settle, .selects R_GM y_GM_step y_GM_step, .selects R_GM y_GM_branch y_GM_branch, .selects R_GM y_GM_work y_GM_work, .selects R_GM y_GM_operand y_GM_operand]
def allW : List Cond := allW_0 ++ allW_1 ++ allW_2 ++ allW_3 ++ allW_4 ++ allW_5 ++ allW_6 ++ allW_7 ++ allW_8 ++ allW_9 ++ allW_10 ++ allW_11
theorem kw0 : (Cond.initialized "GateStackLaw" : Cond) ∈ allW := (List.mem_append_left _ (List.mem_append_left _ (List.mem_append_left _ (List.mem_append_left _ (List.mem_append_left _ (List.mem_append_left _ (List.mem_append_left _ (List.mem_append_left _ (List.mem_append_left _ (List.mem_append_left _ (List.mem_append_left _ (List.mem_of_getElem? (i := 0) (l := allW_0) rfl))))))))))))
theorem kw1 : (Cond.initialized R_GS : Cond) ∈ allW := (List.mem_append_left _ (List.mem_append_left _ (List.mem_append_left _ (List.mem_append_left _ (List.mem_append_left _ (List.mem_append_left _ (List.mem_append_left _ (List.mem_append_left _ (List.mem_append_left _ (List.mem_append_left _ (List.mem_append_left _ (List.mem_of_getElem? (i := 1) (l := allW_0) rfl))))))))))))
theorem kw2 : (Cond.initialized R_MT : Cond) ∈ allW := (List.mem_append_left _ (List.mem_append_left _ (List.mem_append_left _ (List.mem_append_left _ (List.mem_append_left _ (List.mem_append_left _ (List.mem_append_left _ (List.mem_append_left _ (List.mem_append_left _ (List.mem_append_left _ (List.mem_append_left _ (List.mem_of_getElem? (i := 2) (l := allW_0) rfl))))))))))))
theorem kw3 : (Cond.initialized R_RD : Cond) ∈ allW := (List.mem_append_left _ (List.mem_append_left _ (List.mem_append_left _ (List.mem_append_left _ (List.mem_append_left _ (List.mem_append_left _ (List.mem_append_left _ (List.mem_append_left _ (List.mem_append_left _ (List.mem_append_left _ (List.mem_append_left _ (List.mem_of_getElem? (i := 3) (l := allW_0) rfl))))))))))))
theorem kw4 : (Cond.initialized R_PR : Cond) ∈ allW := (List.mem_append_left _ (List.mem_append_left _ (List.mem_append_left _ (List.mem_append_left _ (List.mem_append_left _ (List.mem_append_left _ (List.mem_append_left _ (List.mem_append_left _ (List.mem_append_left _ (List.mem_append_left _ (List.mem_append_left _ (List.mem_of_getElem? (i := 4) (l := allW_0) rfl))))))))))))
theorem kw5 : (Cond.initialized R_CA : Cond) ∈ allW := (List.mem_append_left _ (List.mem_append_left _ (List.mem_append_left _ (List.mem_append_left _ (List.mem_append_left _ (List.mem_append_left _ (List.mem_append_left _ (List.mem_append_left _ (List.mem_append_left _ (List.mem_append_left _ (List.mem_append_left _ (List.mem_of_getElem? (i := 5) (l := allW_0) rfl))))))))))))
theorem kw6 : (Cond.initialized R_MA : Cond) ∈ allW := (List.mem_append_left _ (List.mem_append_left _ (List.mem_append_left _ (List.mem_append_left _ (List.mem_append_left _ (List.mem_append_left _ (List.mem_append_left _ (List.mem_append_left _ (List.mem_append_left _ (List.mem_append_left _ (List.mem_append_left _ (List.mem_of_getElem? (i := 6) (l := allW_0) rfl))))))))))))
theorem kw7 : (Cond.initialized R_GM : Cond) ∈ allW := (List.mem_append_left _ (List.mem_append_left _ (List.mem_append_left _ (List.mem_append_left _ (List.mem_append_left _ (List.mem_append_left _ (List.mem_append_left _ (List.mem_append_left _ (List.mem_append_left _ (List.mem_append_left _ (List.mem_append_left _ (List.mem_of_getElem? (i := 7) (l := allW_0) rfl))))))))))))
theorem kw8 : (Cond.initialized R_JI : Cond) ∈ allW := (List.mem_append_left _ (List.mem_append_left _ (List.mem_append_left _ (List.mem_append_left _ (List.mem_append_left _ (List.mem_append_left _ (List.mem_append_left _ (List.mem_append_left _ (List.mem_append_left _ (List.mem_append_left _ (List.mem_append_left _ (List.mem_of_getElem? (i := 8) (l := allW_0) rfl))))))))))))
theorem kw9 : (Cond.classLink "GateStackLaw" 7 "GateStack" : Cond) ∈ allW := (List.mem_append_left _ (List.mem_append_left _ (List.mem_append_left _ (List.mem_append_left _ (List.mem_append_left _ (List.mem_append_left _ (List.mem_append_left _ (List.mem_append_left _ (List.mem_append_left _ (List.mem_append_left _ (List.mem_append_left _ (List.mem_of_getElem? (i := 9) (l := allW_0) rfl))))))))))))
theorem kw10 : (Cond.instantiable R_GS 6 : Cond) ∈ allW := (List.mem_append_left _ (List.mem_append_left _ (List.mem_append_left _ (List.mem_append_left _ (List.mem_append_left _ (List.mem_append_left _ (List.mem_append_left _ (List.mem_append_left _ (List.mem_append_left _ (List.mem_append_left _ (List.mem_append_left _ (List.mem_of_getElem? (i := 10) (l := allW_0) rfl))))))))))))
theorem kw11 : (Cond.methodLink "GateStackLaw" 9 y_GS_init : Cond) ∈ allW := (List.mem_append_left _ (List.mem_append_left _ (List.mem_append_left _ (List.mem_append_left _ (List.mem_append_left _ (List.mem_append_left _ (List.mem_append_left _ (List.mem_append_left _ (List.mem_append_left _ (List.mem_append_left _ (List.mem_append_left _ (List.mem_of_getElem? (i := 11) (l := allW_0) rfl))))))))))))
theorem kw12 : (Cond.instanceMethod y_GS_init : Cond) ∈ allW := (List.mem_append_left _ (List.mem_append_left _ (List.mem_append_left _ (List.mem_append_left _ (List.mem_append_left _ (List.mem_append_left _ (List.mem_append_left _ (List.mem_append_left _ (List.mem_append_left _ (List.mem_append_left _ (List.mem_append_left _ (List.mem_of_getElem? (i := 12) (l := allW_0) rfl))))))))))))
theorem kw13 : (Cond.code y_GS_init prog_1_method_1_code 2 none : Cond) ∈ allW := (List.mem_append_left _ (List.mem_append_left _ (List.mem_append_left _ (List.mem_append_left _ (List.mem_append_left _ (List.mem_append_left _ (List.mem_append_left _ (List.mem_append_left _ (List.mem_append_left _ (List.mem_append_left _ (List.mem_append_left _ (List.mem_of_getElem? (i := 13) (l := allW_0) rfl))))))))))))
theorem kw14 : (Cond.methodLink R_GS 1 objectInit : Cond) ∈ allW := (List.mem_append_left _ (List.mem_append_left _ (List.mem_append_left _ (List.mem_append_left _ (List.mem_append_left _ (List.mem_append_left _ (List.mem_append_left _ (List.mem_append_left _ (List.mem_append_left _ (List.mem_append_left _ (List.mem_append_left _ (List.mem_of_getElem? (i := 14) (l := allW_0) rfl))))))))))))
theorem kw15 : (Cond.instanceMethod objectInit : Cond) ∈ allW := (List.mem_append_left _ (List.mem_append_left _ (List.mem_append_left _ (List.mem_append_left _ (List.mem_append_left _ (List.mem_append_left _ (List.mem_append_left _ (List.mem_append_left _ (List.mem_append_left _ (List.mem_append_left _ (List.mem_append_left _ (List.mem_of_getElem? (i := 15) (l := allW_0) rfl))))))))))))
theorem kw16 : (Cond.code objectInit object_method_1_code 1 none : Cond) ∈ allW := (List.mem_append_left _ (List.mem_append_left _ (List.mem_append_left _ (List.mem_append_left _ (List.mem_append_left _ (List.mem_append_left _ (List.mem_append_left _ (List.mem_append_left _ (List.mem_append_left _ (List.mem_append_left _ (List.mem_append_left _ (List.mem_of_getElem? (i := 16) (l := allW_0) rfl))))))))))))
theorem kw17 : (Cond.classLink R_GS 9 "GateStack$ModuleText" : Cond) ∈ allW := (List.mem_append_left _ (List.mem_append_left _ (List.mem_append_left _ (List.mem_append_left _ (List.mem_append_left _ (List.mem_append_left _ (List.mem_append_left _ (List.mem_append_left _ (List.mem_append_left _ (List.mem_append_left _ (List.mem_append_left _ (List.mem_of_getElem? (i := 17) (l := allW_0) rfl))))))))))))
theorem kw18 : (Cond.instantiable R_MT 10 : Cond) ∈ allW := (List.mem_append_left _ (List.mem_append_left _ (List.mem_append_left _ (List.mem_append_left _ (List.mem_append_left _ (List.mem_append_left _ (List.mem_append_left _ (List.mem_append_left _ (List.mem_append_left _ (List.mem_append_left _ (List.mem_append_left _ (List.mem_of_getElem? (i := 18) (l := allW_0) rfl))))))))))))
theorem kw19 : (Cond.instanceMethod y_MT_init : Cond) ∈ allW := (List.mem_append_left _ (List.mem_append_left _ (List.mem_append_left _ (List.mem_append_left _ (List.mem_append_left _ (List.mem_append_left _ (List.mem_append_left _ (List.mem_append_left _ (List.mem_append_left _ (List.mem_append_left _ (List.mem_append_left _ (List.mem_of_getElem? (i := 19) (l := allW_0) rfl))))))))))))
theorem kw20 : (Cond.code y_MT_init prog_4_method_1_code 1 none : Cond) ∈ allW := (List.mem_append_left _ (List.mem_append_left _ (List.mem_append_left _ (List.mem_append_left _ (List.mem_append_left _ (List.mem_append_left _ (List.mem_append_left _ (List.mem_append_left _ (List.mem_append_left _ (List.mem_append_left _ (List.mem_append_left _ (List.mem_of_getElem? (i := 20) (l := allW_0) rfl))))))))))))
theorem kw21 : (Cond.methodLink R_MT 3 objectInit : Cond) ∈ allW := (List.mem_append_left _ (List.mem_append_left _ (List.mem_append_left _ (List.mem_append_left _ (List.mem_append_left _ (List.mem_append_left _ (List.mem_append_left _ (List.mem_append_left _ (List.mem_append_left _ (List.mem_append_left _ (List.mem_append_left _ (List.mem_of_getElem? (i := 21) (l := allW_0) rfl))))))))))))
theorem kw22 : (Cond.fieldLink R_MT 9 "GateStack$ModuleText" "signs" "[I" : Cond) ∈ allW := (List.mem_append_left _ (List.mem_append_left _ (List.mem_append_left _ (List.mem_append_left _ (List.mem_append_left _ (List.mem_append_left _ (List.mem_append_left _ (List.mem_append_left _ (List.mem_append_left _ (List.mem_append_left _ (List.mem_append_left _ (List.mem_of_getElem? (i := 22) (l := allW_0) rfl))))))))))))
theorem kw23 : (Cond.fieldLink R_MT 15 "GateStack$ModuleText" "numbers" "[I" : Cond) ∈ allW := (List.mem_append_left _ (List.mem_append_left _ (List.mem_append_left _ (List.mem_append_left _ (List.mem_append_left _ (List.mem_append_left _ (List.mem_append_left _ (List.mem_append_left _ (List.mem_append_left _ (List.mem_append_left _ (List.mem_append_left _ (List.mem_of_getElem? (i := 23) (l := allW_0) rfl))))))))))))
theorem kw24 : (Cond.fieldLink R_MT 18 "GateStack$ModuleText" "heads" "[I" : Cond) ∈ allW := (List.mem_append_left _ (List.mem_append_left _ (List.mem_append_left _ (List.mem_append_left _ (List.mem_append_left _ (List.mem_append_left _ (List.mem_append_left _ (List.mem_append_left _ (List.mem_append_left _ (List.mem_append_left _ (List.mem_append_left _ (List.mem_of_getElem? (i := 24) (l := allW_0) rfl))))))))))))
theorem kw25 : (Cond.fieldLink R_MT 21 "GateStack$ModuleText" "ends" "[I" : Cond) ∈ allW := (List.mem_append_left _ (List.mem_append_left _ (List.mem_append_left _ (List.mem_append_left _ (List.mem_append_left _ (List.mem_append_left _ (List.mem_append_left _ (List.mem_append_left _ (List.mem_append_left _ (List.mem_append_left _ (List.mem_append_left _ (List.mem_of_getElem? (i := 25) (l := allW_0) rfl))))))))))))
theorem kw26 : (Cond.fieldLink R_MT 24 "GateStack$ModuleText" "begins" "[I" : Cond) ∈ allW := (List.mem_append_left _ (List.mem_append_left _ (List.mem_append_left _ (List.mem_append_left _ (List.mem_append_left _ (List.mem_append_left _ (List.mem_append_left _ (List.mem_append_left _ (List.mem_append_left _ (List.mem_append_left _ (List.mem_append_left _ (List.mem_of_getElem? (i := 26) (l := allW_0) rfl))))))))))))
theorem kw27 : (Cond.fieldLink R_MT 27 "GateStack$ModuleText" "calls" "[I" : Cond) ∈ allW := (List.mem_append_left _ (List.mem_append_left _ (List.mem_append_left _ (List.mem_append_left _ (List.mem_append_left _ (List.mem_append_left _ (List.mem_append_left _ (List.mem_append_left _ (List.mem_append_left _ (List.mem_append_left _ (List.mem_append_left _ (List.mem_of_getElem? (i := 27) (l := allW_0) rfl))))))))))))
theorem kw28 : (Cond.fieldLink R_MT 34 "GateStack$ModuleText" "length" "I" : Cond) ∈ allW := (List.mem_append_left _ (List.mem_append_left _ (List.mem_append_left _ (List.mem_append_left _ (List.mem_append_left _ (List.mem_append_left _ (List.mem_append_left _ (List.mem_append_left _ (List.mem_append_left _ (List.mem_append_left _ (List.mem_append_left _ (List.mem_of_getElem? (i := 28) (l := allW_0) rfl))))))))))))
theorem kw29 : (Cond.fieldLink R_MT 41 "GateStack$ModuleText" "defined" "I" : Cond) ∈ allW := (List.mem_append_left _ (List.mem_append_left _ (List.mem_append_left _ (List.mem_append_left _ (List.mem_append_left _ (List.mem_append_left _ (List.mem_append_left _ (List.mem_append_left _ (List.mem_append_left _ (List.mem_append_left _ (List.mem_append_left _ (List.mem_of_getElem? (i := 29) (l := allW_0) rfl))))))))))))
theorem kw30 : (Cond.fieldLink R_MT 44 "GateStack$ModuleText" "twins" "Z" : Cond) ∈ allW := (List.mem_append_left _ (List.mem_append_left _ (List.mem_append_left _ (List.mem_append_left _ (List.mem_append_left _ (List.mem_append_left _ (List.mem_append_left _ (List.mem_append_left _ (List.mem_append_left _ (List.mem_append_left _ (List.mem_append_left _ (List.mem_of_getElem? (i := 30) (l := allW_0) rfl))))))))))))
theorem kw31 : (Cond.fieldLink R_MT 30 "GateStack$ModuleText" "compiled" "Z" : Cond) ∈ allW := (List.mem_append_left _ (List.mem_append_left _ (List.mem_append_left _ (List.mem_append_left _ (List.mem_append_left _ (List.mem_append_left _ (List.mem_append_left _ (List.mem_append_left _ (List.mem_append_left _ (List.mem_append_left _ (List.mem_append_left _ (List.mem_of_getElem? (i := 31) (l := allW_0) rfl))))))))))))
theorem kw32 : (Cond.laysFinal R_MT "GateStack$ModuleText" "signs" "[I" : Cond) ∈ allW := (List.mem_append_left _ (List.mem_append_left _ (List.mem_append_left _ (List.mem_append_left _ (List.mem_append_left _ (List.mem_append_left _ (List.mem_append_left _ (List.mem_append_left _ (List.mem_append_left _ (List.mem_append_left _ (List.mem_append_left _ (List.mem_of_getElem? (i := 32) (l := allW_0) rfl))))))))))))
theorem kw33 : (Cond.laysFinal R_MT "GateStack$ModuleText" "numbers" "[I" : Cond) ∈ allW := (List.mem_append_left _ (List.mem_append_left _ (List.mem_append_left _ (List.mem_append_left _ (List.mem_append_left _ (List.mem_append_left _ (List.mem_append_left _ (List.mem_append_left _ (List.mem_append_left _ (List.mem_append_left _ (List.mem_append_left _ (List.mem_of_getElem? (i := 33) (l := allW_0) rfl))))))))))))
theorem kw34 : (Cond.laysFinal R_MT "GateStack$ModuleText" "heads" "[I" : Cond) ∈ allW := (List.mem_append_left _ (List.mem_append_left _ (List.mem_append_left _ (List.mem_append_left _ (List.mem_append_left _ (List.mem_append_left _ (List.mem_append_left _ (List.mem_append_left _ (List.mem_append_left _ (List.mem_append_left _ (List.mem_append_left _ (List.mem_of_getElem? (i := 34) (l := allW_0) rfl))))))))))))
theorem kw35 : (Cond.laysFinal R_MT "GateStack$ModuleText" "ends" "[I" : Cond) ∈ allW := (List.mem_append_left _ (List.mem_append_left _ (List.mem_append_left _ (List.mem_append_left _ (List.mem_append_left _ (List.mem_append_left _ (List.mem_append_left _ (List.mem_append_left _ (List.mem_append_left _ (List.mem_append_left _ (List.mem_append_left _ (List.mem_of_getElem? (i := 35) (l := allW_0) rfl))))))))))))
theorem kw36 : (Cond.laysFinal R_MT "GateStack$ModuleText" "begins" "[I" : Cond) ∈ allW := (List.mem_append_left _ (List.mem_append_left _ (List.mem_append_left _ (List.mem_append_left _ (List.mem_append_left _ (List.mem_append_left _ (List.mem_append_left _ (List.mem_append_left _ (List.mem_append_left _ (List.mem_append_left _ (List.mem_append_left _ (List.mem_of_getElem? (i := 36) (l := allW_0) rfl))))))))))))
theorem kw37 : (Cond.laysFinal R_MT "GateStack$ModuleText" "calls" "[I" : Cond) ∈ allW := (List.mem_append_left _ (List.mem_append_left _ (List.mem_append_left _ (List.mem_append_left _ (List.mem_append_left _ (List.mem_append_left _ (List.mem_append_left _ (List.mem_append_left _ (List.mem_append_left _ (List.mem_append_left _ (List.mem_append_left _ (List.mem_of_getElem? (i := 37) (l := allW_0) rfl))))))))))))
theorem kw38 : (Cond.lays R_MT "GateStack$ModuleText" "length" "I" : Cond) ∈ allW := (List.mem_append_left _ (List.mem_append_left _ (List.mem_append_left _ (List.mem_append_left _ (List.mem_append_left _ (List.mem_append_left _ (List.mem_append_left _ (List.mem_append_left _ (List.mem_append_left _ (List.mem_append_left _ (List.mem_append_left _ (List.mem_of_getElem? (i := 38) (l := allW_0) rfl))))))))))))
theorem kw39 : (Cond.lays R_MT "GateStack$ModuleText" "defined" "I" : Cond) ∈ allW := (List.mem_append_left _ (List.mem_append_left _ (List.mem_append_left _ (List.mem_append_left _ (List.mem_append_left _ (List.mem_append_left _ (List.mem_append_left _ (List.mem_append_left _ (List.mem_append_left _ (List.mem_append_left _ (List.mem_append_left _ (List.mem_of_getElem? (i := 39) (l := allW_0) rfl))))))))))))
theorem kw40 : (Cond.lays R_MT "GateStack$ModuleText" "twins" "Z" : Cond) ∈ allW := (List.mem_append_left _ (List.mem_append_left _ (List.mem_append_left _ (List.mem_append_left _ (List.mem_append_left _ (List.mem_append_left _ (List.mem_append_left _ (List.mem_append_left _ (List.mem_append_left _ (List.mem_append_left _ (List.mem_append_left _ (List.mem_of_getElem? (i := 40) (l := allW_0) rfl))))))))))))
theorem kw41 : (Cond.lays R_MT "GateStack$ModuleText" "compiled" "Z" : Cond) ∈ allW := (List.mem_append_left _ (List.mem_append_left _ (List.mem_append_left _ (List.mem_append_left _ (List.mem_append_left _ (List.mem_append_left _ (List.mem_append_left _ (List.mem_append_left _ (List.mem_append_left _ (List.mem_append_left _ (List.mem_append_left _ (List.mem_of_getElem? (i := 41) (l := allW_0) rfl))))))))))))
theorem kw42 : (Cond.arrayClass .int : Cond) ∈ allW := (List.mem_append_left _ (List.mem_append_left _ (List.mem_append_left _ (List.mem_append_left _ (List.mem_append_left _ (List.mem_append_left _ (List.mem_append_left _ (List.mem_append_left _ (List.mem_append_left _ (List.mem_append_left _ (List.mem_append_left _ (List.mem_of_getElem? (i := 42) (l := allW_0) rfl))))))))))))
theorem kw43 : (Cond.classLink R_GS 16 "GateStack$Reader" : Cond) ∈ allW := (List.mem_append_left _ (List.mem_append_left _ (List.mem_append_left _ (List.mem_append_left _ (List.mem_append_left _ (List.mem_append_left _ (List.mem_append_left _ (List.mem_append_left _ (List.mem_append_left _ (List.mem_append_left _ (List.mem_append_left _ (List.mem_of_getElem? (i := 43) (l := allW_0) rfl))))))))))))
theorem kw44 : (Cond.instantiable R_RD 8 : Cond) ∈ allW := (List.mem_append_left _ (List.mem_append_left _ (List.mem_append_left _ (List.mem_append_left _ (List.mem_append_left _ (List.mem_append_left _ (List.mem_append_left _ (List.mem_append_left _ (List.mem_append_left _ (List.mem_append_left _ (List.mem_append_left _ (List.mem_of_getElem? (i := 44) (l := allW_0) rfl))))))))))))
theorem kw45 : (Cond.instanceMethod y_RD_init : Cond) ∈ allW := (List.mem_append_left _ (List.mem_append_left _ (List.mem_append_left _ (List.mem_append_left _ (List.mem_append_left _ (List.mem_append_left _ (List.mem_append_left _ (List.mem_append_left _ (List.mem_append_left _ (List.mem_append_left _ (List.mem_append_left _ (List.mem_of_getElem? (i := 45) (l := allW_0) rfl))))))))))))
theorem kw46 : (Cond.code y_RD_init prog_6_method_1_code 1 none : Cond) ∈ allW := (List.mem_append_left _ (List.mem_append_left _ (List.mem_append_left _ (List.mem_append_left _ (List.mem_append_left _ (List.mem_append_left _ (List.mem_append_left _ (List.mem_append_left _ (List.mem_append_left _ (List.mem_append_left _ (List.mem_append_left _ (List.mem_of_getElem? (i := 46) (l := allW_0) rfl))))))))))))
theorem kw47 : (Cond.methodLink R_RD 3 objectInit : Cond) ∈ allW := (List.mem_append_left _ (List.mem_append_left _ (List.mem_append_left _ (List.mem_append_left _ (List.mem_append_left _ (List.mem_append_left _ (List.mem_append_left _ (List.mem_append_left _ (List.mem_append_left _ (List.mem_append_left _ (List.mem_append_left _ (List.mem_of_getElem? (i := 47) (l := allW_0) rfl))))))))))))
theorem kw48 : (Cond.fieldLink R_RD 9 "GateStack$Reader" "open" "[I" : Cond) ∈ allW := (List.mem_append_left _ (List.mem_append_left _ (List.mem_append_left _ (List.mem_append_left _ (List.mem_append_left _ (List.mem_append_left _ (List.mem_append_left _ (List.mem_append_left _ (List.mem_append_left _ (List.mem_append_left _ (List.mem_append_left _ (List.mem_of_getElem? (i := 48) (l := allW_0) rfl))))))))))))
theorem kw49 : (Cond.fieldLink R_RD 20 "GateStack$Reader" "depth" "I" : Cond) ∈ allW := (List.mem_append_left _ (List.mem_append_left _ (List.mem_append_left _ (List.mem_append_left _ (List.mem_append_left _ (List.mem_append_left _ (List.mem_append_left _ (List.mem_append_left _ (List.mem_append_left _ (List.mem_append_left _ (List.mem_append_left _ (List.mem_of_getElem? (i := 49) (l := allW_0) rfl))))))))))))
theorem kw50 : (Cond.fieldLink R_RD 24 "GateStack$Reader" "expected" "I" : Cond) ∈ allW := (List.mem_append_left _ (List.mem_append_left _ (List.mem_append_left _ (List.mem_append_left _ (List.mem_append_left _ (List.mem_append_left _ (List.mem_append_left _ (List.mem_append_left _ (List.mem_append_left _ (List.mem_append_left _ (List.mem_append_left _ (List.mem_of_getElem? (i := 50) (l := allW_0) rfl))))))))))))
theorem kw51 : (Cond.fieldLink R_RD 42 "GateStack$Reader" "head" "I" : Cond) ∈ allW := (List.mem_append_left _ (List.mem_append_left _ (List.mem_append_left _ (List.mem_append_left _ (List.mem_append_left _ (List.mem_append_left _ (List.mem_append_left _ (List.mem_append_left _ (List.mem_append_left _ (List.mem_append_left _ (List.mem_append_left _ (List.mem_of_getElem? (i := 51) (l := allW_0) rfl))))))))))))
theorem kw52 : (Cond.fieldLink R_RD 97 "GateStack$Reader" "expressionEnd" "I" : Cond) ∈ allW := (List.mem_append_left _ (List.mem_append_left _ (List.mem_append_left _ (List.mem_append_left _ (List.mem_append_left _ (List.mem_append_left _ (List.mem_append_left _ (List.mem_append_left _ (List.mem_append_left _ (List.mem_append_left _ (List.mem_append_left _ (List.mem_of_getElem? (i := 52) (l := allW_0) rfl))))))))))))
theorem kw53 : (Cond.fieldLink R_RD 112 "GateStack$Reader" "digits" "I" : Cond) ∈ allW := (List.mem_append_left _ (List.mem_append_left _ (List.mem_append_left _ (List.mem_append_left _ (List.mem_append_left _ (List.mem_append_left _ (List.mem_append_left _ (List.mem_append_left _ (List.mem_append_left _ (List.mem_append_left _ (List.mem_append_left _ (List.mem_of_getElem? (i := 53) (l := allW_0) rfl))))))))))))
theorem kw54 : (Cond.fieldLink R_RD 75 "GateStack$Reader" "procedure" "I" : Cond) ∈ allW := (List.mem_append_left _ (List.mem_append_left _ (List.mem_append_left _ (List.mem_append_left _ (List.mem_append_left _ (List.mem_append_left _ (List.mem_append_left _ (List.mem_append_left _ (List.mem_append_left _ (List.mem_append_left _ (List.mem_append_left _ (List.mem_of_getElem? (i := 54) (l := allW_0) rfl))))))))))))
theorem kw55 : (Cond.fieldLink R_RD 78 "GateStack$Reader" "statements" "I" : Cond) ∈ allW := (List.mem_append_left _ (List.mem_append_left _ (List.mem_append_left _ (List.mem_append_left _ (List.mem_append_left _ (List.mem_append_left _ (List.mem_append_left _ (List.mem_append_left _ (List.mem_append_left _ (List.mem_append_left _ (List.mem_append_left _ (List.mem_of_getElem? (i := 55) (l := allW_0) rfl))))))))))))
theorem kw56 : (Cond.laysFinal R_RD "GateStack$Reader" "open" "[I" : Cond) ∈ allW := (List.mem_append_left _ (List.mem_append_left _ (List.mem_append_left _ (List.mem_append_left _ (List.mem_append_left _ (List.mem_append_left _ (List.mem_append_left _ (List.mem_append_left _ (List.mem_append_left _ (List.mem_append_left _ (List.mem_append_left _ (List.mem_of_getElem? (i := 56) (l := allW_0) rfl))))))))))))
theorem kw57 : (Cond.lays R_RD "GateStack$Reader" "depth" "I" : Cond) ∈ allW := (List.mem_append_left _ (List.mem_append_left _ (List.mem_append_left _ (List.mem_append_left _ (List.mem_append_left _ (List.mem_append_left _ (List.mem_append_left _ (List.mem_append_left _ (List.mem_append_left _ (List.mem_append_left _ (List.mem_append_left _ (List.mem_of_getElem? (i := 57) (l := allW_0) rfl))))))))))))
theorem kw58 : (Cond.lays R_RD "GateStack$Reader" "expected" "I" : Cond) ∈ allW := (List.mem_append_left _ (List.mem_append_left _ (List.mem_append_left _ (List.mem_append_left _ (List.mem_append_left _ (List.mem_append_left _ (List.mem_append_left _ (List.mem_append_left _ (List.mem_append_left _ (List.mem_append_left _ (List.mem_append_left _ (List.mem_of_getElem? (i := 58) (l := allW_0) rfl))))))))))))
theorem kw59 : (Cond.lays R_RD "GateStack$Reader" "head" "I" : Cond) ∈ allW := (List.mem_append_left _ (List.mem_append_left _ (List.mem_append_left _ (List.mem_append_left _ (List.mem_append_left _ (List.mem_append_left _ (List.mem_append_left _ (List.mem_append_left _ (List.mem_append_left _ (List.mem_append_left _ (List.mem_append_left _ (List.mem_of_getElem? (i := 59) (l := allW_0) rfl))))))))))))
theorem kw60 : (Cond.lays R_RD "GateStack$Reader" "expressionEnd" "I" : Cond) ∈ allW := (List.mem_append_left _ (List.mem_append_left _ (List.mem_append_left _ (List.mem_append_left _ (List.mem_append_left _ (List.mem_append_left _ (List.mem_append_left _ (List.mem_append_left _ (List.mem_append_left _ (List.mem_append_left _ (List.mem_append_right _ (List.mem_of_getElem? (i := 0) (l := allW_1) rfl))))))))))))
theorem kw61 : (Cond.lays R_RD "GateStack$Reader" "digits" "I" : Cond) ∈ allW := (List.mem_append_left _ (List.mem_append_left _ (List.mem_append_left _ (List.mem_append_left _ (List.mem_append_left _ (List.mem_append_left _ (List.mem_append_left _ (List.mem_append_left _ (List.mem_append_left _ (List.mem_append_left _ (List.mem_append_right _ (List.mem_of_getElem? (i := 1) (l := allW_1) rfl))))))))))))
theorem kw62 : (Cond.lays R_RD "GateStack$Reader" "procedure" "I" : Cond) ∈ allW := (List.mem_append_left _ (List.mem_append_left _ (List.mem_append_left _ (List.mem_append_left _ (List.mem_append_left _ (List.mem_append_left _ (List.mem_append_left _ (List.mem_append_left _ (List.mem_append_left _ (List.mem_append_left _ (List.mem_append_right _ (List.mem_of_getElem? (i := 2) (l := allW_1) rfl))))))))))))
theorem kw63 : (Cond.lays R_RD "GateStack$Reader" "statements" "I" : Cond) ∈ allW := (List.mem_append_left _ (List.mem_append_left _ (List.mem_append_left _ (List.mem_append_left _ (List.mem_append_left _ (List.mem_append_left _ (List.mem_append_left _ (List.mem_append_left _ (List.mem_append_left _ (List.mem_append_left _ (List.mem_append_right _ (List.mem_of_getElem? (i := 3) (l := allW_1) rfl))))))))))))
theorem kw64 : (Cond.classLink R_GS 23 "GateStack$Program" : Cond) ∈ allW := (List.mem_append_left _ (List.mem_append_left _ (List.mem_append_left _ (List.mem_append_left _ (List.mem_append_left _ (List.mem_append_left _ (List.mem_append_left _ (List.mem_append_left _ (List.mem_append_left _ (List.mem_append_left _ (List.mem_append_right _ (List.mem_of_getElem? (i := 4) (l := allW_1) rfl))))))))))))
theorem kw65 : (Cond.instantiable R_PR 3 : Cond) ∈ allW := (List.mem_append_left _ (List.mem_append_left _ (List.mem_append_left _ (List.mem_append_left _ (List.mem_append_left _ (List.mem_append_left _ (List.mem_append_left _ (List.mem_append_left _ (List.mem_append_left _ (List.mem_append_left _ (List.mem_append_right _ (List.mem_of_getElem? (i := 5) (l := allW_1) rfl))))))))))))
theorem kw66 : (Cond.instanceMethod y_PR_init : Cond) ∈ allW := (List.mem_append_left _ (List.mem_append_left _ (List.mem_append_left _ (List.mem_append_left _ (List.mem_append_left _ (List.mem_append_left _ (List.mem_append_left _ (List.mem_append_left _ (List.mem_append_left _ (List.mem_append_left _ (List.mem_append_right _ (List.mem_of_getElem? (i := 6) (l := allW_1) rfl))))))))))))
theorem kw67 : (Cond.code y_PR_init prog_5_method_1_code 1 none : Cond) ∈ allW := (List.mem_append_left _ (List.mem_append_left _ (List.mem_append_left _ (List.mem_append_left _ (List.mem_append_left _ (List.mem_append_left _ (List.mem_append_left _ (List.mem_append_left _ (List.mem_append_left _ (List.mem_append_left _ (List.mem_append_right _ (List.mem_of_getElem? (i := 7) (l := allW_1) rfl))))))))))))
theorem kw68 : (Cond.methodLink R_PR 3 objectInit : Cond) ∈ allW := (List.mem_append_left _ (List.mem_append_left _ (List.mem_append_left _ (List.mem_append_left _ (List.mem_append_left _ (List.mem_append_left _ (List.mem_append_left _ (List.mem_append_left _ (List.mem_append_left _ (List.mem_append_left _ (List.mem_append_right _ (List.mem_of_getElem? (i := 8) (l := allW_1) rfl))))))))))))
theorem kw69 : (Cond.classLink R_PR 9 "GateStack$ModuleText" : Cond) ∈ allW := (List.mem_append_left _ (List.mem_append_left _ (List.mem_append_left _ (List.mem_append_left _ (List.mem_append_left _ (List.mem_append_left _ (List.mem_append_left _ (List.mem_append_left _ (List.mem_append_left _ (List.mem_append_left _ (List.mem_append_right _ (List.mem_of_getElem? (i := 9) (l := allW_1) rfl))))))))))))
theorem kw70 : (Cond.fieldLink R_PR 11 "GateStack$Program" "homes" "[LGateStack$ModuleText;" : Cond) ∈ allW := (List.mem_append_left _ (List.mem_append_left _ (List.mem_append_left _ (List.mem_append_left _ (List.mem_append_left _ (List.mem_append_left _ (List.mem_append_left _ (List.mem_append_left _ (List.mem_append_left _ (List.mem_append_left _ (List.mem_append_right _ (List.mem_of_getElem? (i := 10) (l := allW_1) rfl))))))))))))
theorem kw71 : (Cond.fieldLink R_PR 17 "GateStack$Program" "reached" "[I" : Cond) ∈ allW := (List.mem_append_left _ (List.mem_append_left _ (List.mem_append_left _ (List.mem_append_left _ (List.mem_append_left _ (List.mem_append_left _ (List.mem_append_left _ (List.mem_append_left _ (List.mem_append_left _ (List.mem_append_left _ (List.mem_append_right _ (List.mem_of_getElem? (i := 11) (l := allW_1) rfl))))))))))))
theorem kw72 : (Cond.fieldLink R_PR 24 "GateStack$Program" "defined" "I" : Cond) ∈ allW := (List.mem_append_left _ (List.mem_append_left _ (List.mem_append_left _ (List.mem_append_left _ (List.mem_append_left _ (List.mem_append_left _ (List.mem_append_left _ (List.mem_append_left _ (List.mem_append_left _ (List.mem_append_left _ (List.mem_append_right _ (List.mem_of_getElem? (i := 12) (l := allW_1) rfl))))))))))))
theorem kw73 : (Cond.laysFinal R_PR "GateStack$Program" "homes" "[LGateStack$ModuleText;" : Cond) ∈ allW := (List.mem_append_left _ (List.mem_append_left _ (List.mem_append_left _ (List.mem_append_left _ (List.mem_append_left _ (List.mem_append_left _ (List.mem_append_left _ (List.mem_append_left _ (List.mem_append_left _ (List.mem_append_left _ (List.mem_append_right _ (List.mem_of_getElem? (i := 13) (l := allW_1) rfl))))))))))))
theorem kw74 : (Cond.laysFinal R_PR "GateStack$Program" "reached" "[I" : Cond) ∈ allW := (List.mem_append_left _ (List.mem_append_left _ (List.mem_append_left _ (List.mem_append_left _ (List.mem_append_left _ (List.mem_append_left _ (List.mem_append_left _ (List.mem_append_left _ (List.mem_append_left _ (List.mem_append_left _ (List.mem_append_right _ (List.mem_of_getElem? (i := 14) (l := allW_1) rfl))))))))))))
theorem kw75 : (Cond.lays R_PR "GateStack$Program" "defined" "I" : Cond) ∈ allW := (List.mem_append_left _ (List.mem_append_left _ (List.mem_append_left _ (List.mem_append_left _ (List.mem_append_left _ (List.mem_append_left _ (List.mem_append_left _ (List.mem_append_left _ (List.mem_append_left _ (List.mem_append_left _ (List.mem_append_right _ (List.mem_of_getElem? (i := 15) (l := allW_1) rfl))))))))))))
theorem kw76 : (Cond.classLink R_GS 30 "GateStack$Calculator" : Cond) ∈ allW := (List.mem_append_left _ (List.mem_append_left _ (List.mem_append_left _ (List.mem_append_left _ (List.mem_append_left _ (List.mem_append_left _ (List.mem_append_left _ (List.mem_append_left _ (List.mem_append_left _ (List.mem_append_left _ (List.mem_append_right _ (List.mem_of_getElem? (i := 16) (l := allW_1) rfl))))))))))))
theorem kw77 : (Cond.instantiable R_CA 2 : Cond) ∈ allW := (List.mem_append_left _ (List.mem_append_left _ (List.mem_append_left _ (List.mem_append_left _ (List.mem_append_left _ (List.mem_append_left _ (List.mem_append_left _ (List.mem_append_left _ (List.mem_append_left _ (List.mem_append_left _ (List.mem_append_right _ (List.mem_of_getElem? (i := 17) (l := allW_1) rfl))))))))))))
theorem kw78 : (Cond.instanceMethod y_CA_init : Cond) ∈ allW := (List.mem_append_left _ (List.mem_append_left _ (List.mem_append_left _ (List.mem_append_left _ (List.mem_append_left _ (List.mem_append_left _ (List.mem_append_left _ (List.mem_append_left _ (List.mem_append_left _ (List.mem_append_left _ (List.mem_append_right _ (List.mem_of_getElem? (i := 18) (l := allW_1) rfl))))))))))))
theorem kw79 : (Cond.code y_CA_init prog_2_method_1_code 1 none : Cond) ∈ allW := (List.mem_append_left _ (List.mem_append_left _ (List.mem_append_left _ (List.mem_append_left _ (List.mem_append_left _ (List.mem_append_left _ (List.mem_append_left _ (List.mem_append_left _ (List.mem_append_left _ (List.mem_append_left _ (List.mem_append_right _ (List.mem_of_getElem? (i := 19) (l := allW_1) rfl))))))))))))
theorem kw80 : (Cond.methodLink R_CA 3 objectInit : Cond) ∈ allW := (List.mem_append_left _ (List.mem_append_left _ (List.mem_append_left _ (List.mem_append_left _ (List.mem_append_left _ (List.mem_append_left _ (List.mem_append_left _ (List.mem_append_left _ (List.mem_append_left _ (List.mem_append_left _ (List.mem_append_right _ (List.mem_of_getElem? (i := 20) (l := allW_1) rfl))))))))))))
theorem kw81 : (Cond.fieldLink R_CA 9 "GateStack$Calculator" "variables" "[I" : Cond) ∈ allW := (List.mem_append_left _ (List.mem_append_left _ (List.mem_append_left _ (List.mem_append_left _ (List.mem_append_left _ (List.mem_append_left _ (List.mem_append_left _ (List.mem_append_left _ (List.mem_append_left _ (List.mem_append_left _ (List.mem_append_right _ (List.mem_of_getElem? (i := 21) (l := allW_1) rfl))))))))))))
theorem kw82 : (Cond.fieldLink R_CA 19 "GateStack$Calculator" "cursor" "I" : Cond) ∈ allW := (List.mem_append_left _ (List.mem_append_left _ (List.mem_append_left _ (List.mem_append_left _ (List.mem_append_left _ (List.mem_append_left _ (List.mem_append_left _ (List.mem_append_left _ (List.mem_append_left _ (List.mem_append_left _ (List.mem_append_right _ (List.mem_of_getElem? (i := 22) (l := allW_1) rfl))))))))))))
theorem kw83 : (Cond.laysFinal R_CA "GateStack$Calculator" "variables" "[I" : Cond) ∈ allW := (List.mem_append_left _ (List.mem_append_left _ (List.mem_append_left _ (List.mem_append_left _ (List.mem_append_left _ (List.mem_append_left _ (List.mem_append_left _ (List.mem_append_left _ (List.mem_append_left _ (List.mem_append_left _ (List.mem_append_right _ (List.mem_of_getElem? (i := 23) (l := allW_1) rfl))))))))))))
theorem kw84 : (Cond.lays R_CA "GateStack$Calculator" "cursor" "I" : Cond) ∈ allW := (List.mem_append_left _ (List.mem_append_left _ (List.mem_append_left _ (List.mem_append_left _ (List.mem_append_left _ (List.mem_append_left _ (List.mem_append_left _ (List.mem_append_left _ (List.mem_append_left _ (List.mem_append_left _ (List.mem_append_right _ (List.mem_of_getElem? (i := 24) (l := allW_1) rfl))))))))))))
theorem kw85 : (Cond.classLink R_GS 37 "GateStack$Machine" : Cond) ∈ allW := (List.mem_append_left _ (List.mem_append_left _ (List.mem_append_left _ (List.mem_append_left _ (List.mem_append_left _ (List.mem_append_left _ (List.mem_append_left _ (List.mem_append_left _ (List.mem_append_left _ (List.mem_append_left _ (List.mem_append_right _ (List.mem_of_getElem? (i := 25) (l := allW_1) rfl))))))))))))
theorem kw86 : (Cond.instantiable R_MA 5 : Cond) ∈ allW := (List.mem_append_left _ (List.mem_append_left _ (List.mem_append_left _ (List.mem_append_left _ (List.mem_append_left _ (List.mem_append_left _ (List.mem_append_left _ (List.mem_append_left _ (List.mem_append_left _ (List.mem_append_left _ (List.mem_append_right _ (List.mem_of_getElem? (i := 26) (l := allW_1) rfl))))))))))))
theorem kw87 : (Cond.instanceMethod y_MA_init : Cond) ∈ allW := (List.mem_append_left _ (List.mem_append_left _ (List.mem_append_left _ (List.mem_append_left _ (List.mem_append_left _ (List.mem_append_left _ (List.mem_append_left _ (List.mem_append_left _ (List.mem_append_left _ (List.mem_append_left _ (List.mem_append_right _ (List.mem_of_getElem? (i := 27) (l := allW_1) rfl))))))))))))
theorem kw88 : (Cond.code y_MA_init prog_3_method_1_code 1 none : Cond) ∈ allW := (List.mem_append_left _ (List.mem_append_left _ (List.mem_append_left _ (List.mem_append_left _ (List.mem_append_left _ (List.mem_append_left _ (List.mem_append_left _ (List.mem_append_left _ (List.mem_append_left _ (List.mem_append_left _ (List.mem_append_right _ (List.mem_of_getElem? (i := 28) (l := allW_1) rfl))))))))))))
theorem kw89 : (Cond.methodLink R_MA 3 objectInit : Cond) ∈ allW := (List.mem_append_left _ (List.mem_append_left _ (List.mem_append_left _ (List.mem_append_left _ (List.mem_append_left _ (List.mem_append_left _ (List.mem_append_left _ (List.mem_append_left _ (List.mem_append_left _ (List.mem_append_left _ (List.mem_append_right _ (List.mem_of_getElem? (i := 29) (l := allW_1) rfl))))))))))))
theorem kw90 : (Cond.fieldLink R_MA 9 "GateStack$Machine" "letters" "[I" : Cond) ∈ allW := (List.mem_append_left _ (List.mem_append_left _ (List.mem_append_left _ (List.mem_append_left _ (List.mem_append_left _ (List.mem_append_left _ (List.mem_append_left _ (List.mem_append_left _ (List.mem_append_left _ (List.mem_append_left _ (List.mem_append_right _ (List.mem_of_getElem? (i := 30) (l := allW_1) rfl))))))))))))
theorem kw91 : (Cond.fieldLink R_MA 15 "GateStack$Machine" "places" "[I" : Cond) ∈ allW := (List.mem_append_left _ (List.mem_append_left _ (List.mem_append_left _ (List.mem_append_left _ (List.mem_append_left _ (List.mem_append_left _ (List.mem_append_left _ (List.mem_append_left _ (List.mem_append_left _ (List.mem_append_left _ (List.mem_append_right _ (List.mem_of_getElem? (i := 31) (l := allW_1) rfl))))))))))))
theorem kw92 : (Cond.fieldLink R_MA 18 "GateStack$Machine" "outputs" "[I" : Cond) ∈ allW := (List.mem_append_left _ (List.mem_append_left _ (List.mem_append_left _ (List.mem_append_left _ (List.mem_append_left _ (List.mem_append_left _ (List.mem_append_left _ (List.mem_append_left _ (List.mem_append_left _ (List.mem_append_left _ (List.mem_append_right _ (List.mem_of_getElem? (i := 32) (l := allW_1) rfl))))))))))))
theorem kw93 : (Cond.fieldLink R_MA 21 "GateStack$Machine" "depth" "I" : Cond) ∈ allW := (List.mem_append_left _ (List.mem_append_left _ (List.mem_append_left _ (List.mem_append_left _ (List.mem_append_left _ (List.mem_append_left _ (List.mem_append_left _ (List.mem_append_left _ (List.mem_append_left _ (List.mem_append_left _ (List.mem_append_right _ (List.mem_of_getElem? (i := 33) (l := allW_1) rfl))))))))))))
theorem kw94 : (Cond.fieldLink R_MA 25 "GateStack$Machine" "outputCount" "I" : Cond) ∈ allW := (List.mem_append_left _ (List.mem_append_left _ (List.mem_append_left _ (List.mem_append_left _ (List.mem_append_left _ (List.mem_append_left _ (List.mem_append_left _ (List.mem_append_left _ (List.mem_append_left _ (List.mem_append_left _ (List.mem_append_right _ (List.mem_of_getElem? (i := 34) (l := allW_1) rfl))))))))))))
theorem kw95 : (Cond.laysFinal R_MA "GateStack$Machine" "letters" "[I" : Cond) ∈ allW := (List.mem_append_left _ (List.mem_append_left _ (List.mem_append_left _ (List.mem_append_left _ (List.mem_append_left _ (List.mem_append_left _ (List.mem_append_left _ (List.mem_append_left _ (List.mem_append_left _ (List.mem_append_left _ (List.mem_append_right _ (List.mem_of_getElem? (i := 35) (l := allW_1) rfl))))))))))))
theorem kw96 : (Cond.laysFinal R_MA "GateStack$Machine" "places" "[I" : Cond) ∈ allW := (List.mem_append_left _ (List.mem_append_left _ (List.mem_append_left _ (List.mem_append_left _ (List.mem_append_left _ (List.mem_append_left _ (List.mem_append_left _ (List.mem_append_left _ (List.mem_append_left _ (List.mem_append_left _ (List.mem_append_right _ (List.mem_of_getElem? (i := 36) (l := allW_1) rfl))))))))))))
theorem kw97 : (Cond.laysFinal R_MA "GateStack$Machine" "outputs" "[I" : Cond) ∈ allW := (List.mem_append_left _ (List.mem_append_left _ (List.mem_append_left _ (List.mem_append_left _ (List.mem_append_left _ (List.mem_append_left _ (List.mem_append_left _ (List.mem_append_left _ (List.mem_append_left _ (List.mem_append_left _ (List.mem_append_right _ (List.mem_of_getElem? (i := 37) (l := allW_1) rfl))))))))))))
theorem kw98 : (Cond.lays R_MA "GateStack$Machine" "depth" "I" : Cond) ∈ allW := (List.mem_append_left _ (List.mem_append_left _ (List.mem_append_left _ (List.mem_append_left _ (List.mem_append_left _ (List.mem_append_left _ (List.mem_append_left _ (List.mem_append_left _ (List.mem_append_left _ (List.mem_append_left _ (List.mem_append_right _ (List.mem_of_getElem? (i := 38) (l := allW_1) rfl))))))))))))
theorem kw99 : (Cond.lays R_MA "GateStack$Machine" "outputCount" "I" : Cond) ∈ allW := (List.mem_append_left _ (List.mem_append_left _ (List.mem_append_left _ (List.mem_append_left _ (List.mem_append_left _ (List.mem_append_left _ (List.mem_append_left _ (List.mem_append_left _ (List.mem_append_left _ (List.mem_append_left _ (List.mem_append_right _ (List.mem_of_getElem? (i := 39) (l := allW_1) rfl))))))))))))
theorem kw100 : (Cond.fieldLink R_GS 11 "GateStack" "modules" "[LGateStack$ModuleText;" : Cond) ∈ allW := (List.mem_append_left _ (List.mem_append_left _ (List.mem_append_left _ (List.mem_append_left _ (List.mem_append_left _ (List.mem_append_left _ (List.mem_append_left _ (List.mem_append_left _ (List.mem_append_left _ (List.mem_append_left _ (List.mem_append_right _ (List.mem_of_getElem? (i := 40) (l := allW_1) rfl))))))))))))
theorem kw101 : (Cond.fieldLink R_GS 19 "GateStack" "reader" "LGateStack$Reader;" : Cond) ∈ allW := (List.mem_append_left _ (List.mem_append_left _ (List.mem_append_left _ (List.mem_append_left _ (List.mem_append_left _ (List.mem_append_left _ (List.mem_append_left _ (List.mem_append_left _ (List.mem_append_left _ (List.mem_append_left _ (List.mem_append_right _ (List.mem_of_getElem? (i := 41) (l := allW_1) rfl))))))))))))
theorem kw102 : (Cond.fieldLink R_GS 26 "GateStack" "program" "LGateStack$Program;" : Cond) ∈ allW := (List.mem_append_left _ (List.mem_append_left _ (List.mem_append_left _ (List.mem_append_left _ (List.mem_append_left _ (List.mem_append_left _ (List.mem_append_left _ (List.mem_append_left _ (List.mem_append_left _ (List.mem_append_left _ (List.mem_append_right _ (List.mem_of_getElem? (i := 42) (l := allW_1) rfl))))))))))))
theorem kw103 : (Cond.fieldLink R_GS 33 "GateStack" "calculator" "LGateStack$Calculator;" : Cond) ∈ allW := (List.mem_append_left _ (List.mem_append_left _ (List.mem_append_left _ (List.mem_append_left _ (List.mem_append_left _ (List.mem_append_left _ (List.mem_append_left _ (List.mem_append_left _ (List.mem_append_left _ (List.mem_append_left _ (List.mem_append_right _ (List.mem_of_getElem? (i := 43) (l := allW_1) rfl))))))))))))
theorem kw104 : (Cond.fieldLink R_GS 40 "GateStack" "machine" "LGateStack$Machine;" : Cond) ∈ allW := (List.mem_append_left _ (List.mem_append_left _ (List.mem_append_left _ (List.mem_append_left _ (List.mem_append_left _ (List.mem_append_left _ (List.mem_append_left _ (List.mem_append_left _ (List.mem_append_left _ (List.mem_append_left _ (List.mem_append_right _ (List.mem_of_getElem? (i := 44) (l := allW_1) rfl))))))))))))
theorem kw105 : (Cond.fieldLink R_GS 44 "GateStack" "linked" "Z" : Cond) ∈ allW := (List.mem_append_left _ (List.mem_append_left _ (List.mem_append_left _ (List.mem_append_left _ (List.mem_append_left _ (List.mem_append_left _ (List.mem_append_left _ (List.mem_append_left _ (List.mem_append_left _ (List.mem_append_left _ (List.mem_append_right _ (List.mem_of_getElem? (i := 45) (l := allW_1) rfl))))))))))))
theorem kw106 : (Cond.laysFinal R_GS "GateStack" "modules" "[LGateStack$ModuleText;" : Cond) ∈ allW := (List.mem_append_left _ (List.mem_append_left _ (List.mem_append_left _ (List.mem_append_left _ (List.mem_append_left _ (List.mem_append_left _ (List.mem_append_left _ (List.mem_append_left _ (List.mem_append_left _ (List.mem_append_left _ (List.mem_append_right _ (List.mem_of_getElem? (i := 46) (l := allW_1) rfl))))))))))))
theorem kw107 : (Cond.laysFinal R_GS "GateStack" "reader" "LGateStack$Reader;" : Cond) ∈ allW := (List.mem_append_left _ (List.mem_append_left _ (List.mem_append_left _ (List.mem_append_left _ (List.mem_append_left _ (List.mem_append_left _ (List.mem_append_left _ (List.mem_append_left _ (List.mem_append_left _ (List.mem_append_left _ (List.mem_append_right _ (List.mem_of_getElem? (i := 47) (l := allW_1) rfl))))))))))))
theorem kw108 : (Cond.laysFinal R_GS "GateStack" "program" "LGateStack$Program;" : Cond) ∈ allW := (List.mem_append_left _ (List.mem_append_left _ (List.mem_append_left _ (List.mem_append_left _ (List.mem_append_left _ (List.mem_append_left _ (List.mem_append_left _ (List.mem_append_left _ (List.mem_append_left _ (List.mem_append_left _ (List.mem_append_right _ (List.mem_of_getElem? (i := 48) (l := allW_1) rfl))))))))))))
theorem kw109 : (Cond.laysFinal R_GS "GateStack" "calculator" "LGateStack$Calculator;" : Cond) ∈ allW := (List.mem_append_left _ (List.mem_append_left _ (List.mem_append_left _ (List.mem_append_left _ (List.mem_append_left _ (List.mem_append_left _ (List.mem_append_left _ (List.mem_append_left _ (List.mem_append_left _ (List.mem_append_left _ (List.mem_append_right _ (List.mem_of_getElem? (i := 49) (l := allW_1) rfl))))))))))))
theorem kw110 : (Cond.laysFinal R_GS "GateStack" "machine" "LGateStack$Machine;" : Cond) ∈ allW := (List.mem_append_left _ (List.mem_append_left _ (List.mem_append_left _ (List.mem_append_left _ (List.mem_append_left _ (List.mem_append_left _ (List.mem_append_left _ (List.mem_append_left _ (List.mem_append_left _ (List.mem_append_left _ (List.mem_append_right _ (List.mem_of_getElem? (i := 50) (l := allW_1) rfl))))))))))))
theorem kw111 : (Cond.lays R_GS "GateStack" "linked" "Z" : Cond) ∈ allW := (List.mem_append_left _ (List.mem_append_left _ (List.mem_append_left _ (List.mem_append_left _ (List.mem_append_left _ (List.mem_append_left _ (List.mem_append_left _ (List.mem_append_left _ (List.mem_append_left _ (List.mem_append_left _ (List.mem_append_right _ (List.mem_of_getElem? (i := 51) (l := allW_1) rfl))))))))))))
theorem kw112 : (Cond.methodLink "GateStackLaw" 13 y_GS_sign : Cond) ∈ allW := (List.mem_append_left _ (List.mem_append_left _ (List.mem_append_left _ (List.mem_append_left _ (List.mem_append_left _ (List.mem_append_left _ (List.mem_append_left _ (List.mem_append_left _ (List.mem_append_left _ (List.mem_append_left _ (List.mem_append_right _ (List.mem_of_getElem? (i := 52) (l := allW_1) rfl))))))))))))
theorem kw113 : (Cond.instanceMethod y_GS_sign : Cond) ∈ allW := (List.mem_append_left _ (List.mem_append_left _ (List.mem_append_left _ (List.mem_append_left _ (List.mem_append_left _ (List.mem_append_left _ (List.mem_append_left _ (List.mem_append_left _ (List.mem_append_left _ (List.mem_append_left _ (List.mem_append_right _ (List.mem_of_getElem? (i := 53) (l := allW_1) rfl))))))))))))
theorem kw114 : (Cond.selects R_GS y_GS_sign y_GS_sign : Cond) ∈ allW := (List.mem_append_left _ (List.mem_append_left _ (List.mem_append_left _ (List.mem_append_left _ (List.mem_append_left _ (List.mem_append_left _ (List.mem_append_left _ (List.mem_append_left _ (List.mem_append_left _ (List.mem_append_left _ (List.mem_append_right _ (List.mem_of_getElem? (i := 54) (l := allW_1) rfl))))))))))))
theorem kw115 : (Cond.code y_GS_sign prog_1_method_2_code 3 (some .int) : Cond) ∈ allW := (List.mem_append_left _ (List.mem_append_left _ (List.mem_append_left _ (List.mem_append_left _ (List.mem_append_left _ (List.mem_append_left _ (List.mem_append_left _ (List.mem_append_left _ (List.mem_append_left _ (List.mem_append_left _ (List.mem_append_right _ (List.mem_of_getElem? (i := 55) (l := allW_1) rfl))))))))))))
theorem kw116 : (Cond.methodLink R_GS 48 y_GS_isModule : Cond) ∈ allW := (List.mem_append_left _ (List.mem_append_left _ (List.mem_append_left _ (List.mem_append_left _ (List.mem_append_left _ (List.mem_append_left _ (List.mem_append_left _ (List.mem_append_left _ (List.mem_append_left _ (List.mem_append_left _ (List.mem_append_right _ (List.mem_of_getElem? (i := 56) (l := allW_1) rfl))))))))))))
theorem kw117 : (Cond.static y_GS_isModule : Cond) ∈ allW := (List.mem_append_left _ (List.mem_append_left _ (List.mem_append_left _ (List.mem_append_left _ (List.mem_append_left _ (List.mem_append_left _ (List.mem_append_left _ (List.mem_append_left _ (List.mem_append_left _ (List.mem_append_left _ (List.mem_append_right _ (List.mem_of_getElem? (i := 57) (l := allW_1) rfl))))))))))))
theorem kw118 : (Cond.code y_GS_isModule prog_1_method_17_code 1 (some .boolean) : Cond) ∈ allW := (List.mem_append_left _ (List.mem_append_left _ (List.mem_append_left _ (List.mem_append_left _ (List.mem_append_left _ (List.mem_append_left _ (List.mem_append_left _ (List.mem_append_left _ (List.mem_append_left _ (List.mem_append_left _ (List.mem_append_right _ (List.mem_of_getElem? (i := 58) (l := allW_1) rfl))))))))))))
theorem kw119 : (Cond.methodLink R_GS 52 y_MT_append : Cond) ∈ allW := (List.mem_append_left _ (List.mem_append_left _ (List.mem_append_left _ (List.mem_append_left _ (List.mem_append_left _ (List.mem_append_left _ (List.mem_append_left _ (List.mem_append_left _ (List.mem_append_left _ (List.mem_append_left _ (List.mem_append_right _ (List.mem_of_getElem? (i := 59) (l := allW_1) rfl))))))))))))
theorem kw120 : (Cond.instanceMethod y_MT_append : Cond) ∈ allW := (List.mem_append_left _ (List.mem_append_left _ (List.mem_append_left _ (List.mem_append_left _ (List.mem_append_left _ (List.mem_append_left _ (List.mem_append_left _ (List.mem_append_left _ (List.mem_append_left _ (List.mem_append_right _ (List.mem_of_getElem? (i := 0) (l := allW_2) rfl)))))))))))
theorem kw121 : (Cond.selects R_MT y_MT_append y_MT_append : Cond) ∈ allW := (List.mem_append_left _ (List.mem_append_left _ (List.mem_append_left _ (List.mem_append_left _ (List.mem_append_left _ (List.mem_append_left _ (List.mem_append_left _ (List.mem_append_left _ (List.mem_append_left _ (List.mem_append_right _ (List.mem_of_getElem? (i := 1) (l := allW_2) rfl)))))))))))
theorem kw122 : (Cond.code y_MT_append prog_4_method_2_code 2 (some .boolean) : Cond) ∈ allW := (List.mem_append_left _ (List.mem_append_left _ (List.mem_append_left _ (List.mem_append_left _ (List.mem_append_left _ (List.mem_append_left _ (List.mem_append_left _ (List.mem_append_left _ (List.mem_append_left _ (List.mem_append_right _ (List.mem_of_getElem? (i := 2) (l := allW_2) rfl)))))))))))
theorem kw123 : (Cond.methodLink R_GS 55 y_GS_loosen : Cond) ∈ allW := (List.mem_append_left _ (List.mem_append_left _ (List.mem_append_left _ (List.mem_append_left _ (List.mem_append_left _ (List.mem_append_left _ (List.mem_append_left _ (List.mem_append_left _ (List.mem_append_left _ (List.mem_append_right _ (List.mem_of_getElem? (i := 3) (l := allW_2) rfl)))))))))))
theorem kw124 : (Cond.instanceMethod y_GS_loosen : Cond) ∈ allW := (List.mem_append_left _ (List.mem_append_left _ (List.mem_append_left _ (List.mem_append_left _ (List.mem_append_left _ (List.mem_append_left _ (List.mem_append_left _ (List.mem_append_left _ (List.mem_append_left _ (List.mem_append_right _ (List.mem_of_getElem? (i := 4) (l := allW_2) rfl)))))))))))
theorem kw125 : (Cond.code y_GS_loosen prog_1_method_16_code 1 none : Cond) ∈ allW := (List.mem_append_left _ (List.mem_append_left _ (List.mem_append_left _ (List.mem_append_left _ (List.mem_append_left _ (List.mem_append_left _ (List.mem_append_left _ (List.mem_append_left _ (List.mem_append_left _ (List.mem_append_right _ (List.mem_of_getElem? (i := 5) (l := allW_2) rfl)))))))))))
theorem kw126 : (Cond.methodLink R_GS 104 y_MA_halt : Cond) ∈ allW := (List.mem_append_left _ (List.mem_append_left _ (List.mem_append_left _ (List.mem_append_left _ (List.mem_append_left _ (List.mem_append_left _ (List.mem_append_left _ (List.mem_append_left _ (List.mem_append_left _ (List.mem_append_right _ (List.mem_of_getElem? (i := 6) (l := allW_2) rfl)))))))))))
theorem kw127 : (Cond.instanceMethod y_MA_halt : Cond) ∈ allW := (List.mem_append_left _ (List.mem_append_left _ (List.mem_append_left _ (List.mem_append_left _ (List.mem_append_left _ (List.mem_append_left _ (List.mem_append_left _ (List.mem_append_left _ (List.mem_append_left _ (List.mem_append_right _ (List.mem_of_getElem? (i := 7) (l := allW_2) rfl)))))))))))
theorem kw128 : (Cond.selects R_MA y_MA_halt y_MA_halt : Cond) ∈ allW := (List.mem_append_left _ (List.mem_append_left _ (List.mem_append_left _ (List.mem_append_left _ (List.mem_append_left _ (List.mem_append_left _ (List.mem_append_left _ (List.mem_append_left _ (List.mem_append_left _ (List.mem_append_right _ (List.mem_of_getElem? (i := 8) (l := allW_2) rfl)))))))))))
theorem kw129 : (Cond.code y_MA_halt prog_3_method_9_code 1 none : Cond) ∈ allW := (List.mem_append_left _ (List.mem_append_left _ (List.mem_append_left _ (List.mem_append_left _ (List.mem_append_left _ (List.mem_append_left _ (List.mem_append_left _ (List.mem_append_left _ (List.mem_append_left _ (List.mem_append_right _ (List.mem_of_getElem? (i := 9) (l := allW_2) rfl)))))))))))
theorem kw130 : (Cond.methodLink R_GS 58 y_MT_length : Cond) ∈ allW := (List.mem_append_left _ (List.mem_append_left _ (List.mem_append_left _ (List.mem_append_left _ (List.mem_append_left _ (List.mem_append_left _ (List.mem_append_left _ (List.mem_append_left _ (List.mem_append_left _ (List.mem_append_right _ (List.mem_of_getElem? (i := 10) (l := allW_2) rfl)))))))))))
theorem kw131 : (Cond.instanceMethod y_MT_length : Cond) ∈ allW := (List.mem_append_left _ (List.mem_append_left _ (List.mem_append_left _ (List.mem_append_left _ (List.mem_append_left _ (List.mem_append_left _ (List.mem_append_left _ (List.mem_append_left _ (List.mem_append_left _ (List.mem_append_right _ (List.mem_of_getElem? (i := 11) (l := allW_2) rfl)))))))))))
theorem kw132 : (Cond.selects R_MT y_MT_length y_MT_length : Cond) ∈ allW := (List.mem_append_left _ (List.mem_append_left _ (List.mem_append_left _ (List.mem_append_left _ (List.mem_append_left _ (List.mem_append_left _ (List.mem_append_left _ (List.mem_append_left _ (List.mem_append_left _ (List.mem_append_right _ (List.mem_of_getElem? (i := 12) (l := allW_2) rfl)))))))))))
theorem kw133 : (Cond.code y_MT_length prog_4_method_10_code 1 (some .int) : Cond) ∈ allW := (List.mem_append_left _ (List.mem_append_left _ (List.mem_append_left _ (List.mem_append_left _ (List.mem_append_left _ (List.mem_append_left _ (List.mem_append_left _ (List.mem_append_left _ (List.mem_append_left _ (List.mem_append_right _ (List.mem_of_getElem? (i := 13) (l := allW_2) rfl)))))))))))
theorem kw134 : (Cond.methodLink "GateStackLaw" 18 y_GS_clear : Cond) ∈ allW := (List.mem_append_left _ (List.mem_append_left _ (List.mem_append_left _ (List.mem_append_left _ (List.mem_append_left _ (List.mem_append_left _ (List.mem_append_left _ (List.mem_append_left _ (List.mem_append_left _ (List.mem_append_right _ (List.mem_of_getElem? (i := 14) (l := allW_2) rfl)))))))))))
theorem kw135 : (Cond.instanceMethod y_GS_clear : Cond) ∈ allW := (List.mem_append_left _ (List.mem_append_left _ (List.mem_append_left _ (List.mem_append_left _ (List.mem_append_left _ (List.mem_append_left _ (List.mem_append_left _ (List.mem_append_left _ (List.mem_append_left _ (List.mem_append_right _ (List.mem_of_getElem? (i := 15) (l := allW_2) rfl)))))))))))
theorem kw136 : (Cond.selects R_GS y_GS_clear y_GS_clear : Cond) ∈ allW := (List.mem_append_left _ (List.mem_append_left _ (List.mem_append_left _ (List.mem_append_left _ (List.mem_append_left _ (List.mem_append_left _ (List.mem_append_left _ (List.mem_append_left _ (List.mem_append_left _ (List.mem_append_right _ (List.mem_of_getElem? (i := 16) (l := allW_2) rfl)))))))))))
theorem kw137 : (Cond.code y_GS_clear prog_1_method_3_code 2 (some .int) : Cond) ∈ allW := (List.mem_append_left _ (List.mem_append_left _ (List.mem_append_left _ (List.mem_append_left _ (List.mem_append_left _ (List.mem_append_left _ (List.mem_append_left _ (List.mem_append_left _ (List.mem_append_left _ (List.mem_append_right _ (List.mem_of_getElem? (i := 17) (l := allW_2) rfl)))))))))))
theorem kw138 : (Cond.methodLink R_GS 62 y_MT_empty : Cond) ∈ allW := (List.mem_append_left _ (List.mem_append_left _ (List.mem_append_left _ (List.mem_append_left _ (List.mem_append_left _ (List.mem_append_left _ (List.mem_append_left _ (List.mem_append_left _ (List.mem_append_left _ (List.mem_append_right _ (List.mem_of_getElem? (i := 18) (l := allW_2) rfl)))))))))))
theorem kw139 : (Cond.instanceMethod y_MT_empty : Cond) ∈ allW := (List.mem_append_left _ (List.mem_append_left _ (List.mem_append_left _ (List.mem_append_left _ (List.mem_append_left _ (List.mem_append_left _ (List.mem_append_left _ (List.mem_append_left _ (List.mem_append_left _ (List.mem_append_right _ (List.mem_of_getElem? (i := 19) (l := allW_2) rfl)))))))))))
theorem kw140 : (Cond.selects R_MT y_MT_empty y_MT_empty : Cond) ∈ allW := (List.mem_append_left _ (List.mem_append_left _ (List.mem_append_left _ (List.mem_append_left _ (List.mem_append_left _ (List.mem_append_left _ (List.mem_append_left _ (List.mem_append_left _ (List.mem_append_left _ (List.mem_append_right _ (List.mem_of_getElem? (i := 20) (l := allW_2) rfl)))))))))))
theorem kw141 : (Cond.code y_MT_empty prog_4_method_3_code 1 none : Cond) ∈ allW := (List.mem_append_left _ (List.mem_append_left _ (List.mem_append_left _ (List.mem_append_left _ (List.mem_append_left _ (List.mem_append_left _ (List.mem_append_left _ (List.mem_append_left _ (List.mem_append_left _ (List.mem_append_right _ (List.mem_of_getElem? (i := 21) (l := allW_2) rfl)))))))))))
theorem kw142 : (Cond.methodLink R_MT 38 y_MT_forget : Cond) ∈ allW := (List.mem_append_left _ (List.mem_append_left _ (List.mem_append_left _ (List.mem_append_left _ (List.mem_append_left _ (List.mem_append_left _ (List.mem_append_left _ (List.mem_append_left _ (List.mem_append_left _ (List.mem_append_right _ (List.mem_of_getElem? (i := 22) (l := allW_2) rfl)))))))))))
theorem kw143 : (Cond.instanceMethod y_MT_forget : Cond) ∈ allW := (List.mem_append_left _ (List.mem_append_left _ (List.mem_append_left _ (List.mem_append_left _ (List.mem_append_left _ (List.mem_append_left _ (List.mem_append_left _ (List.mem_append_left _ (List.mem_append_left _ (List.mem_append_right _ (List.mem_of_getElem? (i := 23) (l := allW_2) rfl)))))))))))
theorem kw144 : (Cond.selects R_MT y_MT_forget y_MT_forget : Cond) ∈ allW := (List.mem_append_left _ (List.mem_append_left _ (List.mem_append_left _ (List.mem_append_left _ (List.mem_append_left _ (List.mem_append_left _ (List.mem_append_left _ (List.mem_append_left _ (List.mem_append_left _ (List.mem_append_right _ (List.mem_of_getElem? (i := 24) (l := allW_2) rfl)))))))))))
theorem kw145 : (Cond.code y_MT_forget prog_4_method_4_code 1 none : Cond) ∈ allW := (List.mem_append_left _ (List.mem_append_left _ (List.mem_append_left _ (List.mem_append_left _ (List.mem_append_left _ (List.mem_append_left _ (List.mem_append_left _ (List.mem_append_left _ (List.mem_append_left _ (List.mem_append_right _ (List.mem_of_getElem? (i := 25) (l := allW_2) rfl)))))))))))
theorem kw146 : (Cond.methodLink "GateStackLaw" 23 y_GS_compile : Cond) ∈ allW := (List.mem_append_left _ (List.mem_append_left _ (List.mem_append_left _ (List.mem_append_left _ (List.mem_append_left _ (List.mem_append_left _ (List.mem_append_left _ (List.mem_append_left _ (List.mem_append_left _ (List.mem_append_right _ (List.mem_of_getElem? (i := 26) (l := allW_2) rfl)))))))))))
theorem kw147 : (Cond.instanceMethod y_GS_compile : Cond) ∈ allW := (List.mem_append_left _ (List.mem_append_left _ (List.mem_append_left _ (List.mem_append_left _ (List.mem_append_left _ (List.mem_append_left _ (List.mem_append_left _ (List.mem_append_left _ (List.mem_append_left _ (List.mem_append_right _ (List.mem_of_getElem? (i := 27) (l := allW_2) rfl)))))))))))
theorem kw148 : (Cond.selects R_GS y_GS_compile y_GS_compile : Cond) ∈ allW := (List.mem_append_left _ (List.mem_append_left _ (List.mem_append_left _ (List.mem_append_left _ (List.mem_append_left _ (List.mem_append_left _ (List.mem_append_left _ (List.mem_append_left _ (List.mem_append_left _ (List.mem_append_right _ (List.mem_of_getElem? (i := 28) (l := allW_2) rfl)))))))))))
theorem kw149 : (Cond.code y_GS_compile prog_1_method_4_code 4 (some .int) : Cond) ∈ allW := (List.mem_append_left _ (List.mem_append_left _ (List.mem_append_left _ (List.mem_append_left _ (List.mem_append_left _ (List.mem_append_left _ (List.mem_append_left _ (List.mem_append_left _ (List.mem_append_left _ (List.mem_append_right _ (List.mem_of_getElem? (i := 29) (l := allW_2) rfl)))))))))))
theorem kw150 : (Cond.methodLink R_GS 65 y_RD_faultOf : Cond) ∈ allW := (List.mem_append_left _ (List.mem_append_left _ (List.mem_append_left _ (List.mem_append_left _ (List.mem_append_left _ (List.mem_append_left _ (List.mem_append_left _ (List.mem_append_left _ (List.mem_append_left _ (List.mem_append_right _ (List.mem_of_getElem? (i := 30) (l := allW_2) rfl)))))))))))
theorem kw151 : (Cond.instanceMethod y_RD_faultOf : Cond) ∈ allW := (List.mem_append_left _ (List.mem_append_left _ (List.mem_append_left _ (List.mem_append_left _ (List.mem_append_left _ (List.mem_append_left _ (List.mem_append_left _ (List.mem_append_left _ (List.mem_append_left _ (List.mem_append_right _ (List.mem_of_getElem? (i := 31) (l := allW_2) rfl)))))))))))
theorem kw152 : (Cond.selects R_RD y_RD_faultOf y_RD_faultOf : Cond) ∈ allW := (List.mem_append_left _ (List.mem_append_left _ (List.mem_append_left _ (List.mem_append_left _ (List.mem_append_left _ (List.mem_append_left _ (List.mem_append_left _ (List.mem_append_left _ (List.mem_append_left _ (List.mem_append_right _ (List.mem_of_getElem? (i := 32) (l := allW_2) rfl)))))))))))
theorem kw153 : (Cond.code y_RD_faultOf prog_6_method_2_code 4 (some .int) : Cond) ∈ allW := (List.mem_append_left _ (List.mem_append_left _ (List.mem_append_left _ (List.mem_append_left _ (List.mem_append_left _ (List.mem_append_left _ (List.mem_append_left _ (List.mem_append_left _ (List.mem_append_left _ (List.mem_append_right _ (List.mem_of_getElem? (i := 33) (l := allW_2) rfl)))))))))))
theorem kw154 : (Cond.methodLink R_RD 15 y_MT_forget : Cond) ∈ allW := (List.mem_append_left _ (List.mem_append_left _ (List.mem_append_left _ (List.mem_append_left _ (List.mem_append_left _ (List.mem_append_left _ (List.mem_append_left _ (List.mem_append_left _ (List.mem_append_left _ (List.mem_append_right _ (List.mem_of_getElem? (i := 34) (l := allW_2) rfl)))))))))))
theorem kw155 : (Cond.methodLink R_RD 27 y_MT_length : Cond) ∈ allW := (List.mem_append_left _ (List.mem_append_left _ (List.mem_append_left _ (List.mem_append_left _ (List.mem_append_left _ (List.mem_append_left _ (List.mem_append_left _ (List.mem_append_left _ (List.mem_append_left _ (List.mem_append_right _ (List.mem_of_getElem? (i := 35) (l := allW_2) rfl)))))))))))
theorem kw156 : (Cond.methodLink R_RD 31 y_RD_takes : Cond) ∈ allW := (List.mem_append_left _ (List.mem_append_left _ (List.mem_append_left _ (List.mem_append_left _ (List.mem_append_left _ (List.mem_append_left _ (List.mem_append_left _ (List.mem_append_left _ (List.mem_append_left _ (List.mem_append_right _ (List.mem_of_getElem? (i := 36) (l := allW_2) rfl)))))))))))
theorem kw157 : (Cond.instanceMethod y_RD_takes : Cond) ∈ allW := (List.mem_append_left _ (List.mem_append_left _ (List.mem_append_left _ (List.mem_append_left _ (List.mem_append_left _ (List.mem_append_left _ (List.mem_append_left _ (List.mem_append_left _ (List.mem_append_left _ (List.mem_append_right _ (List.mem_of_getElem? (i := 37) (l := allW_2) rfl)))))))))))
theorem kw158 : (Cond.code y_RD_takes prog_6_method_3_code 4 (some .boolean) : Cond) ∈ allW := (List.mem_append_left _ (List.mem_append_left _ (List.mem_append_left _ (List.mem_append_left _ (List.mem_append_left _ (List.mem_append_left _ (List.mem_append_left _ (List.mem_append_left _ (List.mem_append_left _ (List.mem_append_right _ (List.mem_of_getElem? (i := 38) (l := allW_2) rfl)))))))))))
theorem kw159 : (Cond.methodLink R_RD 35 y_MT_signAt : Cond) ∈ allW := (List.mem_append_left _ (List.mem_append_left _ (List.mem_append_left _ (List.mem_append_left _ (List.mem_append_left _ (List.mem_append_left _ (List.mem_append_left _ (List.mem_append_left _ (List.mem_append_left _ (List.mem_append_right _ (List.mem_of_getElem? (i := 39) (l := allW_2) rfl)))))))))))
theorem kw160 : (Cond.instanceMethod y_MT_signAt : Cond) ∈ allW := (List.mem_append_left _ (List.mem_append_left _ (List.mem_append_left _ (List.mem_append_left _ (List.mem_append_left _ (List.mem_append_left _ (List.mem_append_left _ (List.mem_append_left _ (List.mem_append_left _ (List.mem_append_right _ (List.mem_of_getElem? (i := 40) (l := allW_2) rfl)))))))))))
theorem kw161 : (Cond.selects R_MT y_MT_signAt y_MT_signAt : Cond) ∈ allW := (List.mem_append_left _ (List.mem_append_left _ (List.mem_append_left _ (List.mem_append_left _ (List.mem_append_left _ (List.mem_append_left _ (List.mem_append_left _ (List.mem_append_left _ (List.mem_append_left _ (List.mem_append_right _ (List.mem_of_getElem? (i := 41) (l := allW_2) rfl)))))))))))
theorem kw162 : (Cond.code y_MT_signAt prog_4_method_14_code 2 (some .int) : Cond) ∈ allW := (List.mem_append_left _ (List.mem_append_left _ (List.mem_append_left _ (List.mem_append_left _ (List.mem_append_left _ (List.mem_append_left _ (List.mem_append_left _ (List.mem_append_left _ (List.mem_append_left _ (List.mem_append_right _ (List.mem_of_getElem? (i := 42) (l := allW_2) rfl)))))))))))
theorem kw163 : (Cond.methodLink R_RD 39 y_RD_takesProcedure : Cond) ∈ allW := (List.mem_append_left _ (List.mem_append_left _ (List.mem_append_left _ (List.mem_append_left _ (List.mem_append_left _ (List.mem_append_left _ (List.mem_append_left _ (List.mem_append_left _ (List.mem_append_left _ (List.mem_append_right _ (List.mem_of_getElem? (i := 43) (l := allW_2) rfl)))))))))))
theorem kw164 : (Cond.instanceMethod y_RD_takesProcedure : Cond) ∈ allW := (List.mem_append_left _ (List.mem_append_left _ (List.mem_append_left _ (List.mem_append_left _ (List.mem_append_left _ (List.mem_append_left _ (List.mem_append_left _ (List.mem_append_left _ (List.mem_append_left _ (List.mem_append_right _ (List.mem_of_getElem? (i := 44) (l := allW_2) rfl)))))))))))
theorem kw165 : (Cond.code y_RD_takesProcedure prog_6_method_4_code 4 (some .boolean) : Cond) ∈ allW := (List.mem_append_left _ (List.mem_append_left _ (List.mem_append_left _ (List.mem_append_left _ (List.mem_append_left _ (List.mem_append_left _ (List.mem_append_left _ (List.mem_append_left _ (List.mem_append_left _ (List.mem_append_right _ (List.mem_of_getElem? (i := 45) (l := allW_2) rfl)))))))))))
theorem kw166 : (Cond.static y_GS_isLetter : Cond) ∈ allW := (List.mem_append_left _ (List.mem_append_left _ (List.mem_append_left _ (List.mem_append_left _ (List.mem_append_left _ (List.mem_append_left _ (List.mem_append_left _ (List.mem_append_left _ (List.mem_append_left _ (List.mem_append_right _ (List.mem_of_getElem? (i := 46) (l := allW_2) rfl)))))))))))
theorem kw167 : (Cond.code y_GS_isLetter prog_1_method_20_code 1 (some .boolean) : Cond) ∈ allW := (List.mem_append_left _ (List.mem_append_left _ (List.mem_append_left _ (List.mem_append_left _ (List.mem_append_left _ (List.mem_append_left _ (List.mem_append_left _ (List.mem_append_left _ (List.mem_append_left _ (List.mem_append_right _ (List.mem_of_getElem? (i := 47) (l := allW_2) rfl)))))))))))
theorem kw168 : (Cond.methodLink R_RD 81 y_MT_addProcedure : Cond) ∈ allW := (List.mem_append_left _ (List.mem_append_left _ (List.mem_append_left _ (List.mem_append_left _ (List.mem_append_left _ (List.mem_append_left _ (List.mem_append_left _ (List.mem_append_left _ (List.mem_append_left _ (List.mem_append_right _ (List.mem_of_getElem? (i := 48) (l := allW_2) rfl)))))))))))
theorem kw169 : (Cond.instanceMethod y_MT_addProcedure : Cond) ∈ allW := (List.mem_append_left _ (List.mem_append_left _ (List.mem_append_left _ (List.mem_append_left _ (List.mem_append_left _ (List.mem_append_left _ (List.mem_append_left _ (List.mem_append_left _ (List.mem_append_left _ (List.mem_append_right _ (List.mem_of_getElem? (i := 49) (l := allW_2) rfl)))))))))))
theorem kw170 : (Cond.selects R_MT y_MT_addProcedure y_MT_addProcedure : Cond) ∈ allW := (List.mem_append_left _ (List.mem_append_left _ (List.mem_append_left _ (List.mem_append_left _ (List.mem_append_left _ (List.mem_append_left _ (List.mem_append_left _ (List.mem_append_left _ (List.mem_append_left _ (List.mem_append_right _ (List.mem_of_getElem? (i := 50) (l := allW_2) rfl)))))))))))
theorem kw171 : (Cond.code y_MT_addProcedure prog_4_method_6_code 3 none : Cond) ∈ allW := (List.mem_append_left _ (List.mem_append_left _ (List.mem_append_left _ (List.mem_append_left _ (List.mem_append_left _ (List.mem_append_left _ (List.mem_append_left _ (List.mem_append_left _ (List.mem_append_left _ (List.mem_append_right _ (List.mem_of_getElem? (i := 51) (l := allW_2) rfl)))))))))))
theorem kw172 : (Cond.static y_GS_isLetterNumber : Cond) ∈ allW := (List.mem_append_left _ (List.mem_append_left _ (List.mem_append_left _ (List.mem_append_left _ (List.mem_append_left _ (List.mem_append_left _ (List.mem_append_left _ (List.mem_append_left _ (List.mem_append_left _ (List.mem_append_right _ (List.mem_of_getElem? (i := 52) (l := allW_2) rfl)))))))))))
theorem kw173 : (Cond.code y_GS_isLetterNumber prog_1_method_19_code 1 (some .boolean) : Cond) ∈ allW := (List.mem_append_left _ (List.mem_append_left _ (List.mem_append_left _ (List.mem_append_left _ (List.mem_append_left _ (List.mem_append_left _ (List.mem_append_left _ (List.mem_append_left _ (List.mem_append_left _ (List.mem_append_right _ (List.mem_of_getElem? (i := 53) (l := allW_2) rfl)))))))))))
theorem kw174 : (Cond.static y_GS_hasBit : Cond) ∈ allW := (List.mem_append_left _ (List.mem_append_left _ (List.mem_append_left _ (List.mem_append_left _ (List.mem_append_left _ (List.mem_append_left _ (List.mem_append_left _ (List.mem_append_left _ (List.mem_append_left _ (List.mem_append_right _ (List.mem_of_getElem? (i := 54) (l := allW_2) rfl)))))))))))
theorem kw175 : (Cond.code y_GS_hasBit prog_1_method_24_code 2 (some .boolean) : Cond) ∈ allW := (List.mem_append_left _ (List.mem_append_left _ (List.mem_append_left _ (List.mem_append_left _ (List.mem_append_left _ (List.mem_append_left _ (List.mem_append_left _ (List.mem_append_left _ (List.mem_append_left _ (List.mem_append_right _ (List.mem_of_getElem? (i := 55) (l := allW_2) rfl)))))))))))
theorem kw176 : (Cond.methodLink R_RD 52 y_RD_begins : Cond) ∈ allW := (List.mem_append_left _ (List.mem_append_left _ (List.mem_append_left _ (List.mem_append_left _ (List.mem_append_left _ (List.mem_append_left _ (List.mem_append_left _ (List.mem_append_left _ (List.mem_append_left _ (List.mem_append_right _ (List.mem_of_getElem? (i := 56) (l := allW_2) rfl)))))))))))
theorem kw177 : (Cond.instanceMethod y_RD_begins : Cond) ∈ allW := (List.mem_append_left _ (List.mem_append_left _ (List.mem_append_left _ (List.mem_append_left _ (List.mem_append_left _ (List.mem_append_left _ (List.mem_append_left _ (List.mem_append_left _ (List.mem_append_left _ (List.mem_append_right _ (List.mem_of_getElem? (i := 57) (l := allW_2) rfl)))))))))))
theorem kw178 : (Cond.code y_RD_begins prog_6_method_14_code 3 (some .boolean) : Cond) ∈ allW := (List.mem_append_left _ (List.mem_append_left _ (List.mem_append_left _ (List.mem_append_left _ (List.mem_append_left _ (List.mem_append_left _ (List.mem_append_left _ (List.mem_append_left _ (List.mem_append_left _ (List.mem_append_right _ (List.mem_of_getElem? (i := 58) (l := allW_2) rfl)))))))))))
theorem kw179 : (Cond.methodLink R_RD 55 y_RD_expects : Cond) ∈ allW := (List.mem_append_left _ (List.mem_append_left _ (List.mem_append_left _ (List.mem_append_left _ (List.mem_append_left _ (List.mem_append_left _ (List.mem_append_left _ (List.mem_append_left _ (List.mem_append_left _ (List.mem_append_right _ (List.mem_of_getElem? (i := 59) (l := allW_2) rfl)))))))))))
theorem kw180 : (Cond.instanceMethod y_RD_expects : Cond) ∈ allW := (List.mem_append_left _ (List.mem_append_left _ (List.mem_append_left _ (List.mem_append_left _ (List.mem_append_left _ (List.mem_append_left _ (List.mem_append_left _ (List.mem_append_left _ (List.mem_append_right _ (List.mem_of_getElem? (i := 0) (l := allW_3) rfl))))))))))
theorem kw181 : (Cond.code y_RD_expects prog_6_method_15_code 2 (some .boolean) : Cond) ∈ allW := (List.mem_append_left _ (List.mem_append_left _ (List.mem_append_left _ (List.mem_append_left _ (List.mem_append_left _ (List.mem_append_left _ (List.mem_append_left _ (List.mem_append_left _ (List.mem_append_right _ (List.mem_of_getElem? (i := 1) (l := allW_3) rfl))))))))))
theorem kw182 : (Cond.methodLink R_RD 45 y_RD_opens : Cond) ∈ allW := (List.mem_append_left _ (List.mem_append_left _ (List.mem_append_left _ (List.mem_append_left _ (List.mem_append_left _ (List.mem_append_left _ (List.mem_append_left _ (List.mem_append_left _ (List.mem_append_right _ (List.mem_of_getElem? (i := 2) (l := allW_3) rfl))))))))))
theorem kw183 : (Cond.instanceMethod y_RD_opens : Cond) ∈ allW := (List.mem_append_left _ (List.mem_append_left _ (List.mem_append_left _ (List.mem_append_left _ (List.mem_append_left _ (List.mem_append_left _ (List.mem_append_left _ (List.mem_append_left _ (List.mem_append_right _ (List.mem_of_getElem? (i := 3) (l := allW_3) rfl))))))))))
theorem kw184 : (Cond.code y_RD_opens prog_6_method_13_code 3 (some .boolean) : Cond) ∈ allW := (List.mem_append_left _ (List.mem_append_left _ (List.mem_append_left _ (List.mem_append_left _ (List.mem_append_left _ (List.mem_append_left _ (List.mem_append_left _ (List.mem_append_left _ (List.mem_append_right _ (List.mem_of_getElem? (i := 4) (l := allW_3) rfl))))))))))
theorem kw185 : (Cond.methodLink R_RD 49 y_RD_takesStatement : Cond) ∈ allW := (List.mem_append_left _ (List.mem_append_left _ (List.mem_append_left _ (List.mem_append_left _ (List.mem_append_left _ (List.mem_append_left _ (List.mem_append_left _ (List.mem_append_left _ (List.mem_append_right _ (List.mem_of_getElem? (i := 5) (l := allW_3) rfl))))))))))
theorem kw186 : (Cond.instanceMethod y_RD_takesStatement : Cond) ∈ allW := (List.mem_append_left _ (List.mem_append_left _ (List.mem_append_left _ (List.mem_append_left _ (List.mem_append_left _ (List.mem_append_left _ (List.mem_append_left _ (List.mem_append_left _ (List.mem_append_right _ (List.mem_of_getElem? (i := 6) (l := allW_3) rfl))))))))))
theorem kw187 : (Cond.code y_RD_takesStatement prog_6_method_5_code 5 (some .boolean) : Cond) ∈ allW := (List.mem_append_left _ (List.mem_append_left _ (List.mem_append_left _ (List.mem_append_left _ (List.mem_append_left _ (List.mem_append_left _ (List.mem_append_left _ (List.mem_append_left _ (List.mem_append_right _ (List.mem_of_getElem? (i := 7) (l := allW_3) rfl))))))))))
theorem kw188 : (Cond.methodLink R_RD 85 y_RD_closesBlock : Cond) ∈ allW := (List.mem_append_left _ (List.mem_append_left _ (List.mem_append_left _ (List.mem_append_left _ (List.mem_append_left _ (List.mem_append_left _ (List.mem_append_left _ (List.mem_append_left _ (List.mem_append_right _ (List.mem_of_getElem? (i := 8) (l := allW_3) rfl))))))))))
theorem kw189 : (Cond.instanceMethod y_RD_closesBlock : Cond) ∈ allW := (List.mem_append_left _ (List.mem_append_left _ (List.mem_append_left _ (List.mem_append_left _ (List.mem_append_left _ (List.mem_append_left _ (List.mem_append_left _ (List.mem_append_left _ (List.mem_append_right _ (List.mem_of_getElem? (i := 9) (l := allW_3) rfl))))))))))
theorem kw190 : (Cond.code y_RD_closesBlock prog_6_method_7_code 5 (some .boolean) : Cond) ∈ allW := (List.mem_append_left _ (List.mem_append_left _ (List.mem_append_left _ (List.mem_append_left _ (List.mem_append_left _ (List.mem_append_left _ (List.mem_append_left _ (List.mem_append_left _ (List.mem_append_right _ (List.mem_of_getElem? (i := 10) (l := allW_3) rfl))))))))))
theorem kw191 : (Cond.methodLink R_RD 103 y_MT_addBlock : Cond) ∈ allW := (List.mem_append_left _ (List.mem_append_left _ (List.mem_append_left _ (List.mem_append_left _ (List.mem_append_left _ (List.mem_append_left _ (List.mem_append_left _ (List.mem_append_left _ (List.mem_append_right _ (List.mem_of_getElem? (i := 11) (l := allW_3) rfl))))))))))
theorem kw192 : (Cond.instanceMethod y_MT_addBlock : Cond) ∈ allW := (List.mem_append_left _ (List.mem_append_left _ (List.mem_append_left _ (List.mem_append_left _ (List.mem_append_left _ (List.mem_append_left _ (List.mem_append_left _ (List.mem_append_left _ (List.mem_append_right _ (List.mem_of_getElem? (i := 12) (l := allW_3) rfl))))))))))
theorem kw193 : (Cond.selects R_MT y_MT_addBlock y_MT_addBlock : Cond) ∈ allW := (List.mem_append_left _ (List.mem_append_left _ (List.mem_append_left _ (List.mem_append_left _ (List.mem_append_left _ (List.mem_append_left _ (List.mem_append_left _ (List.mem_append_left _ (List.mem_append_right _ (List.mem_of_getElem? (i := 13) (l := allW_3) rfl))))))))))
theorem kw194 : (Cond.code y_MT_addBlock prog_4_method_9_code 3 none : Cond) ∈ allW := (List.mem_append_left _ (List.mem_append_left _ (List.mem_append_left _ (List.mem_append_left _ (List.mem_append_left _ (List.mem_append_left _ (List.mem_append_left _ (List.mem_append_left _ (List.mem_append_right _ (List.mem_of_getElem? (i := 14) (l := allW_3) rfl))))))))))
theorem kw195 : (Cond.methodLink R_MT 55 y_MT_isPlace : Cond) ∈ allW := (List.mem_append_left _ (List.mem_append_left _ (List.mem_append_left _ (List.mem_append_left _ (List.mem_append_left _ (List.mem_append_left _ (List.mem_append_left _ (List.mem_append_left _ (List.mem_append_right _ (List.mem_of_getElem? (i := 15) (l := allW_3) rfl))))))))))
theorem kw196 : (Cond.instanceMethod y_MT_isPlace : Cond) ∈ allW := (List.mem_append_left _ (List.mem_append_left _ (List.mem_append_left _ (List.mem_append_left _ (List.mem_append_left _ (List.mem_append_left _ (List.mem_append_left _ (List.mem_append_left _ (List.mem_append_right _ (List.mem_of_getElem? (i := 16) (l := allW_3) rfl))))))))))
theorem kw197 : (Cond.code y_MT_isPlace prog_4_method_22_code 2 (some .boolean) : Cond) ∈ allW := (List.mem_append_left _ (List.mem_append_left _ (List.mem_append_left _ (List.mem_append_left _ (List.mem_append_left _ (List.mem_append_left _ (List.mem_append_left _ (List.mem_append_left _ (List.mem_append_right _ (List.mem_of_getElem? (i := 17) (l := allW_3) rfl))))))))))
theorem kw198 : (Cond.methodLink R_RD 88 y_RD_behindFirstSign : Cond) ∈ allW := (List.mem_append_left _ (List.mem_append_left _ (List.mem_append_left _ (List.mem_append_left _ (List.mem_append_left _ (List.mem_append_left _ (List.mem_append_left _ (List.mem_append_left _ (List.mem_append_right _ (List.mem_of_getElem? (i := 18) (l := allW_3) rfl))))))))))
theorem kw199 : (Cond.static y_RD_behindFirstSign : Cond) ∈ allW := (List.mem_append_left _ (List.mem_append_left _ (List.mem_append_left _ (List.mem_append_left _ (List.mem_append_left _ (List.mem_append_left _ (List.mem_append_left _ (List.mem_append_left _ (List.mem_append_right _ (List.mem_of_getElem? (i := 19) (l := allW_3) rfl))))))))))
theorem kw200 : (Cond.code y_RD_behindFirstSign prog_6_method_6_code 1 (some .int) : Cond) ∈ allW := (List.mem_append_left _ (List.mem_append_left _ (List.mem_append_left _ (List.mem_append_left _ (List.mem_append_left _ (List.mem_append_left _ (List.mem_append_left _ (List.mem_append_left _ (List.mem_append_right _ (List.mem_of_getElem? (i := 20) (l := allW_3) rfl))))))))))
theorem kw201 : (Cond.static y_GS_isVariable : Cond) ∈ allW := (List.mem_append_left _ (List.mem_append_left _ (List.mem_append_left _ (List.mem_append_left _ (List.mem_append_left _ (List.mem_append_left _ (List.mem_append_left _ (List.mem_append_left _ (List.mem_append_right _ (List.mem_of_getElem? (i := 21) (l := allW_3) rfl))))))))))
theorem kw202 : (Cond.code y_GS_isVariable prog_1_method_21_code 1 (some .boolean) : Cond) ∈ allW := (List.mem_append_left _ (List.mem_append_left _ (List.mem_append_left _ (List.mem_append_left _ (List.mem_append_left _ (List.mem_append_left _ (List.mem_append_left _ (List.mem_append_left _ (List.mem_append_right _ (List.mem_of_getElem? (i := 22) (l := allW_3) rfl))))))))))
theorem kw203 : (Cond.methodLink R_RD 91 y_MT_addCall : Cond) ∈ allW := (List.mem_append_left _ (List.mem_append_left _ (List.mem_append_left _ (List.mem_append_left _ (List.mem_append_left _ (List.mem_append_left _ (List.mem_append_left _ (List.mem_append_left _ (List.mem_append_right _ (List.mem_of_getElem? (i := 23) (l := allW_3) rfl))))))))))
theorem kw204 : (Cond.instanceMethod y_MT_addCall : Cond) ∈ allW := (List.mem_append_left _ (List.mem_append_left _ (List.mem_append_left _ (List.mem_append_left _ (List.mem_append_left _ (List.mem_append_left _ (List.mem_append_left _ (List.mem_append_left _ (List.mem_append_right _ (List.mem_of_getElem? (i := 24) (l := allW_3) rfl))))))))))
theorem kw205 : (Cond.selects R_MT y_MT_addCall y_MT_addCall : Cond) ∈ allW := (List.mem_append_left _ (List.mem_append_left _ (List.mem_append_left _ (List.mem_append_left _ (List.mem_append_left _ (List.mem_append_left _ (List.mem_append_left _ (List.mem_append_left _ (List.mem_append_right _ (List.mem_of_getElem? (i := 25) (l := allW_3) rfl))))))))))
theorem kw206 : (Cond.code y_MT_addCall prog_4_method_7_code 3 none : Cond) ∈ allW := (List.mem_append_left _ (List.mem_append_left _ (List.mem_append_left _ (List.mem_append_left _ (List.mem_append_left _ (List.mem_append_left _ (List.mem_append_left _ (List.mem_append_left _ (List.mem_append_right _ (List.mem_of_getElem? (i := 26) (l := allW_3) rfl))))))))))
theorem kw207 : (Cond.methodLink R_RD 94 y_MT_addStatement : Cond) ∈ allW := (List.mem_append_left _ (List.mem_append_left _ (List.mem_append_left _ (List.mem_append_left _ (List.mem_append_left _ (List.mem_append_left _ (List.mem_append_left _ (List.mem_append_left _ (List.mem_append_right _ (List.mem_of_getElem? (i := 27) (l := allW_3) rfl))))))))))
theorem kw208 : (Cond.instanceMethod y_MT_addStatement : Cond) ∈ allW := (List.mem_append_left _ (List.mem_append_left _ (List.mem_append_left _ (List.mem_append_left _ (List.mem_append_left _ (List.mem_append_left _ (List.mem_append_left _ (List.mem_append_left _ (List.mem_append_right _ (List.mem_of_getElem? (i := 28) (l := allW_3) rfl))))))))))
theorem kw209 : (Cond.selects R_MT y_MT_addStatement y_MT_addStatement : Cond) ∈ allW := (List.mem_append_left _ (List.mem_append_left _ (List.mem_append_left _ (List.mem_append_left _ (List.mem_append_left _ (List.mem_append_left _ (List.mem_append_left _ (List.mem_append_left _ (List.mem_append_right _ (List.mem_of_getElem? (i := 29) (l := allW_3) rfl))))))))))
theorem kw210 : (Cond.code y_MT_addStatement prog_4_method_8_code 3 none : Cond) ∈ allW := (List.mem_append_left _ (List.mem_append_left _ (List.mem_append_left _ (List.mem_append_left _ (List.mem_append_left _ (List.mem_append_left _ (List.mem_append_left _ (List.mem_append_left _ (List.mem_append_right _ (List.mem_of_getElem? (i := 30) (l := allW_3) rfl))))))))))
theorem kw211 : (Cond.methodLink R_RD 59 y_RD_takesOperand : Cond) ∈ allW := (List.mem_append_left _ (List.mem_append_left _ (List.mem_append_left _ (List.mem_append_left _ (List.mem_append_left _ (List.mem_append_left _ (List.mem_append_left _ (List.mem_append_left _ (List.mem_append_right _ (List.mem_of_getElem? (i := 31) (l := allW_3) rfl))))))))))
theorem kw212 : (Cond.instanceMethod y_RD_takesOperand : Cond) ∈ allW := (List.mem_append_left _ (List.mem_append_left _ (List.mem_append_left _ (List.mem_append_left _ (List.mem_append_left _ (List.mem_append_left _ (List.mem_append_left _ (List.mem_append_left _ (List.mem_append_right _ (List.mem_of_getElem? (i := 32) (l := allW_3) rfl))))))))))
theorem kw213 : (Cond.code y_RD_takesOperand prog_6_method_8_code 4 (some .boolean) : Cond) ∈ allW := (List.mem_append_left _ (List.mem_append_left _ (List.mem_append_left _ (List.mem_append_left _ (List.mem_append_left _ (List.mem_append_left _ (List.mem_append_left _ (List.mem_append_left _ (List.mem_append_right _ (List.mem_of_getElem? (i := 33) (l := allW_3) rfl))))))))))
theorem kw214 : (Cond.static y_GS_isPrefix : Cond) ∈ allW := (List.mem_append_left _ (List.mem_append_left _ (List.mem_append_left _ (List.mem_append_left _ (List.mem_append_left _ (List.mem_append_left _ (List.mem_append_left _ (List.mem_append_left _ (List.mem_append_right _ (List.mem_of_getElem? (i := 34) (l := allW_3) rfl))))))))))
theorem kw215 : (Cond.code y_GS_isPrefix prog_1_method_23_code 1 (some .boolean) : Cond) ∈ allW := (List.mem_append_left _ (List.mem_append_left _ (List.mem_append_left _ (List.mem_append_left _ (List.mem_append_left _ (List.mem_append_left _ (List.mem_append_left _ (List.mem_append_left _ (List.mem_append_right _ (List.mem_of_getElem? (i := 35) (l := allW_3) rfl))))))))))
theorem kw216 : (Cond.methodLink R_RD 109 y_RD_endsOperand : Cond) ∈ allW := (List.mem_append_left _ (List.mem_append_left _ (List.mem_append_left _ (List.mem_append_left _ (List.mem_append_left _ (List.mem_append_left _ (List.mem_append_left _ (List.mem_append_left _ (List.mem_append_right _ (List.mem_of_getElem? (i := 36) (l := allW_3) rfl))))))))))
theorem kw217 : (Cond.instanceMethod y_RD_endsOperand : Cond) ∈ allW := (List.mem_append_left _ (List.mem_append_left _ (List.mem_append_left _ (List.mem_append_left _ (List.mem_append_left _ (List.mem_append_left _ (List.mem_append_left _ (List.mem_append_left _ (List.mem_append_right _ (List.mem_of_getElem? (i := 37) (l := allW_3) rfl))))))))))
theorem kw218 : (Cond.code y_RD_endsOperand prog_6_method_11_code 3 (some .boolean) : Cond) ∈ allW := (List.mem_append_left _ (List.mem_append_left _ (List.mem_append_left _ (List.mem_append_left _ (List.mem_append_left _ (List.mem_append_left _ (List.mem_append_left _ (List.mem_append_left _ (List.mem_append_right _ (List.mem_of_getElem? (i := 38) (l := allW_3) rfl))))))))))
theorem kw219 : (Cond.methodLink R_RD 118 y_RD_lastOpen : Cond) ∈ allW := (List.mem_append_left _ (List.mem_append_left _ (List.mem_append_left _ (List.mem_append_left _ (List.mem_append_left _ (List.mem_append_left _ (List.mem_append_left _ (List.mem_append_left _ (List.mem_append_right _ (List.mem_of_getElem? (i := 39) (l := allW_3) rfl))))))))))
theorem kw220 : (Cond.instanceMethod y_RD_lastOpen : Cond) ∈ allW := (List.mem_append_left _ (List.mem_append_left _ (List.mem_append_left _ (List.mem_append_left _ (List.mem_append_left _ (List.mem_append_left _ (List.mem_append_left _ (List.mem_append_left _ (List.mem_append_right _ (List.mem_of_getElem? (i := 40) (l := allW_3) rfl))))))))))
theorem kw221 : (Cond.code y_RD_lastOpen prog_6_method_12_code 2 (some .int) : Cond) ∈ allW := (List.mem_append_left _ (List.mem_append_left _ (List.mem_append_left _ (List.mem_append_left _ (List.mem_append_left _ (List.mem_append_left _ (List.mem_append_left _ (List.mem_append_left _ (List.mem_append_right _ (List.mem_of_getElem? (i := 41) (l := allW_3) rfl))))))))))
theorem kw222 : (Cond.static y_GS_isDigit : Cond) ∈ allW := (List.mem_append_left _ (List.mem_append_left _ (List.mem_append_left _ (List.mem_append_left _ (List.mem_append_left _ (List.mem_append_left _ (List.mem_append_left _ (List.mem_append_left _ (List.mem_append_right _ (List.mem_of_getElem? (i := 42) (l := allW_3) rfl))))))))))
theorem kw223 : (Cond.code y_GS_isDigit prog_1_method_22_code 1 (some .boolean) : Cond) ∈ allW := (List.mem_append_left _ (List.mem_append_left _ (List.mem_append_left _ (List.mem_append_left _ (List.mem_append_left _ (List.mem_append_left _ (List.mem_append_left _ (List.mem_append_left _ (List.mem_append_right _ (List.mem_of_getElem? (i := 43) (l := allW_3) rfl))))))))))
theorem kw224 : (Cond.methodLink R_RD 65 y_RD_takesDigit : Cond) ∈ allW := (List.mem_append_left _ (List.mem_append_left _ (List.mem_append_left _ (List.mem_append_left _ (List.mem_append_left _ (List.mem_append_left _ (List.mem_append_left _ (List.mem_append_left _ (List.mem_append_right _ (List.mem_of_getElem? (i := 44) (l := allW_3) rfl))))))))))
theorem kw225 : (Cond.instanceMethod y_RD_takesDigit : Cond) ∈ allW := (List.mem_append_left _ (List.mem_append_left _ (List.mem_append_left _ (List.mem_append_left _ (List.mem_append_left _ (List.mem_append_left _ (List.mem_append_left _ (List.mem_append_left _ (List.mem_append_right _ (List.mem_of_getElem? (i := 45) (l := allW_3) rfl))))))))))
theorem kw226 : (Cond.code y_RD_takesDigit prog_6_method_9_code 1 (some .boolean) : Cond) ∈ allW := (List.mem_append_left _ (List.mem_append_left _ (List.mem_append_left _ (List.mem_append_left _ (List.mem_append_left _ (List.mem_append_left _ (List.mem_append_left _ (List.mem_append_left _ (List.mem_append_right _ (List.mem_of_getElem? (i := 46) (l := allW_3) rfl))))))))))
theorem kw227 : (Cond.methodLink R_RD 69 y_RD_takesOperator : Cond) ∈ allW := (List.mem_append_left _ (List.mem_append_left _ (List.mem_append_left _ (List.mem_append_left _ (List.mem_append_left _ (List.mem_append_left _ (List.mem_append_left _ (List.mem_append_left _ (List.mem_append_right _ (List.mem_of_getElem? (i := 47) (l := allW_3) rfl))))))))))
theorem kw228 : (Cond.instanceMethod y_RD_takesOperator : Cond) ∈ allW := (List.mem_append_left _ (List.mem_append_left _ (List.mem_append_left _ (List.mem_append_left _ (List.mem_append_left _ (List.mem_append_left _ (List.mem_append_left _ (List.mem_append_left _ (List.mem_append_right _ (List.mem_of_getElem? (i := 48) (l := allW_3) rfl))))))))))
theorem kw229 : (Cond.code y_RD_takesOperator prog_6_method_10_code 5 (some .boolean) : Cond) ∈ allW := (List.mem_append_left _ (List.mem_append_left _ (List.mem_append_left _ (List.mem_append_left _ (List.mem_append_left _ (List.mem_append_left _ (List.mem_append_left _ (List.mem_append_left _ (List.mem_append_right _ (List.mem_of_getElem? (i := 49) (l := allW_3) rfl))))))))))
theorem kw230 : (Cond.static y_GS_operationOf : Cond) ∈ allW := (List.mem_append_left _ (List.mem_append_left _ (List.mem_append_left _ (List.mem_append_left _ (List.mem_append_left _ (List.mem_append_left _ (List.mem_append_left _ (List.mem_append_left _ (List.mem_append_right _ (List.mem_of_getElem? (i := 50) (l := allW_3) rfl))))))))))
theorem kw231 : (Cond.code y_GS_operationOf prog_1_method_25_code 1 (some .int) : Cond) ∈ allW := (List.mem_append_left _ (List.mem_append_left _ (List.mem_append_left _ (List.mem_append_left _ (List.mem_append_left _ (List.mem_append_left _ (List.mem_append_left _ (List.mem_append_left _ (List.mem_append_right _ (List.mem_of_getElem? (i := 51) (l := allW_3) rfl))))))))))
theorem kw232 : (Cond.methodLink R_GS 69 y_MT_hasTwins : Cond) ∈ allW := (List.mem_append_left _ (List.mem_append_left _ (List.mem_append_left _ (List.mem_append_left _ (List.mem_append_left _ (List.mem_append_left _ (List.mem_append_left _ (List.mem_append_left _ (List.mem_append_right _ (List.mem_of_getElem? (i := 52) (l := allW_3) rfl))))))))))
theorem kw233 : (Cond.instanceMethod y_MT_hasTwins : Cond) ∈ allW := (List.mem_append_left _ (List.mem_append_left _ (List.mem_append_left _ (List.mem_append_left _ (List.mem_append_left _ (List.mem_append_left _ (List.mem_append_left _ (List.mem_append_left _ (List.mem_append_right _ (List.mem_of_getElem? (i := 53) (l := allW_3) rfl))))))))))
theorem kw234 : (Cond.selects R_MT y_MT_hasTwins y_MT_hasTwins : Cond) ∈ allW := (List.mem_append_left _ (List.mem_append_left _ (List.mem_append_left _ (List.mem_append_left _ (List.mem_append_left _ (List.mem_append_left _ (List.mem_append_left _ (List.mem_append_left _ (List.mem_append_right _ (List.mem_of_getElem? (i := 54) (l := allW_3) rfl))))))))))
theorem kw235 : (Cond.code y_MT_hasTwins prog_4_method_12_code 1 (some .boolean) : Cond) ∈ allW := (List.mem_append_left _ (List.mem_append_left _ (List.mem_append_left _ (List.mem_append_left _ (List.mem_append_left _ (List.mem_append_left _ (List.mem_append_left _ (List.mem_append_left _ (List.mem_append_right _ (List.mem_of_getElem? (i := 55) (l := allW_3) rfl))))))))))
theorem kw236 : (Cond.methodLink R_GS 73 y_MT_mark : Cond) ∈ allW := (List.mem_append_left _ (List.mem_append_left _ (List.mem_append_left _ (List.mem_append_left _ (List.mem_append_left _ (List.mem_append_left _ (List.mem_append_left _ (List.mem_append_left _ (List.mem_append_right _ (List.mem_of_getElem? (i := 56) (l := allW_3) rfl))))))))))
theorem kw237 : (Cond.instanceMethod y_MT_mark : Cond) ∈ allW := (List.mem_append_left _ (List.mem_append_left _ (List.mem_append_left _ (List.mem_append_left _ (List.mem_append_left _ (List.mem_append_left _ (List.mem_append_left _ (List.mem_append_left _ (List.mem_append_right _ (List.mem_of_getElem? (i := 57) (l := allW_3) rfl))))))))))
theorem kw238 : (Cond.selects R_MT y_MT_mark y_MT_mark : Cond) ∈ allW := (List.mem_append_left _ (List.mem_append_left _ (List.mem_append_left _ (List.mem_append_left _ (List.mem_append_left _ (List.mem_append_left _ (List.mem_append_left _ (List.mem_append_left _ (List.mem_append_right _ (List.mem_of_getElem? (i := 58) (l := allW_3) rfl))))))))))
theorem kw239 : (Cond.code y_MT_mark prog_4_method_5_code 2 none : Cond) ∈ allW := (List.mem_append_left _ (List.mem_append_left _ (List.mem_append_left _ (List.mem_append_left _ (List.mem_append_left _ (List.mem_append_left _ (List.mem_append_left _ (List.mem_append_left _ (List.mem_append_right _ (List.mem_of_getElem? (i := 59) (l := allW_3) rfl))))))))))
theorem kw240 : (Cond.methodLink R_GS 77 y_MT_defined : Cond) ∈ allW := (List.mem_append_left _ (List.mem_append_left _ (List.mem_append_left _ (List.mem_append_left _ (List.mem_append_left _ (List.mem_append_left _ (List.mem_append_left _ (List.mem_append_right _ (List.mem_of_getElem? (i := 0) (l := allW_4) rfl)))))))))
theorem kw241 : (Cond.instanceMethod y_MT_defined : Cond) ∈ allW := (List.mem_append_left _ (List.mem_append_left _ (List.mem_append_left _ (List.mem_append_left _ (List.mem_append_left _ (List.mem_append_left _ (List.mem_append_left _ (List.mem_append_right _ (List.mem_of_getElem? (i := 1) (l := allW_4) rfl)))))))))
theorem kw242 : (Cond.selects R_MT y_MT_defined y_MT_defined : Cond) ∈ allW := (List.mem_append_left _ (List.mem_append_left _ (List.mem_append_left _ (List.mem_append_left _ (List.mem_append_left _ (List.mem_append_left _ (List.mem_append_left _ (List.mem_append_right _ (List.mem_of_getElem? (i := 2) (l := allW_4) rfl)))))))))
theorem kw243 : (Cond.code y_MT_defined prog_4_method_11_code 1 (some .int) : Cond) ∈ allW := (List.mem_append_left _ (List.mem_append_left _ (List.mem_append_left _ (List.mem_append_left _ (List.mem_append_left _ (List.mem_append_left _ (List.mem_append_left _ (List.mem_append_right _ (List.mem_of_getElem? (i := 3) (l := allW_4) rfl)))))))))
theorem kw244 : (Cond.methodLink R_GS 80 y_JI_bitCount : Cond) ∈ allW := (List.mem_append_left _ (List.mem_append_left _ (List.mem_append_left _ (List.mem_append_left _ (List.mem_append_left _ (List.mem_append_left _ (List.mem_append_left _ (List.mem_append_right _ (List.mem_of_getElem? (i := 4) (l := allW_4) rfl)))))))))
theorem kw245 : (Cond.static y_JI_bitCount : Cond) ∈ allW := (List.mem_append_left _ (List.mem_append_left _ (List.mem_append_left _ (List.mem_append_left _ (List.mem_append_left _ (List.mem_append_left _ (List.mem_append_left _ (List.mem_append_right _ (List.mem_of_getElem? (i := 5) (l := allW_4) rfl)))))))))
theorem kw246 : (Cond.code y_JI_bitCount prog_9_method_49_code 1 (some .int) : Cond) ∈ allW := (List.mem_append_left _ (List.mem_append_left _ (List.mem_append_left _ (List.mem_append_left _ (List.mem_append_left _ (List.mem_append_left _ (List.mem_append_left _ (List.mem_append_right _ (List.mem_of_getElem? (i := 6) (l := allW_4) rfl)))))))))
theorem kw247 : (Cond.constant R_JI 265 1431655765 : Cond) ∈ allW := (List.mem_append_left _ (List.mem_append_left _ (List.mem_append_left _ (List.mem_append_left _ (List.mem_append_left _ (List.mem_append_left _ (List.mem_append_left _ (List.mem_append_right _ (List.mem_of_getElem? (i := 7) (l := allW_4) rfl)))))))))
theorem kw248 : (Cond.constant R_JI 266 858993459 : Cond) ∈ allW := (List.mem_append_left _ (List.mem_append_left _ (List.mem_append_left _ (List.mem_append_left _ (List.mem_append_left _ (List.mem_append_left _ (List.mem_append_left _ (List.mem_append_right _ (List.mem_of_getElem? (i := 8) (l := allW_4) rfl)))))))))
theorem kw249 : (Cond.constant R_JI 267 252645135 : Cond) ∈ allW := (List.mem_append_left _ (List.mem_append_left _ (List.mem_append_left _ (List.mem_append_left _ (List.mem_append_left _ (List.mem_append_left _ (List.mem_append_left _ (List.mem_append_right _ (List.mem_of_getElem? (i := 9) (l := allW_4) rfl)))))))))
theorem kw250 : (Cond.methodLink "GateStackLaw" 27 y_GS_fault : Cond) ∈ allW := (List.mem_append_left _ (List.mem_append_left _ (List.mem_append_left _ (List.mem_append_left _ (List.mem_append_left _ (List.mem_append_left _ (List.mem_append_left _ (List.mem_append_right _ (List.mem_of_getElem? (i := 10) (l := allW_4) rfl)))))))))
theorem kw251 : (Cond.instanceMethod y_GS_fault : Cond) ∈ allW := (List.mem_append_left _ (List.mem_append_left _ (List.mem_append_left _ (List.mem_append_left _ (List.mem_append_left _ (List.mem_append_left _ (List.mem_append_left _ (List.mem_append_right _ (List.mem_of_getElem? (i := 11) (l := allW_4) rfl)))))))))
theorem kw252 : (Cond.selects R_GS y_GS_fault y_GS_fault : Cond) ∈ allW := (List.mem_append_left _ (List.mem_append_left _ (List.mem_append_left _ (List.mem_append_left _ (List.mem_append_left _ (List.mem_append_left _ (List.mem_append_left _ (List.mem_append_right _ (List.mem_of_getElem? (i := 12) (l := allW_4) rfl)))))))))
theorem kw253 : (Cond.code y_GS_fault prog_1_method_5_code 2 (some .int) : Cond) ∈ allW := (List.mem_append_left _ (List.mem_append_left _ (List.mem_append_left _ (List.mem_append_left _ (List.mem_append_left _ (List.mem_append_left _ (List.mem_append_left _ (List.mem_append_right _ (List.mem_of_getElem? (i := 13) (l := allW_4) rfl)))))))))
theorem kw254 : (Cond.methodLink "GateStackLaw" 31 y_GS_link : Cond) ∈ allW := (List.mem_append_left _ (List.mem_append_left _ (List.mem_append_left _ (List.mem_append_left _ (List.mem_append_left _ (List.mem_append_left _ (List.mem_append_left _ (List.mem_append_right _ (List.mem_of_getElem? (i := 14) (l := allW_4) rfl)))))))))
theorem kw255 : (Cond.instanceMethod y_GS_link : Cond) ∈ allW := (List.mem_append_left _ (List.mem_append_left _ (List.mem_append_left _ (List.mem_append_left _ (List.mem_append_left _ (List.mem_append_left _ (List.mem_append_left _ (List.mem_append_right _ (List.mem_of_getElem? (i := 15) (l := allW_4) rfl)))))))))
theorem kw256 : (Cond.selects R_GS y_GS_link y_GS_link : Cond) ∈ allW := (List.mem_append_left _ (List.mem_append_left _ (List.mem_append_left _ (List.mem_append_left _ (List.mem_append_left _ (List.mem_append_left _ (List.mem_append_left _ (List.mem_append_right _ (List.mem_of_getElem? (i := 16) (l := allW_4) rfl)))))))))
theorem kw257 : (Cond.code y_GS_link prog_1_method_6_code 2 (some .int) : Cond) ∈ allW := (List.mem_append_left _ (List.mem_append_left _ (List.mem_append_left _ (List.mem_append_left _ (List.mem_append_left _ (List.mem_append_left _ (List.mem_append_left _ (List.mem_append_right _ (List.mem_of_getElem? (i := 17) (l := allW_4) rfl)))))))))
theorem kw258 : (Cond.methodLink R_GS 86 y_MT_isCompiled : Cond) ∈ allW := (List.mem_append_left _ (List.mem_append_left _ (List.mem_append_left _ (List.mem_append_left _ (List.mem_append_left _ (List.mem_append_left _ (List.mem_append_left _ (List.mem_append_right _ (List.mem_of_getElem? (i := 18) (l := allW_4) rfl)))))))))
theorem kw259 : (Cond.instanceMethod y_MT_isCompiled : Cond) ∈ allW := (List.mem_append_left _ (List.mem_append_left _ (List.mem_append_left _ (List.mem_append_left _ (List.mem_append_left _ (List.mem_append_left _ (List.mem_append_left _ (List.mem_append_right _ (List.mem_of_getElem? (i := 19) (l := allW_4) rfl)))))))))
theorem kw260 : (Cond.selects R_MT y_MT_isCompiled y_MT_isCompiled : Cond) ∈ allW := (List.mem_append_left _ (List.mem_append_left _ (List.mem_append_left _ (List.mem_append_left _ (List.mem_append_left _ (List.mem_append_left _ (List.mem_append_left _ (List.mem_append_right _ (List.mem_of_getElem? (i := 20) (l := allW_4) rfl)))))))))
theorem kw261 : (Cond.code y_MT_isCompiled prog_4_method_13_code 1 (some .boolean) : Cond) ∈ allW := (List.mem_append_left _ (List.mem_append_left _ (List.mem_append_left _ (List.mem_append_left _ (List.mem_append_left _ (List.mem_append_left _ (List.mem_append_left _ (List.mem_append_right _ (List.mem_of_getElem? (i := 21) (l := allW_4) rfl)))))))))
theorem kw262 : (Cond.methodLink R_GS 89 y_PR_join : Cond) ∈ allW := (List.mem_append_left _ (List.mem_append_left _ (List.mem_append_left _ (List.mem_append_left _ (List.mem_append_left _ (List.mem_append_left _ (List.mem_append_left _ (List.mem_append_right _ (List.mem_of_getElem? (i := 22) (l := allW_4) rfl)))))))))
theorem kw263 : (Cond.instanceMethod y_PR_join : Cond) ∈ allW := (List.mem_append_left _ (List.mem_append_left _ (List.mem_append_left _ (List.mem_append_left _ (List.mem_append_left _ (List.mem_append_left _ (List.mem_append_left _ (List.mem_append_right _ (List.mem_of_getElem? (i := 23) (l := allW_4) rfl)))))))))
theorem kw264 : (Cond.selects R_PR y_PR_join y_PR_join : Cond) ∈ allW := (List.mem_append_left _ (List.mem_append_left _ (List.mem_append_left _ (List.mem_append_left _ (List.mem_append_left _ (List.mem_append_left _ (List.mem_append_left _ (List.mem_append_right _ (List.mem_of_getElem? (i := 24) (l := allW_4) rfl)))))))))
theorem kw265 : (Cond.code y_PR_join prog_5_method_2_code 3 (some .int) : Cond) ∈ allW := (List.mem_append_left _ (List.mem_append_left _ (List.mem_append_left _ (List.mem_append_left _ (List.mem_append_left _ (List.mem_append_left _ (List.mem_append_left _ (List.mem_append_right _ (List.mem_of_getElem? (i := 25) (l := allW_4) rfl)))))))))
theorem kw266 : (Cond.methodLink R_PR 21 y_PR_forget : Cond) ∈ allW := (List.mem_append_left _ (List.mem_append_left _ (List.mem_append_left _ (List.mem_append_left _ (List.mem_append_left _ (List.mem_append_left _ (List.mem_append_left _ (List.mem_append_right _ (List.mem_of_getElem? (i := 26) (l := allW_4) rfl)))))))))
theorem kw267 : (Cond.instanceMethod y_PR_forget : Cond) ∈ allW := (List.mem_append_left _ (List.mem_append_left _ (List.mem_append_left _ (List.mem_append_left _ (List.mem_append_left _ (List.mem_append_left _ (List.mem_append_left _ (List.mem_append_right _ (List.mem_of_getElem? (i := 27) (l := allW_4) rfl)))))))))
theorem kw268 : (Cond.code y_PR_forget prog_5_method_4_code 2 none : Cond) ∈ allW := (List.mem_append_left _ (List.mem_append_left _ (List.mem_append_left _ (List.mem_append_left _ (List.mem_append_left _ (List.mem_append_left _ (List.mem_append_left _ (List.mem_append_right _ (List.mem_of_getElem? (i := 28) (l := allW_4) rfl)))))))))
theorem kw269 : (Cond.methodLink R_PR 28 y_MT_defined : Cond) ∈ allW := (List.mem_append_left _ (List.mem_append_left _ (List.mem_append_left _ (List.mem_append_left _ (List.mem_append_left _ (List.mem_append_left _ (List.mem_append_left _ (List.mem_append_right _ (List.mem_of_getElem? (i := 29) (l := allW_4) rfl)))))))))
theorem kw270 : (Cond.methodLink R_PR 31 y_PR_takeOver : Cond) ∈ allW := (List.mem_append_left _ (List.mem_append_left _ (List.mem_append_left _ (List.mem_append_left _ (List.mem_append_left _ (List.mem_append_left _ (List.mem_append_left _ (List.mem_append_right _ (List.mem_of_getElem? (i := 30) (l := allW_4) rfl)))))))))
theorem kw271 : (Cond.instanceMethod y_PR_takeOver : Cond) ∈ allW := (List.mem_append_left _ (List.mem_append_left _ (List.mem_append_left _ (List.mem_append_left _ (List.mem_append_left _ (List.mem_append_left _ (List.mem_append_left _ (List.mem_append_right _ (List.mem_of_getElem? (i := 31) (l := allW_4) rfl)))))))))
theorem kw272 : (Cond.code y_PR_takeOver prog_5_method_5_code 3 none : Cond) ∈ allW := (List.mem_append_left _ (List.mem_append_left _ (List.mem_append_left _ (List.mem_append_left _ (List.mem_append_left _ (List.mem_append_left _ (List.mem_append_left _ (List.mem_append_right _ (List.mem_of_getElem? (i := 32) (l := allW_4) rfl)))))))))
theorem kw273 : (Cond.methodLink R_PR 59 y_MT_callsOf : Cond) ∈ allW := (List.mem_append_left _ (List.mem_append_left _ (List.mem_append_left _ (List.mem_append_left _ (List.mem_append_left _ (List.mem_append_left _ (List.mem_append_left _ (List.mem_append_right _ (List.mem_of_getElem? (i := 33) (l := allW_4) rfl)))))))))
theorem kw274 : (Cond.instanceMethod y_MT_callsOf : Cond) ∈ allW := (List.mem_append_left _ (List.mem_append_left _ (List.mem_append_left _ (List.mem_append_left _ (List.mem_append_left _ (List.mem_append_left _ (List.mem_append_left _ (List.mem_append_right _ (List.mem_of_getElem? (i := 34) (l := allW_4) rfl)))))))))
theorem kw275 : (Cond.selects R_MT y_MT_callsOf y_MT_callsOf : Cond) ∈ allW := (List.mem_append_left _ (List.mem_append_left _ (List.mem_append_left _ (List.mem_append_left _ (List.mem_append_left _ (List.mem_append_left _ (List.mem_append_left _ (List.mem_append_right _ (List.mem_of_getElem? (i := 35) (l := allW_4) rfl)))))))))
theorem kw276 : (Cond.code y_MT_callsOf prog_4_method_16_code 2 (some .int) : Cond) ∈ allW := (List.mem_append_left _ (List.mem_append_left _ (List.mem_append_left _ (List.mem_append_left _ (List.mem_append_left _ (List.mem_append_left _ (List.mem_append_left _ (List.mem_append_right _ (List.mem_of_getElem? (i := 36) (l := allW_4) rfl)))))))))
theorem kw277 : (Cond.methodLink R_PR 35 y_PR_lacksOne : Cond) ∈ allW := (List.mem_append_left _ (List.mem_append_left _ (List.mem_append_left _ (List.mem_append_left _ (List.mem_append_left _ (List.mem_append_left _ (List.mem_append_left _ (List.mem_append_right _ (List.mem_of_getElem? (i := 37) (l := allW_4) rfl)))))))))
theorem kw278 : (Cond.instanceMethod y_PR_lacksOne : Cond) ∈ allW := (List.mem_append_left _ (List.mem_append_left _ (List.mem_append_left _ (List.mem_append_left _ (List.mem_append_left _ (List.mem_append_left _ (List.mem_append_left _ (List.mem_append_right _ (List.mem_of_getElem? (i := 38) (l := allW_4) rfl)))))))))
theorem kw279 : (Cond.code y_PR_lacksOne prog_5_method_6_code 3 (some .boolean) : Cond) ∈ allW := (List.mem_append_left _ (List.mem_append_left _ (List.mem_append_left _ (List.mem_append_left _ (List.mem_append_left _ (List.mem_append_left _ (List.mem_append_left _ (List.mem_append_right _ (List.mem_of_getElem? (i := 39) (l := allW_4) rfl)))))))))
theorem kw280 : (Cond.methodLink R_PR 39 y_PR_followChains : Cond) ∈ allW := (List.mem_append_left _ (List.mem_append_left _ (List.mem_append_left _ (List.mem_append_left _ (List.mem_append_left _ (List.mem_append_left _ (List.mem_append_left _ (List.mem_append_right _ (List.mem_of_getElem? (i := 40) (l := allW_4) rfl)))))))))
theorem kw281 : (Cond.instanceMethod y_PR_followChains : Cond) ∈ allW := (List.mem_append_left _ (List.mem_append_left _ (List.mem_append_left _ (List.mem_append_left _ (List.mem_append_left _ (List.mem_append_left _ (List.mem_append_left _ (List.mem_append_right _ (List.mem_of_getElem? (i := 41) (l := allW_4) rfl)))))))))
theorem kw282 : (Cond.code y_PR_followChains prog_5_method_7_code 3 none : Cond) ∈ allW := (List.mem_append_left _ (List.mem_append_left _ (List.mem_append_left _ (List.mem_append_left _ (List.mem_append_left _ (List.mem_append_left _ (List.mem_append_left _ (List.mem_append_right _ (List.mem_of_getElem? (i := 42) (l := allW_4) rfl)))))))))
theorem kw283 : (Cond.methodLink R_PR 42 y_PR_hasCircle : Cond) ∈ allW := (List.mem_append_left _ (List.mem_append_left _ (List.mem_append_left _ (List.mem_append_left _ (List.mem_append_left _ (List.mem_append_left _ (List.mem_append_left _ (List.mem_append_right _ (List.mem_of_getElem? (i := 43) (l := allW_4) rfl)))))))))
theorem kw284 : (Cond.instanceMethod y_PR_hasCircle : Cond) ∈ allW := (List.mem_append_left _ (List.mem_append_left _ (List.mem_append_left _ (List.mem_append_left _ (List.mem_append_left _ (List.mem_append_left _ (List.mem_append_left _ (List.mem_append_right _ (List.mem_of_getElem? (i := 44) (l := allW_4) rfl)))))))))
theorem kw285 : (Cond.code y_PR_hasCircle prog_5_method_8_code 2 (some .boolean) : Cond) ∈ allW := (List.mem_append_left _ (List.mem_append_left _ (List.mem_append_left _ (List.mem_append_left _ (List.mem_append_left _ (List.mem_append_left _ (List.mem_append_left _ (List.mem_append_right _ (List.mem_of_getElem? (i := 45) (l := allW_4) rfl)))))))))
theorem kw286 : (Cond.methodLink R_PR 45 y_JI_bitCount : Cond) ∈ allW := (List.mem_append_left _ (List.mem_append_left _ (List.mem_append_left _ (List.mem_append_left _ (List.mem_append_left _ (List.mem_append_left _ (List.mem_append_left _ (List.mem_append_right _ (List.mem_of_getElem? (i := 46) (l := allW_4) rfl)))))))))
theorem kw287 : (Cond.methodLink "GateStackLaw" 36 y_GS_start : Cond) ∈ allW := (List.mem_append_left _ (List.mem_append_left _ (List.mem_append_left _ (List.mem_append_left _ (List.mem_append_left _ (List.mem_append_left _ (List.mem_append_left _ (List.mem_append_right _ (List.mem_of_getElem? (i := 47) (l := allW_4) rfl)))))))))
theorem kw288 : (Cond.instanceMethod y_GS_start : Cond) ∈ allW := (List.mem_append_left _ (List.mem_append_left _ (List.mem_append_left _ (List.mem_append_left _ (List.mem_append_left _ (List.mem_append_left _ (List.mem_append_left _ (List.mem_append_right _ (List.mem_of_getElem? (i := 48) (l := allW_4) rfl)))))))))
theorem kw289 : (Cond.selects R_GS y_GS_start y_GS_start : Cond) ∈ allW := (List.mem_append_left _ (List.mem_append_left _ (List.mem_append_left _ (List.mem_append_left _ (List.mem_append_left _ (List.mem_append_left _ (List.mem_append_left _ (List.mem_append_right _ (List.mem_of_getElem? (i := 49) (l := allW_4) rfl)))))))))
theorem kw290 : (Cond.code y_GS_start prog_1_method_7_code 1 (some .int) : Cond) ∈ allW := (List.mem_append_left _ (List.mem_append_left _ (List.mem_append_left _ (List.mem_append_left _ (List.mem_append_left _ (List.mem_append_left _ (List.mem_append_left _ (List.mem_append_right _ (List.mem_of_getElem? (i := 50) (l := allW_4) rfl)))))))))
theorem kw291 : (Cond.methodLink R_GS 93 y_MA_isGoing : Cond) ∈ allW := (List.mem_append_left _ (List.mem_append_left _ (List.mem_append_left _ (List.mem_append_left _ (List.mem_append_left _ (List.mem_append_left _ (List.mem_append_left _ (List.mem_append_right _ (List.mem_of_getElem? (i := 51) (l := allW_4) rfl)))))))))
theorem kw292 : (Cond.instanceMethod y_MA_isGoing : Cond) ∈ allW := (List.mem_append_left _ (List.mem_append_left _ (List.mem_append_left _ (List.mem_append_left _ (List.mem_append_left _ (List.mem_append_left _ (List.mem_append_left _ (List.mem_append_right _ (List.mem_of_getElem? (i := 52) (l := allW_4) rfl)))))))))
theorem kw293 : (Cond.selects R_MA y_MA_isGoing y_MA_isGoing : Cond) ∈ allW := (List.mem_append_left _ (List.mem_append_left _ (List.mem_append_left _ (List.mem_append_left _ (List.mem_append_left _ (List.mem_append_left _ (List.mem_append_left _ (List.mem_append_right _ (List.mem_of_getElem? (i := 53) (l := allW_4) rfl)))))))))
theorem kw294 : (Cond.code y_MA_isGoing prog_3_method_2_code 1 (some .boolean) : Cond) ∈ allW := (List.mem_append_left _ (List.mem_append_left _ (List.mem_append_left _ (List.mem_append_left _ (List.mem_append_left _ (List.mem_append_left _ (List.mem_append_left _ (List.mem_append_right _ (List.mem_of_getElem? (i := 54) (l := allW_4) rfl)))))))))
theorem kw295 : (Cond.methodLink R_GS 96 y_MA_begin : Cond) ∈ allW := (List.mem_append_left _ (List.mem_append_left _ (List.mem_append_left _ (List.mem_append_left _ (List.mem_append_left _ (List.mem_append_left _ (List.mem_append_left _ (List.mem_append_right _ (List.mem_of_getElem? (i := 55) (l := allW_4) rfl)))))))))
theorem kw296 : (Cond.instanceMethod y_MA_begin : Cond) ∈ allW := (List.mem_append_left _ (List.mem_append_left _ (List.mem_append_left _ (List.mem_append_left _ (List.mem_append_left _ (List.mem_append_left _ (List.mem_append_left _ (List.mem_append_right _ (List.mem_of_getElem? (i := 56) (l := allW_4) rfl)))))))))
theorem kw297 : (Cond.selects R_MA y_MA_begin y_MA_begin : Cond) ∈ allW := (List.mem_append_left _ (List.mem_append_left _ (List.mem_append_left _ (List.mem_append_left _ (List.mem_append_left _ (List.mem_append_left _ (List.mem_append_left _ (List.mem_append_right _ (List.mem_of_getElem? (i := 57) (l := allW_4) rfl)))))))))
theorem kw298 : (Cond.code y_MA_begin prog_3_method_10_code 2 none : Cond) ∈ allW := (List.mem_append_left _ (List.mem_append_left _ (List.mem_append_left _ (List.mem_append_left _ (List.mem_append_left _ (List.mem_append_left _ (List.mem_append_left _ (List.mem_append_right _ (List.mem_of_getElem? (i := 58) (l := allW_4) rfl)))))))))
theorem kw299 : (Cond.methodLink R_MA 42 y_MA_enter : Cond) ∈ allW := (List.mem_append_left _ (List.mem_append_left _ (List.mem_append_left _ (List.mem_append_left _ (List.mem_append_left _ (List.mem_append_left _ (List.mem_append_left _ (List.mem_append_right _ (List.mem_of_getElem? (i := 59) (l := allW_4) rfl)))))))))
theorem kw300 : (Cond.instanceMethod y_MA_enter : Cond) ∈ allW := (List.mem_append_left _ (List.mem_append_left _ (List.mem_append_left _ (List.mem_append_left _ (List.mem_append_left _ (List.mem_append_left _ (List.mem_append_right _ (List.mem_of_getElem? (i := 0) (l := allW_5) rfl))))))))
theorem kw301 : (Cond.code y_MA_enter prog_3_method_13_code 4 none : Cond) ∈ allW := (List.mem_append_left _ (List.mem_append_left _ (List.mem_append_left _ (List.mem_append_left _ (List.mem_append_left _ (List.mem_append_left _ (List.mem_append_right _ (List.mem_of_getElem? (i := 1) (l := allW_5) rfl))))))))
theorem kw302 : (Cond.methodLink R_MA 60 y_PR_homeOf : Cond) ∈ allW := (List.mem_append_left _ (List.mem_append_left _ (List.mem_append_left _ (List.mem_append_left _ (List.mem_append_left _ (List.mem_append_left _ (List.mem_append_right _ (List.mem_of_getElem? (i := 2) (l := allW_5) rfl))))))))
theorem kw303 : (Cond.instanceMethod y_PR_homeOf : Cond) ∈ allW := (List.mem_append_left _ (List.mem_append_left _ (List.mem_append_left _ (List.mem_append_left _ (List.mem_append_left _ (List.mem_append_left _ (List.mem_append_right _ (List.mem_of_getElem? (i := 3) (l := allW_5) rfl))))))))
theorem kw304 : (Cond.selects R_PR y_PR_homeOf y_PR_homeOf : Cond) ∈ allW := (List.mem_append_left _ (List.mem_append_left _ (List.mem_append_left _ (List.mem_append_left _ (List.mem_append_left _ (List.mem_append_left _ (List.mem_append_right _ (List.mem_of_getElem? (i := 4) (l := allW_5) rfl))))))))
theorem kw305 : (Cond.code y_PR_homeOf prog_5_method_3_code 2 (some (.object "GateStack$ModuleText")) : Cond) ∈ allW := (List.mem_append_left _ (List.mem_append_left _ (List.mem_append_left _ (List.mem_append_left _ (List.mem_append_left _ (List.mem_append_left _ (List.mem_append_right _ (List.mem_of_getElem? (i := 5) (l := allW_5) rfl))))))))
theorem kw306 : (Cond.methodLink R_MA 66 y_MT_firstPlaceOf : Cond) ∈ allW := (List.mem_append_left _ (List.mem_append_left _ (List.mem_append_left _ (List.mem_append_left _ (List.mem_append_left _ (List.mem_append_left _ (List.mem_append_right _ (List.mem_of_getElem? (i := 6) (l := allW_5) rfl))))))))
theorem kw307 : (Cond.instanceMethod y_MT_firstPlaceOf : Cond) ∈ allW := (List.mem_append_left _ (List.mem_append_left _ (List.mem_append_left _ (List.mem_append_left _ (List.mem_append_left _ (List.mem_append_left _ (List.mem_append_right _ (List.mem_of_getElem? (i := 7) (l := allW_5) rfl))))))))
theorem kw308 : (Cond.selects R_MT y_MT_firstPlaceOf y_MT_firstPlaceOf : Cond) ∈ allW := (List.mem_append_left _ (List.mem_append_left _ (List.mem_append_left _ (List.mem_append_left _ (List.mem_append_left _ (List.mem_append_left _ (List.mem_append_right _ (List.mem_of_getElem? (i := 8) (l := allW_5) rfl))))))))
theorem kw309 : (Cond.code y_MT_firstPlaceOf prog_4_method_17_code 2 (some .int) : Cond) ∈ allW := (List.mem_append_left _ (List.mem_append_left _ (List.mem_append_left _ (List.mem_append_left _ (List.mem_append_left _ (List.mem_append_left _ (List.mem_append_right _ (List.mem_of_getElem? (i := 9) (l := allW_5) rfl))))))))
theorem kw310 : (Cond.methodLink R_MA 46 y_MA_leaveEndedBlocks : Cond) ∈ allW := (List.mem_append_left _ (List.mem_append_left _ (List.mem_append_left _ (List.mem_append_left _ (List.mem_append_left _ (List.mem_append_left _ (List.mem_append_right _ (List.mem_of_getElem? (i := 10) (l := allW_5) rfl))))))))
theorem kw311 : (Cond.instanceMethod y_MA_leaveEndedBlocks : Cond) ∈ allW := (List.mem_append_left _ (List.mem_append_left _ (List.mem_append_left _ (List.mem_append_left _ (List.mem_append_left _ (List.mem_append_left _ (List.mem_append_right _ (List.mem_of_getElem? (i := 11) (l := allW_5) rfl))))))))
theorem kw312 : (Cond.code y_MA_leaveEndedBlocks prog_3_method_16_code 5 none : Cond) ∈ allW := (List.mem_append_left _ (List.mem_append_left _ (List.mem_append_left _ (List.mem_append_left _ (List.mem_append_left _ (List.mem_append_left _ (List.mem_append_right _ (List.mem_of_getElem? (i := 12) (l := allW_5) rfl))))))))
theorem kw313 : (Cond.methodLink R_MA 32 y_MA_currentText : Cond) ∈ allW := (List.mem_append_left _ (List.mem_append_left _ (List.mem_append_left _ (List.mem_append_left _ (List.mem_append_left _ (List.mem_append_left _ (List.mem_append_right _ (List.mem_of_getElem? (i := 13) (l := allW_5) rfl))))))))
theorem kw314 : (Cond.instanceMethod y_MA_currentText : Cond) ∈ allW := (List.mem_append_left _ (List.mem_append_left _ (List.mem_append_left _ (List.mem_append_left _ (List.mem_append_left _ (List.mem_append_left _ (List.mem_append_right _ (List.mem_of_getElem? (i := 14) (l := allW_5) rfl))))))))
theorem kw315 : (Cond.code y_MA_currentText prog_3_method_12_code 2 (some (.object "GateStack$ModuleText")) : Cond) ∈ allW := (List.mem_append_left _ (List.mem_append_left _ (List.mem_append_left _ (List.mem_append_left _ (List.mem_append_left _ (List.mem_append_left _ (List.mem_append_right _ (List.mem_of_getElem? (i := 15) (l := allW_5) rfl))))))))
theorem kw316 : (Cond.methodLink R_MA 50 y_MT_signAt : Cond) ∈ allW := (List.mem_append_left _ (List.mem_append_left _ (List.mem_append_left _ (List.mem_append_left _ (List.mem_append_left _ (List.mem_append_left _ (List.mem_append_right _ (List.mem_of_getElem? (i := 16) (l := allW_5) rfl))))))))
theorem kw317 : (Cond.methodLink R_MA 93 y_MT_endsProcedure : Cond) ∈ allW := (List.mem_append_left _ (List.mem_append_left _ (List.mem_append_left _ (List.mem_append_left _ (List.mem_append_left _ (List.mem_append_left _ (List.mem_append_right _ (List.mem_of_getElem? (i := 17) (l := allW_5) rfl))))))))
theorem kw318 : (Cond.instanceMethod y_MT_endsProcedure : Cond) ∈ allW := (List.mem_append_left _ (List.mem_append_left _ (List.mem_append_left _ (List.mem_append_left _ (List.mem_append_left _ (List.mem_append_left _ (List.mem_append_right _ (List.mem_of_getElem? (i := 18) (l := allW_5) rfl))))))))
theorem kw319 : (Cond.selects R_MT y_MT_endsProcedure y_MT_endsProcedure : Cond) ∈ allW := (List.mem_append_left _ (List.mem_append_left _ (List.mem_append_left _ (List.mem_append_left _ (List.mem_append_left _ (List.mem_append_left _ (List.mem_append_right _ (List.mem_of_getElem? (i := 19) (l := allW_5) rfl))))))))
theorem kw320 : (Cond.code y_MT_endsProcedure prog_4_method_18_code 2 (some .boolean) : Cond) ∈ allW := (List.mem_append_left _ (List.mem_append_left _ (List.mem_append_left _ (List.mem_append_left _ (List.mem_append_left _ (List.mem_append_left _ (List.mem_append_right _ (List.mem_of_getElem? (i := 20) (l := allW_5) rfl))))))))
theorem kw321 : (Cond.methodLink R_MT 58 y_MT_signAt : Cond) ∈ allW := (List.mem_append_left _ (List.mem_append_left _ (List.mem_append_left _ (List.mem_append_left _ (List.mem_append_left _ (List.mem_append_left _ (List.mem_append_right _ (List.mem_of_getElem? (i := 21) (l := allW_5) rfl))))))))
theorem kw322 : (Cond.methodLink R_MA 96 y_MT_behindBlock : Cond) ∈ allW := (List.mem_append_left _ (List.mem_append_left _ (List.mem_append_left _ (List.mem_append_left _ (List.mem_append_left _ (List.mem_append_left _ (List.mem_append_right _ (List.mem_of_getElem? (i := 22) (l := allW_5) rfl))))))))
theorem kw323 : (Cond.instanceMethod y_MT_behindBlock : Cond) ∈ allW := (List.mem_append_left _ (List.mem_append_left _ (List.mem_append_left _ (List.mem_append_left _ (List.mem_append_left _ (List.mem_append_left _ (List.mem_append_right _ (List.mem_of_getElem? (i := 23) (l := allW_5) rfl))))))))
theorem kw324 : (Cond.selects R_MT y_MT_behindBlock y_MT_behindBlock : Cond) ∈ allW := (List.mem_append_left _ (List.mem_append_left _ (List.mem_append_left _ (List.mem_append_left _ (List.mem_append_left _ (List.mem_append_left _ (List.mem_append_right _ (List.mem_of_getElem? (i := 24) (l := allW_5) rfl))))))))
theorem kw325 : (Cond.code y_MT_behindBlock prog_4_method_19_code 3 (some .int) : Cond) ∈ allW := (List.mem_append_left _ (List.mem_append_left _ (List.mem_append_left _ (List.mem_append_left _ (List.mem_append_left _ (List.mem_append_left _ (List.mem_append_right _ (List.mem_of_getElem? (i := 25) (l := allW_5) rfl))))))))
theorem kw326 : (Cond.methodLink R_MT 65 y_MT_behindEndOf : Cond) ∈ allW := (List.mem_append_left _ (List.mem_append_left _ (List.mem_append_left _ (List.mem_append_left _ (List.mem_append_left _ (List.mem_append_left _ (List.mem_append_right _ (List.mem_of_getElem? (i := 26) (l := allW_5) rfl))))))))
theorem kw327 : (Cond.instanceMethod y_MT_behindEndOf : Cond) ∈ allW := (List.mem_append_left _ (List.mem_append_left _ (List.mem_append_left _ (List.mem_append_left _ (List.mem_append_left _ (List.mem_append_left _ (List.mem_append_right _ (List.mem_of_getElem? (i := 27) (l := allW_5) rfl))))))))
theorem kw328 : (Cond.code y_MT_behindEndOf prog_4_method_21_code 2 (some .int) : Cond) ∈ allW := (List.mem_append_left _ (List.mem_append_left _ (List.mem_append_left _ (List.mem_append_left _ (List.mem_append_left _ (List.mem_append_left _ (List.mem_append_right _ (List.mem_of_getElem? (i := 28) (l := allW_5) rfl))))))))
theorem kw329 : (Cond.methodLink "GateStackLaw" 40 y_GS_run : Cond) ∈ allW := (List.mem_append_left _ (List.mem_append_left _ (List.mem_append_left _ (List.mem_append_left _ (List.mem_append_left _ (List.mem_append_left _ (List.mem_append_right _ (List.mem_of_getElem? (i := 29) (l := allW_5) rfl))))))))
theorem kw330 : (Cond.instanceMethod y_GS_run : Cond) ∈ allW := (List.mem_append_left _ (List.mem_append_left _ (List.mem_append_left _ (List.mem_append_left _ (List.mem_append_left _ (List.mem_append_left _ (List.mem_append_right _ (List.mem_of_getElem? (i := 30) (l := allW_5) rfl))))))))
theorem kw331 : (Cond.selects R_GS y_GS_run y_GS_run : Cond) ∈ allW := (List.mem_append_left _ (List.mem_append_left _ (List.mem_append_left _ (List.mem_append_left _ (List.mem_append_left _ (List.mem_append_left _ (List.mem_append_right _ (List.mem_of_getElem? (i := 31) (l := allW_5) rfl))))))))
theorem kw332 : (Cond.code y_GS_run prog_1_method_8_code 3 (some .int) : Cond) ∈ allW := (List.mem_append_left _ (List.mem_append_left _ (List.mem_append_left _ (List.mem_append_left _ (List.mem_append_left _ (List.mem_append_left _ (List.mem_append_right _ (List.mem_of_getElem? (i := 32) (l := allW_5) rfl))))))))
theorem kw333 : (Cond.methodLink R_GS 100 y_MA_step : Cond) ∈ allW := (List.mem_append_left _ (List.mem_append_left _ (List.mem_append_left _ (List.mem_append_left _ (List.mem_append_left _ (List.mem_append_left _ (List.mem_append_right _ (List.mem_of_getElem? (i := 33) (l := allW_5) rfl))))))))
theorem kw334 : (Cond.instanceMethod y_MA_step : Cond) ∈ allW := (List.mem_append_left _ (List.mem_append_left _ (List.mem_append_left _ (List.mem_append_left _ (List.mem_append_left _ (List.mem_append_left _ (List.mem_append_right _ (List.mem_of_getElem? (i := 34) (l := allW_5) rfl))))))))
theorem kw335 : (Cond.selects R_MA y_MA_step y_MA_step : Cond) ∈ allW := (List.mem_append_left _ (List.mem_append_left _ (List.mem_append_left _ (List.mem_append_left _ (List.mem_append_left _ (List.mem_append_left _ (List.mem_append_right _ (List.mem_of_getElem? (i := 35) (l := allW_5) rfl))))))))
theorem kw336 : (Cond.code y_MA_step prog_3_method_11_code 7 none : Cond) ∈ allW := (List.mem_append_left _ (List.mem_append_left _ (List.mem_append_left _ (List.mem_append_left _ (List.mem_append_left _ (List.mem_append_left _ (List.mem_append_right _ (List.mem_of_getElem? (i := 36) (l := allW_5) rfl))))))))
theorem kw337 : (Cond.methodLink R_MA 56 y_MA_placeBehind : Cond) ∈ allW := (List.mem_append_left _ (List.mem_append_left _ (List.mem_append_left _ (List.mem_append_left _ (List.mem_append_left _ (List.mem_append_left _ (List.mem_append_right _ (List.mem_of_getElem? (i := 37) (l := allW_5) rfl))))))))
theorem kw338 : (Cond.instanceMethod y_MA_placeBehind : Cond) ∈ allW := (List.mem_append_left _ (List.mem_append_left _ (List.mem_append_left _ (List.mem_append_left _ (List.mem_append_left _ (List.mem_append_left _ (List.mem_append_right _ (List.mem_of_getElem? (i := 38) (l := allW_5) rfl))))))))
theorem kw339 : (Cond.code y_MA_placeBehind prog_3_method_14_code 8 (some .int) : Cond) ∈ allW := (List.mem_append_left _ (List.mem_append_left _ (List.mem_append_left _ (List.mem_append_left _ (List.mem_append_left _ (List.mem_append_left _ (List.mem_append_right _ (List.mem_of_getElem? (i := 39) (l := allW_5) rfl))))))))
theorem kw340 : (Cond.methodLink R_MA 72 y_CA_valueAt : Cond) ∈ allW := (List.mem_append_left _ (List.mem_append_left _ (List.mem_append_left _ (List.mem_append_left _ (List.mem_append_left _ (List.mem_append_left _ (List.mem_append_right _ (List.mem_of_getElem? (i := 40) (l := allW_5) rfl))))))))
theorem kw341 : (Cond.instanceMethod y_CA_valueAt : Cond) ∈ allW := (List.mem_append_left _ (List.mem_append_left _ (List.mem_append_left _ (List.mem_append_left _ (List.mem_append_left _ (List.mem_append_left _ (List.mem_append_right _ (List.mem_of_getElem? (i := 41) (l := allW_5) rfl))))))))
theorem kw342 : (Cond.selects R_CA y_CA_valueAt y_CA_valueAt : Cond) ∈ allW := (List.mem_append_left _ (List.mem_append_left _ (List.mem_append_left _ (List.mem_append_left _ (List.mem_append_left _ (List.mem_append_left _ (List.mem_append_right _ (List.mem_of_getElem? (i := 42) (l := allW_5) rfl))))))))
theorem kw343 : (Cond.code y_CA_valueAt prog_2_method_4_code 3 (some .int) : Cond) ∈ allW := (List.mem_append_left _ (List.mem_append_left _ (List.mem_append_left _ (List.mem_append_left _ (List.mem_append_left _ (List.mem_append_left _ (List.mem_append_right _ (List.mem_of_getElem? (i := 43) (l := allW_5) rfl))))))))
theorem kw344 : (Cond.methodLink R_CA 23 y_CA_expression : Cond) ∈ allW := (List.mem_append_left _ (List.mem_append_left _ (List.mem_append_left _ (List.mem_append_left _ (List.mem_append_left _ (List.mem_append_left _ (List.mem_append_right _ (List.mem_of_getElem? (i := 44) (l := allW_5) rfl))))))))
theorem kw345 : (Cond.instanceMethod y_CA_expression : Cond) ∈ allW := (List.mem_append_left _ (List.mem_append_left _ (List.mem_append_left _ (List.mem_append_left _ (List.mem_append_left _ (List.mem_append_left _ (List.mem_append_right _ (List.mem_of_getElem? (i := 45) (l := allW_5) rfl))))))))
theorem kw346 : (Cond.code y_CA_expression prog_2_method_6_code 6 (some .int) : Cond) ∈ allW := (List.mem_append_left _ (List.mem_append_left _ (List.mem_append_left _ (List.mem_append_left _ (List.mem_append_left _ (List.mem_append_left _ (List.mem_append_right _ (List.mem_of_getElem? (i := 46) (l := allW_5) rfl))))))))
theorem kw347 : (Cond.methodLink R_CA 27 y_CA_operand : Cond) ∈ allW := (List.mem_append_left _ (List.mem_append_left _ (List.mem_append_left _ (List.mem_append_left _ (List.mem_append_left _ (List.mem_append_left _ (List.mem_append_right _ (List.mem_of_getElem? (i := 47) (l := allW_5) rfl))))))))
theorem kw348 : (Cond.instanceMethod y_CA_operand : Cond) ∈ allW := (List.mem_append_left _ (List.mem_append_left _ (List.mem_append_left _ (List.mem_append_left _ (List.mem_append_left _ (List.mem_append_left _ (List.mem_append_right _ (List.mem_of_getElem? (i := 48) (l := allW_5) rfl))))))))
theorem kw349 : (Cond.code y_CA_operand prog_2_method_7_code 5 (some .int) : Cond) ∈ allW := (List.mem_append_left _ (List.mem_append_left _ (List.mem_append_left _ (List.mem_append_left _ (List.mem_append_left _ (List.mem_append_left _ (List.mem_append_right _ (List.mem_of_getElem? (i := 49) (l := allW_5) rfl))))))))
theorem kw350 : (Cond.methodLink R_CA 30 y_MT_signAt : Cond) ∈ allW := (List.mem_append_left _ (List.mem_append_left _ (List.mem_append_left _ (List.mem_append_left _ (List.mem_append_left _ (List.mem_append_left _ (List.mem_append_right _ (List.mem_of_getElem? (i := 50) (l := allW_5) rfl))))))))
theorem kw351 : (Cond.methodLink R_CA 46 y_CA_number : Cond) ∈ allW := (List.mem_append_left _ (List.mem_append_left _ (List.mem_append_left _ (List.mem_append_left _ (List.mem_append_left _ (List.mem_append_left _ (List.mem_append_right _ (List.mem_of_getElem? (i := 51) (l := allW_5) rfl))))))))
theorem kw352 : (Cond.instanceMethod y_CA_number : Cond) ∈ allW := (List.mem_append_left _ (List.mem_append_left _ (List.mem_append_left _ (List.mem_append_left _ (List.mem_append_left _ (List.mem_append_left _ (List.mem_append_right _ (List.mem_of_getElem? (i := 52) (l := allW_5) rfl))))))))
theorem kw353 : (Cond.code y_CA_number prog_2_method_8_code 4 (some .int) : Cond) ∈ allW := (List.mem_append_left _ (List.mem_append_left _ (List.mem_append_left _ (List.mem_append_left _ (List.mem_append_left _ (List.mem_append_left _ (List.mem_append_right _ (List.mem_of_getElem? (i := 53) (l := allW_5) rfl))))))))
theorem kw354 : (Cond.static y_GS_worked : Cond) ∈ allW := (List.mem_append_left _ (List.mem_append_left _ (List.mem_append_left _ (List.mem_append_left _ (List.mem_append_left _ (List.mem_append_left _ (List.mem_append_right _ (List.mem_of_getElem? (i := 54) (l := allW_5) rfl))))))))
theorem kw355 : (Cond.code y_GS_worked prog_1_method_26_code 3 (some .int) : Cond) ∈ allW := (List.mem_append_left _ (List.mem_append_left _ (List.mem_append_left _ (List.mem_append_left _ (List.mem_append_left _ (List.mem_append_left _ (List.mem_append_right _ (List.mem_of_getElem? (i := 55) (l := allW_5) rfl))))))))
theorem kw356 : (Cond.methodLink R_MA 78 y_CA_cursor : Cond) ∈ allW := (List.mem_append_left _ (List.mem_append_left _ (List.mem_append_left _ (List.mem_append_left _ (List.mem_append_left _ (List.mem_append_left _ (List.mem_append_right _ (List.mem_of_getElem? (i := 56) (l := allW_5) rfl))))))))
theorem kw357 : (Cond.instanceMethod y_CA_cursor : Cond) ∈ allW := (List.mem_append_left _ (List.mem_append_left _ (List.mem_append_left _ (List.mem_append_left _ (List.mem_append_left _ (List.mem_append_left _ (List.mem_append_right _ (List.mem_of_getElem? (i := 57) (l := allW_5) rfl))))))))
theorem kw358 : (Cond.selects R_CA y_CA_cursor y_CA_cursor : Cond) ∈ allW := (List.mem_append_left _ (List.mem_append_left _ (List.mem_append_left _ (List.mem_append_left _ (List.mem_append_left _ (List.mem_append_left _ (List.mem_append_right _ (List.mem_of_getElem? (i := 58) (l := allW_5) rfl))))))))
theorem kw359 : (Cond.code y_CA_cursor prog_2_method_5_code 1 (some .int) : Cond) ∈ allW := (List.mem_append_left _ (List.mem_append_left _ (List.mem_append_left _ (List.mem_append_left _ (List.mem_append_left _ (List.mem_append_left _ (List.mem_append_right _ (List.mem_of_getElem? (i := 59) (l := allW_5) rfl))))))))
theorem kw360 : (Cond.methodLink R_MA 82 y_CA_assign : Cond) ∈ allW := (List.mem_append_left _ (List.mem_append_left _ (List.mem_append_left _ (List.mem_append_left _ (List.mem_append_left _ (List.mem_append_right _ (List.mem_of_getElem? (i := 0) (l := allW_6) rfl)))))))
theorem kw361 : (Cond.instanceMethod y_CA_assign : Cond) ∈ allW := (List.mem_append_left _ (List.mem_append_left _ (List.mem_append_left _ (List.mem_append_left _ (List.mem_append_left _ (List.mem_append_right _ (List.mem_of_getElem? (i := 1) (l := allW_6) rfl)))))))
theorem kw362 : (Cond.selects R_CA y_CA_assign y_CA_assign : Cond) ∈ allW := (List.mem_append_left _ (List.mem_append_left _ (List.mem_append_left _ (List.mem_append_left _ (List.mem_append_left _ (List.mem_append_right _ (List.mem_of_getElem? (i := 2) (l := allW_6) rfl)))))))
theorem kw363 : (Cond.code y_CA_assign prog_2_method_2_code 3 (some .boolean) : Cond) ∈ allW := (List.mem_append_left _ (List.mem_append_left _ (List.mem_append_left _ (List.mem_append_left _ (List.mem_append_left _ (List.mem_append_right _ (List.mem_of_getElem? (i := 3) (l := allW_6) rfl)))))))
theorem kw364 : (Cond.static y_GS_isVariableNumber : Cond) ∈ allW := (List.mem_append_left _ (List.mem_append_left _ (List.mem_append_left _ (List.mem_append_left _ (List.mem_append_left _ (List.mem_append_right _ (List.mem_of_getElem? (i := 4) (l := allW_6) rfl)))))))
theorem kw365 : (Cond.code y_GS_isVariableNumber prog_1_method_18_code 1 (some .boolean) : Cond) ∈ allW := (List.mem_append_left _ (List.mem_append_left _ (List.mem_append_left _ (List.mem_append_left _ (List.mem_append_left _ (List.mem_append_right _ (List.mem_of_getElem? (i := 5) (l := allW_6) rfl)))))))
theorem kw366 : (Cond.methodLink R_MA 86 y_MA_keep : Cond) ∈ allW := (List.mem_append_left _ (List.mem_append_left _ (List.mem_append_left _ (List.mem_append_left _ (List.mem_append_left _ (List.mem_append_right _ (List.mem_of_getElem? (i := 6) (l := allW_6) rfl)))))))
theorem kw367 : (Cond.instanceMethod y_MA_keep : Cond) ∈ allW := (List.mem_append_left _ (List.mem_append_left _ (List.mem_append_left _ (List.mem_append_left _ (List.mem_append_left _ (List.mem_append_right _ (List.mem_of_getElem? (i := 7) (l := allW_6) rfl)))))))
theorem kw368 : (Cond.code y_MA_keep prog_3_method_15_code 2 none : Cond) ∈ allW := (List.mem_append_left _ (List.mem_append_left _ (List.mem_append_left _ (List.mem_append_left _ (List.mem_append_left _ (List.mem_append_right _ (List.mem_of_getElem? (i := 8) (l := allW_6) rfl)))))))
theorem kw369 : (Cond.methodLink R_MA 90 y_MT_placeIfZero : Cond) ∈ allW := (List.mem_append_left _ (List.mem_append_left _ (List.mem_append_left _ (List.mem_append_left _ (List.mem_append_left _ (List.mem_append_right _ (List.mem_of_getElem? (i := 9) (l := allW_6) rfl)))))))
theorem kw370 : (Cond.instanceMethod y_MT_placeIfZero : Cond) ∈ allW := (List.mem_append_left _ (List.mem_append_left _ (List.mem_append_left _ (List.mem_append_left _ (List.mem_append_left _ (List.mem_append_right _ (List.mem_of_getElem? (i := 10) (l := allW_6) rfl)))))))
theorem kw371 : (Cond.selects R_MT y_MT_placeIfZero y_MT_placeIfZero : Cond) ∈ allW := (List.mem_append_left _ (List.mem_append_left _ (List.mem_append_left _ (List.mem_append_left _ (List.mem_append_left _ (List.mem_append_right _ (List.mem_of_getElem? (i := 11) (l := allW_6) rfl)))))))
theorem kw372 : (Cond.code y_MT_placeIfZero prog_4_method_20_code 3 (some .int) : Cond) ∈ allW := (List.mem_append_left _ (List.mem_append_left _ (List.mem_append_left _ (List.mem_append_left _ (List.mem_append_left _ (List.mem_append_right _ (List.mem_of_getElem? (i := 12) (l := allW_6) rfl)))))))
theorem kw373 : (Cond.methodLink "GateStackLaw" 44 y_GS_stop : Cond) ∈ allW := (List.mem_append_left _ (List.mem_append_left _ (List.mem_append_left _ (List.mem_append_left _ (List.mem_append_left _ (List.mem_append_right _ (List.mem_of_getElem? (i := 13) (l := allW_6) rfl)))))))
theorem kw374 : (Cond.instanceMethod y_GS_stop : Cond) ∈ allW := (List.mem_append_left _ (List.mem_append_left _ (List.mem_append_left _ (List.mem_append_left _ (List.mem_append_left _ (List.mem_append_right _ (List.mem_of_getElem? (i := 14) (l := allW_6) rfl)))))))
theorem kw375 : (Cond.selects R_GS y_GS_stop y_GS_stop : Cond) ∈ allW := (List.mem_append_left _ (List.mem_append_left _ (List.mem_append_left _ (List.mem_append_left _ (List.mem_append_left _ (List.mem_append_right _ (List.mem_of_getElem? (i := 15) (l := allW_6) rfl)))))))
theorem kw376 : (Cond.code y_GS_stop prog_1_method_9_code 1 (some .int) : Cond) ∈ allW := (List.mem_append_left _ (List.mem_append_left _ (List.mem_append_left _ (List.mem_append_left _ (List.mem_append_left _ (List.mem_append_right _ (List.mem_of_getElem? (i := 16) (l := allW_6) rfl)))))))
theorem kw377 : (Cond.methodLink "GateStackLaw" 48 y_GS_set : Cond) ∈ allW := (List.mem_append_left _ (List.mem_append_left _ (List.mem_append_left _ (List.mem_append_left _ (List.mem_append_left _ (List.mem_append_right _ (List.mem_of_getElem? (i := 17) (l := allW_6) rfl)))))))
theorem kw378 : (Cond.instanceMethod y_GS_set : Cond) ∈ allW := (List.mem_append_left _ (List.mem_append_left _ (List.mem_append_left _ (List.mem_append_left _ (List.mem_append_left _ (List.mem_append_right _ (List.mem_of_getElem? (i := 18) (l := allW_6) rfl)))))))
theorem kw379 : (Cond.selects R_GS y_GS_set y_GS_set : Cond) ∈ allW := (List.mem_append_left _ (List.mem_append_left _ (List.mem_append_left _ (List.mem_append_left _ (List.mem_append_left _ (List.mem_append_right _ (List.mem_of_getElem? (i := 19) (l := allW_6) rfl)))))))
theorem kw380 : (Cond.code y_GS_set prog_1_method_10_code 3 (some .int) : Cond) ∈ allW := (List.mem_append_left _ (List.mem_append_left _ (List.mem_append_left _ (List.mem_append_left _ (List.mem_append_left _ (List.mem_append_right _ (List.mem_of_getElem? (i := 20) (l := allW_6) rfl)))))))
theorem kw381 : (Cond.methodLink R_GS 107 y_CA_assign : Cond) ∈ allW := (List.mem_append_left _ (List.mem_append_left _ (List.mem_append_left _ (List.mem_append_left _ (List.mem_append_left _ (List.mem_append_right _ (List.mem_of_getElem? (i := 21) (l := allW_6) rfl)))))))
theorem kw382 : (Cond.methodLink "GateStackLaw" 52 y_GS_get : Cond) ∈ allW := (List.mem_append_left _ (List.mem_append_left _ (List.mem_append_left _ (List.mem_append_left _ (List.mem_append_left _ (List.mem_append_right _ (List.mem_of_getElem? (i := 22) (l := allW_6) rfl)))))))
theorem kw383 : (Cond.instanceMethod y_GS_get : Cond) ∈ allW := (List.mem_append_left _ (List.mem_append_left _ (List.mem_append_left _ (List.mem_append_left _ (List.mem_append_left _ (List.mem_append_right _ (List.mem_of_getElem? (i := 23) (l := allW_6) rfl)))))))
theorem kw384 : (Cond.selects R_GS y_GS_get y_GS_get : Cond) ∈ allW := (List.mem_append_left _ (List.mem_append_left _ (List.mem_append_left _ (List.mem_append_left _ (List.mem_append_left _ (List.mem_append_right _ (List.mem_of_getElem? (i := 24) (l := allW_6) rfl)))))))
theorem kw385 : (Cond.code y_GS_get prog_1_method_11_code 2 (some .long) : Cond) ∈ allW := (List.mem_append_left _ (List.mem_append_left _ (List.mem_append_left _ (List.mem_append_left _ (List.mem_append_left _ (List.mem_append_right _ (List.mem_of_getElem? (i := 25) (l := allW_6) rfl)))))))
theorem kw386 : (Cond.methodLink R_GS 111 y_GS_isVariableNumber : Cond) ∈ allW := (List.mem_append_left _ (List.mem_append_left _ (List.mem_append_left _ (List.mem_append_left _ (List.mem_append_left _ (List.mem_append_right _ (List.mem_of_getElem? (i := 26) (l := allW_6) rfl)))))))
theorem kw387 : (Cond.methodLink R_GS 114 y_CA_variable : Cond) ∈ allW := (List.mem_append_left _ (List.mem_append_left _ (List.mem_append_left _ (List.mem_append_left _ (List.mem_append_left _ (List.mem_append_right _ (List.mem_of_getElem? (i := 27) (l := allW_6) rfl)))))))
theorem kw388 : (Cond.instanceMethod y_CA_variable : Cond) ∈ allW := (List.mem_append_left _ (List.mem_append_left _ (List.mem_append_left _ (List.mem_append_left _ (List.mem_append_left _ (List.mem_append_right _ (List.mem_of_getElem? (i := 28) (l := allW_6) rfl)))))))
theorem kw389 : (Cond.selects R_CA y_CA_variable y_CA_variable : Cond) ∈ allW := (List.mem_append_left _ (List.mem_append_left _ (List.mem_append_left _ (List.mem_append_left _ (List.mem_append_left _ (List.mem_append_right _ (List.mem_of_getElem? (i := 29) (l := allW_6) rfl)))))))
theorem kw390 : (Cond.code y_CA_variable prog_2_method_3_code 2 (some .int) : Cond) ∈ allW := (List.mem_append_left _ (List.mem_append_left _ (List.mem_append_left _ (List.mem_append_left _ (List.mem_append_left _ (List.mem_append_right _ (List.mem_of_getElem? (i := 30) (l := allW_6) rfl)))))))
theorem kw391 : (Cond.constantLong R_GS 117 (-1000000000000) : Cond) ∈ allW := (List.mem_append_left _ (List.mem_append_left _ (List.mem_append_left _ (List.mem_append_left _ (List.mem_append_left _ (List.mem_append_right _ (List.mem_of_getElem? (i := 31) (l := allW_6) rfl)))))))
theorem kw392 : (Cond.methodLink "GateStackLaw" 57 y_GS_output : Cond) ∈ allW := (List.mem_append_left _ (List.mem_append_left _ (List.mem_append_left _ (List.mem_append_left _ (List.mem_append_left _ (List.mem_append_right _ (List.mem_of_getElem? (i := 32) (l := allW_6) rfl)))))))
theorem kw393 : (Cond.instanceMethod y_GS_output : Cond) ∈ allW := (List.mem_append_left _ (List.mem_append_left _ (List.mem_append_left _ (List.mem_append_left _ (List.mem_append_left _ (List.mem_append_right _ (List.mem_of_getElem? (i := 33) (l := allW_6) rfl)))))))
theorem kw394 : (Cond.selects R_GS y_GS_output y_GS_output : Cond) ∈ allW := (List.mem_append_left _ (List.mem_append_left _ (List.mem_append_left _ (List.mem_append_left _ (List.mem_append_left _ (List.mem_append_right _ (List.mem_of_getElem? (i := 34) (l := allW_6) rfl)))))))
theorem kw395 : (Cond.code y_GS_output prog_1_method_12_code 2 (some .long) : Cond) ∈ allW := (List.mem_append_left _ (List.mem_append_left _ (List.mem_append_left _ (List.mem_append_left _ (List.mem_append_left _ (List.mem_append_right _ (List.mem_of_getElem? (i := 35) (l := allW_6) rfl)))))))
theorem kw396 : (Cond.methodLink R_GS 119 y_MA_hasKept : Cond) ∈ allW := (List.mem_append_left _ (List.mem_append_left _ (List.mem_append_left _ (List.mem_append_left _ (List.mem_append_left _ (List.mem_append_right _ (List.mem_of_getElem? (i := 36) (l := allW_6) rfl)))))))
theorem kw397 : (Cond.instanceMethod y_MA_hasKept : Cond) ∈ allW := (List.mem_append_left _ (List.mem_append_left _ (List.mem_append_left _ (List.mem_append_left _ (List.mem_append_left _ (List.mem_append_right _ (List.mem_of_getElem? (i := 37) (l := allW_6) rfl)))))))
theorem kw398 : (Cond.selects R_MA y_MA_hasKept y_MA_hasKept : Cond) ∈ allW := (List.mem_append_left _ (List.mem_append_left _ (List.mem_append_left _ (List.mem_append_left _ (List.mem_append_left _ (List.mem_append_right _ (List.mem_of_getElem? (i := 38) (l := allW_6) rfl)))))))
theorem kw399 : (Cond.code y_MA_hasKept prog_3_method_5_code 2 (some .boolean) : Cond) ∈ allW := (List.mem_append_left _ (List.mem_append_left _ (List.mem_append_left _ (List.mem_append_left _ (List.mem_append_left _ (List.mem_append_right _ (List.mem_of_getElem? (i := 39) (l := allW_6) rfl)))))))
theorem kw400 : (Cond.methodLink R_GS 122 y_MA_kept : Cond) ∈ allW := (List.mem_append_left _ (List.mem_append_left _ (List.mem_append_left _ (List.mem_append_left _ (List.mem_append_left _ (List.mem_append_right _ (List.mem_of_getElem? (i := 40) (l := allW_6) rfl)))))))
theorem kw401 : (Cond.instanceMethod y_MA_kept : Cond) ∈ allW := (List.mem_append_left _ (List.mem_append_left _ (List.mem_append_left _ (List.mem_append_left _ (List.mem_append_left _ (List.mem_append_right _ (List.mem_of_getElem? (i := 41) (l := allW_6) rfl)))))))
theorem kw402 : (Cond.selects R_MA y_MA_kept y_MA_kept : Cond) ∈ allW := (List.mem_append_left _ (List.mem_append_left _ (List.mem_append_left _ (List.mem_append_left _ (List.mem_append_left _ (List.mem_append_right _ (List.mem_of_getElem? (i := 42) (l := allW_6) rfl)))))))
theorem kw403 : (Cond.code y_MA_kept prog_3_method_6_code 2 (some .int) : Cond) ∈ allW := (List.mem_append_left _ (List.mem_append_left _ (List.mem_append_left _ (List.mem_append_left _ (List.mem_append_left _ (List.mem_append_right _ (List.mem_of_getElem? (i := 43) (l := allW_6) rfl)))))))
theorem kw404 : (Cond.methodLink R_MA 28 y_MA_hasKept : Cond) ∈ allW := (List.mem_append_left _ (List.mem_append_left _ (List.mem_append_left _ (List.mem_append_left _ (List.mem_append_left _ (List.mem_append_right _ (List.mem_of_getElem? (i := 44) (l := allW_6) rfl)))))))
theorem kw405 : (Cond.methodLink "GateStackLaw" 61 y_GS_at : Cond) ∈ allW := (List.mem_append_left _ (List.mem_append_left _ (List.mem_append_left _ (List.mem_append_left _ (List.mem_append_left _ (List.mem_append_right _ (List.mem_of_getElem? (i := 45) (l := allW_6) rfl)))))))
theorem kw406 : (Cond.instanceMethod y_GS_at : Cond) ∈ allW := (List.mem_append_left _ (List.mem_append_left _ (List.mem_append_left _ (List.mem_append_left _ (List.mem_append_left _ (List.mem_append_right _ (List.mem_of_getElem? (i := 46) (l := allW_6) rfl)))))))
theorem kw407 : (Cond.selects R_GS y_GS_at y_GS_at : Cond) ∈ allW := (List.mem_append_left _ (List.mem_append_left _ (List.mem_append_left _ (List.mem_append_left _ (List.mem_append_left _ (List.mem_append_right _ (List.mem_of_getElem? (i := 47) (l := allW_6) rfl)))))))
theorem kw408 : (Cond.code y_GS_at prog_1_method_13_code 2 (some .int) : Cond) ∈ allW := (List.mem_append_left _ (List.mem_append_left _ (List.mem_append_left _ (List.mem_append_left _ (List.mem_append_left _ (List.mem_append_right _ (List.mem_of_getElem? (i := 48) (l := allW_6) rfl)))))))
theorem kw409 : (Cond.methodLink R_GS 125 y_MA_letterCode : Cond) ∈ allW := (List.mem_append_left _ (List.mem_append_left _ (List.mem_append_left _ (List.mem_append_left _ (List.mem_append_left _ (List.mem_append_right _ (List.mem_of_getElem? (i := 49) (l := allW_6) rfl)))))))
theorem kw410 : (Cond.instanceMethod y_MA_letterCode : Cond) ∈ allW := (List.mem_append_left _ (List.mem_append_left _ (List.mem_append_left _ (List.mem_append_left _ (List.mem_append_left _ (List.mem_append_right _ (List.mem_of_getElem? (i := 50) (l := allW_6) rfl)))))))
theorem kw411 : (Cond.selects R_MA y_MA_letterCode y_MA_letterCode : Cond) ∈ allW := (List.mem_append_left _ (List.mem_append_left _ (List.mem_append_left _ (List.mem_append_left _ (List.mem_append_left _ (List.mem_append_right _ (List.mem_of_getElem? (i := 51) (l := allW_6) rfl)))))))
theorem kw412 : (Cond.code y_MA_letterCode prog_3_method_7_code 1 (some .int) : Cond) ∈ allW := (List.mem_append_left _ (List.mem_append_left _ (List.mem_append_left _ (List.mem_append_left _ (List.mem_append_left _ (List.mem_append_right _ (List.mem_of_getElem? (i := 52) (l := allW_6) rfl)))))))
theorem kw413 : (Cond.methodLink R_GS 128 y_MA_statementNumber : Cond) ∈ allW := (List.mem_append_left _ (List.mem_append_left _ (List.mem_append_left _ (List.mem_append_left _ (List.mem_append_left _ (List.mem_append_right _ (List.mem_of_getElem? (i := 53) (l := allW_6) rfl)))))))
theorem kw414 : (Cond.instanceMethod y_MA_statementNumber : Cond) ∈ allW := (List.mem_append_left _ (List.mem_append_left _ (List.mem_append_left _ (List.mem_append_left _ (List.mem_append_left _ (List.mem_append_right _ (List.mem_of_getElem? (i := 54) (l := allW_6) rfl)))))))
theorem kw415 : (Cond.selects R_MA y_MA_statementNumber y_MA_statementNumber : Cond) ∈ allW := (List.mem_append_left _ (List.mem_append_left _ (List.mem_append_left _ (List.mem_append_left _ (List.mem_append_left _ (List.mem_append_right _ (List.mem_of_getElem? (i := 55) (l := allW_6) rfl)))))))
theorem kw416 : (Cond.code y_MA_statementNumber prog_3_method_8_code 3 (some .int) : Cond) ∈ allW := (List.mem_append_left _ (List.mem_append_left _ (List.mem_append_left _ (List.mem_append_left _ (List.mem_append_left _ (List.mem_append_right _ (List.mem_of_getElem? (i := 56) (l := allW_6) rfl)))))))
theorem kw417 : (Cond.methodLink R_MA 36 y_MT_numberAt : Cond) ∈ allW := (List.mem_append_left _ (List.mem_append_left _ (List.mem_append_left _ (List.mem_append_left _ (List.mem_append_left _ (List.mem_append_right _ (List.mem_of_getElem? (i := 57) (l := allW_6) rfl)))))))
theorem kw418 : (Cond.instanceMethod y_MT_numberAt : Cond) ∈ allW := (List.mem_append_left _ (List.mem_append_left _ (List.mem_append_left _ (List.mem_append_left _ (List.mem_append_left _ (List.mem_append_right _ (List.mem_of_getElem? (i := 58) (l := allW_6) rfl)))))))
theorem kw419 : (Cond.selects R_MT y_MT_numberAt y_MT_numberAt : Cond) ∈ allW := (List.mem_append_left _ (List.mem_append_left _ (List.mem_append_left _ (List.mem_append_left _ (List.mem_append_left _ (List.mem_append_right _ (List.mem_of_getElem? (i := 59) (l := allW_6) rfl)))))))
theorem kw420 : (Cond.code y_MT_numberAt prog_4_method_15_code 2 (some .int) : Cond) ∈ allW := (List.mem_append_left _ (List.mem_append_left _ (List.mem_append_left _ (List.mem_append_left _ (List.mem_append_right _ (List.mem_of_getElem? (i := 0) (l := allW_7) rfl))))))
theorem kw421 : (Cond.methodLink R_GS 132 y_MA_depth : Cond) ∈ allW := (List.mem_append_left _ (List.mem_append_left _ (List.mem_append_left _ (List.mem_append_left _ (List.mem_append_right _ (List.mem_of_getElem? (i := 1) (l := allW_7) rfl))))))
theorem kw422 : (Cond.instanceMethod y_MA_depth : Cond) ∈ allW := (List.mem_append_left _ (List.mem_append_left _ (List.mem_append_left _ (List.mem_append_left _ (List.mem_append_right _ (List.mem_of_getElem? (i := 2) (l := allW_7) rfl))))))
theorem kw423 : (Cond.selects R_MA y_MA_depth y_MA_depth : Cond) ∈ allW := (List.mem_append_left _ (List.mem_append_left _ (List.mem_append_left _ (List.mem_append_left _ (List.mem_append_right _ (List.mem_of_getElem? (i := 3) (l := allW_7) rfl))))))
theorem kw424 : (Cond.code y_MA_depth prog_3_method_3_code 1 (some .int) : Cond) ∈ allW := (List.mem_append_left _ (List.mem_append_left _ (List.mem_append_left _ (List.mem_append_left _ (List.mem_append_right _ (List.mem_of_getElem? (i := 4) (l := allW_7) rfl))))))
theorem kw425 : (Cond.methodLink R_GS 135 y_MA_outputCount : Cond) ∈ allW := (List.mem_append_left _ (List.mem_append_left _ (List.mem_append_left _ (List.mem_append_left _ (List.mem_append_right _ (List.mem_of_getElem? (i := 5) (l := allW_7) rfl))))))
theorem kw426 : (Cond.instanceMethod y_MA_outputCount : Cond) ∈ allW := (List.mem_append_left _ (List.mem_append_left _ (List.mem_append_left _ (List.mem_append_left _ (List.mem_append_right _ (List.mem_of_getElem? (i := 6) (l := allW_7) rfl))))))
theorem kw427 : (Cond.selects R_MA y_MA_outputCount y_MA_outputCount : Cond) ∈ allW := (List.mem_append_left _ (List.mem_append_left _ (List.mem_append_left _ (List.mem_append_left _ (List.mem_append_right _ (List.mem_of_getElem? (i := 7) (l := allW_7) rfl))))))
theorem kw428 : (Cond.code y_MA_outputCount prog_3_method_4_code 1 (some .int) : Cond) ∈ allW := (List.mem_append_left _ (List.mem_append_left _ (List.mem_append_left _ (List.mem_append_left _ (List.mem_append_right _ (List.mem_of_getElem? (i := 8) (l := allW_7) rfl))))))
theorem kw429 : (Cond.methodLink "GateStackLaw" 65 y_GS_operate : Cond) ∈ allW := (List.mem_append_left _ (List.mem_append_left _ (List.mem_append_left _ (List.mem_append_left _ (List.mem_append_right _ (List.mem_of_getElem? (i := 9) (l := allW_7) rfl))))))
theorem kw430 : (Cond.instanceMethod y_GS_operate : Cond) ∈ allW := (List.mem_append_left _ (List.mem_append_left _ (List.mem_append_left _ (List.mem_append_left _ (List.mem_append_right _ (List.mem_of_getElem? (i := 10) (l := allW_7) rfl))))))
theorem kw431 : (Cond.selects R_GS y_GS_operate y_GS_operate : Cond) ∈ allW := (List.mem_append_left _ (List.mem_append_left _ (List.mem_append_left _ (List.mem_append_left _ (List.mem_append_right _ (List.mem_of_getElem? (i := 11) (l := allW_7) rfl))))))
theorem kw432 : (Cond.code y_GS_operate prog_1_method_14_code 4 (some .long) : Cond) ∈ allW := (List.mem_append_left _ (List.mem_append_left _ (List.mem_append_left _ (List.mem_append_left _ (List.mem_append_right _ (List.mem_of_getElem? (i := 12) (l := allW_7) rfl))))))
theorem kw433 : (Cond.methodLink R_GS 138 y_GS_worked : Cond) ∈ allW := (List.mem_append_left _ (List.mem_append_left _ (List.mem_append_left _ (List.mem_append_left _ (List.mem_append_right _ (List.mem_of_getElem? (i := 13) (l := allW_7) rfl))))))
theorem kw434 : (Cond.methodLink "GateStackLaw" 70 y_GS_state : Cond) ∈ allW := (List.mem_append_left _ (List.mem_append_left _ (List.mem_append_left _ (List.mem_append_left _ (List.mem_append_right _ (List.mem_of_getElem? (i := 14) (l := allW_7) rfl))))))
theorem kw435 : (Cond.instanceMethod y_GS_state : Cond) ∈ allW := (List.mem_append_left _ (List.mem_append_left _ (List.mem_append_left _ (List.mem_append_left _ (List.mem_append_right _ (List.mem_of_getElem? (i := 15) (l := allW_7) rfl))))))
theorem kw436 : (Cond.selects R_GS y_GS_state y_GS_state : Cond) ∈ allW := (List.mem_append_left _ (List.mem_append_left _ (List.mem_append_left _ (List.mem_append_left _ (List.mem_append_right _ (List.mem_of_getElem? (i := 16) (l := allW_7) rfl))))))
theorem kw437 : (Cond.code y_GS_state prog_1_method_15_code 3 (some .int) : Cond) ∈ allW := (List.mem_append_left _ (List.mem_append_left _ (List.mem_append_left _ (List.mem_append_left _ (List.mem_append_right _ (List.mem_of_getElem? (i := 17) (l := allW_7) rfl))))))
theorem kw438 : (Cond.classLink "GateStackLaw" 10 "GateStackModel" : Cond) ∈ allW := (List.mem_append_left _ (List.mem_append_left _ (List.mem_append_left _ (List.mem_append_left _ (List.mem_append_right _ (List.mem_of_getElem? (i := 18) (l := allW_7) rfl))))))
theorem kw439 : (Cond.instantiable R_GM 30 : Cond) ∈ allW := (List.mem_append_left _ (List.mem_append_left _ (List.mem_append_left _ (List.mem_append_left _ (List.mem_append_right _ (List.mem_of_getElem? (i := 19) (l := allW_7) rfl))))))
theorem kw440 : (Cond.methodLink "GateStackLaw" 12 y_GM_init : Cond) ∈ allW := (List.mem_append_left _ (List.mem_append_left _ (List.mem_append_left _ (List.mem_append_left _ (List.mem_append_right _ (List.mem_of_getElem? (i := 20) (l := allW_7) rfl))))))
theorem kw441 : (Cond.instanceMethod y_GM_init : Cond) ∈ allW := (List.mem_append_left _ (List.mem_append_left _ (List.mem_append_left _ (List.mem_append_left _ (List.mem_append_right _ (List.mem_of_getElem? (i := 21) (l := allW_7) rfl))))))
theorem kw442 : (Cond.code y_GM_init prog_8_method_1_code 2 none : Cond) ∈ allW := (List.mem_append_left _ (List.mem_append_left _ (List.mem_append_left _ (List.mem_append_left _ (List.mem_append_right _ (List.mem_of_getElem? (i := 22) (l := allW_7) rfl))))))
theorem kw443 : (Cond.methodLink R_GM 1 objectInit : Cond) ∈ allW := (List.mem_append_left _ (List.mem_append_left _ (List.mem_append_left _ (List.mem_append_left _ (List.mem_append_right _ (List.mem_of_getElem? (i := 23) (l := allW_7) rfl))))))
theorem kw444 : (Cond.fieldLink R_GM 7 "GateStackModel" "text" "[I" : Cond) ∈ allW := (List.mem_append_left _ (List.mem_append_left _ (List.mem_append_left _ (List.mem_append_left _ (List.mem_append_right _ (List.mem_of_getElem? (i := 24) (l := allW_7) rfl))))))
theorem kw445 : (Cond.fieldLink R_GM 13 "GateStackModel" "length" "[I" : Cond) ∈ allW := (List.mem_append_left _ (List.mem_append_left _ (List.mem_append_left _ (List.mem_append_left _ (List.mem_append_right _ (List.mem_of_getElem? (i := 25) (l := allW_7) rfl))))))
theorem kw446 : (Cond.fieldLink R_GM 16 "GateStackModel" "compiled" "[Z" : Cond) ∈ allW := (List.mem_append_left _ (List.mem_append_left _ (List.mem_append_left _ (List.mem_append_left _ (List.mem_append_right _ (List.mem_of_getElem? (i := 26) (l := allW_7) rfl))))))
theorem kw447 : (Cond.fieldLink R_GM 66 "GateStackModel" "linked" "Z" : Cond) ∈ allW := (List.mem_append_left _ (List.mem_append_left _ (List.mem_append_left _ (List.mem_append_left _ (List.mem_append_right _ (List.mem_of_getElem? (i := 27) (l := allW_7) rfl))))))
theorem kw448 : (Cond.fieldLink R_GM 20 "GateStackModel" "open" "[I" : Cond) ∈ allW := (List.mem_append_left _ (List.mem_append_left _ (List.mem_append_left _ (List.mem_append_left _ (List.mem_append_right _ (List.mem_of_getElem? (i := 28) (l := allW_7) rfl))))))
theorem kw449 : (Cond.fieldLink R_GM 80 "GateStackModel" "opened" "I" : Cond) ∈ allW := (List.mem_append_left _ (List.mem_append_left _ (List.mem_append_left _ (List.mem_append_left _ (List.mem_append_right _ (List.mem_of_getElem? (i := 29) (l := allW_7) rfl))))))
theorem kw450 : (Cond.fieldLink R_GM 84 "GateStackModel" "state" "I" : Cond) ∈ allW := (List.mem_append_left _ (List.mem_append_left _ (List.mem_append_left _ (List.mem_append_left _ (List.mem_append_right _ (List.mem_of_getElem? (i := 30) (l := allW_7) rfl))))))
theorem kw451 : (Cond.fieldLink R_GM 90 "GateStackModel" "kind" "I" : Cond) ∈ allW := (List.mem_append_left _ (List.mem_append_left _ (List.mem_append_left _ (List.mem_append_left _ (List.mem_append_right _ (List.mem_of_getElem? (i := 31) (l := allW_7) rfl))))))
theorem kw452 : (Cond.fieldLink R_GM 104 "GateStackModel" "digits" "I" : Cond) ∈ allW := (List.mem_append_left _ (List.mem_append_left _ (List.mem_append_left _ (List.mem_append_left _ (List.mem_append_right _ (List.mem_of_getElem? (i := 32) (l := allW_7) rfl))))))
theorem kw453 : (Cond.fieldLink R_GM 87 "GateStackModel" "second" "Z" : Cond) ∈ allW := (List.mem_append_left _ (List.mem_append_left _ (List.mem_append_left _ (List.mem_append_left _ (List.mem_append_right _ (List.mem_of_getElem? (i := 33) (l := allW_7) rfl))))))
theorem kw454 : (Cond.fieldLink R_GM 23 "GateStackModel" "partner" "[I" : Cond) ∈ allW := (List.mem_append_left _ (List.mem_append_left _ (List.mem_append_left _ (List.mem_append_left _ (List.mem_append_right _ (List.mem_of_getElem? (i := 34) (l := allW_7) rfl))))))
theorem kw455 : (Cond.fieldLink R_GM 26 "GateStackModel" "owner" "[I" : Cond) ∈ allW := (List.mem_append_left _ (List.mem_append_left _ (List.mem_append_left _ (List.mem_append_left _ (List.mem_append_right _ (List.mem_of_getElem? (i := 35) (l := allW_7) rfl))))))
theorem kw456 : (Cond.fieldLink R_GM 29 "GateStackModel" "kindAt" "[I" : Cond) ∈ allW := (List.mem_append_left _ (List.mem_append_left _ (List.mem_append_left _ (List.mem_append_left _ (List.mem_append_right _ (List.mem_of_getElem? (i := 36) (l := allW_7) rfl))))))
theorem kw457 : (Cond.fieldLink R_GM 32 "GateStackModel" "numberAt" "[I" : Cond) ∈ allW := (List.mem_append_left _ (List.mem_append_left _ (List.mem_append_left _ (List.mem_append_left _ (List.mem_append_right _ (List.mem_of_getElem? (i := 37) (l := allW_7) rfl))))))
theorem kw458 : (Cond.fieldLink R_GM 35 "GateStackModel" "letterAt" "[I" : Cond) ∈ allW := (List.mem_append_left _ (List.mem_append_left _ (List.mem_append_left _ (List.mem_append_left _ (List.mem_append_right _ (List.mem_of_getElem? (i := 38) (l := allW_7) rfl))))))
theorem kw459 : (Cond.fieldLink R_GM 38 "GateStackModel" "body" "[I" : Cond) ∈ allW := (List.mem_append_left _ (List.mem_append_left _ (List.mem_append_left _ (List.mem_append_left _ (List.mem_append_right _ (List.mem_of_getElem? (i := 39) (l := allW_7) rfl))))))
theorem kw460 : (Cond.fieldLink R_GM 41 "GateStackModel" "calls" "[I" : Cond) ∈ allW := (List.mem_append_left _ (List.mem_append_left _ (List.mem_append_left _ (List.mem_append_left _ (List.mem_append_right _ (List.mem_of_getElem? (i := 40) (l := allW_7) rfl))))))
theorem kw461 : (Cond.fieldLink R_GM 44 "GateStackModel" "variable" "[I" : Cond) ∈ allW := (List.mem_append_left _ (List.mem_append_left _ (List.mem_append_left _ (List.mem_append_left _ (List.mem_append_right _ (List.mem_of_getElem? (i := 41) (l := allW_7) rfl))))))
theorem kw462 : (Cond.fieldLink R_GM 47 "GateStackModel" "outputs" "[J" : Cond) ∈ allW := (List.mem_append_left _ (List.mem_append_left _ (List.mem_append_left _ (List.mem_append_left _ (List.mem_append_right _ (List.mem_of_getElem? (i := 42) (l := allW_7) rfl))))))
theorem kw463 : (Cond.fieldLink R_GM 159 "GateStackModel" "outputCount" "I" : Cond) ∈ allW := (List.mem_append_left _ (List.mem_append_left _ (List.mem_append_left _ (List.mem_append_left _ (List.mem_append_right _ (List.mem_of_getElem? (i := 43) (l := allW_7) rfl))))))
theorem kw464 : (Cond.fieldLink R_GM 70 "GateStackModel" "going" "Z" : Cond) ∈ allW := (List.mem_append_left _ (List.mem_append_left _ (List.mem_append_left _ (List.mem_append_left _ (List.mem_append_right _ (List.mem_of_getElem? (i := 44) (l := allW_7) rfl))))))
theorem kw465 : (Cond.fieldLink R_GM 153 "GateStackModel" "place" "I" : Cond) ∈ allW := (List.mem_append_left _ (List.mem_append_left _ (List.mem_append_left _ (List.mem_append_left _ (List.mem_append_right _ (List.mem_of_getElem? (i := 45) (l := allW_7) rfl))))))
theorem kw466 : (Cond.fieldLink R_GM 51 "GateStackModel" "behind" "[I" : Cond) ∈ allW := (List.mem_append_left _ (List.mem_append_left _ (List.mem_append_left _ (List.mem_append_left _ (List.mem_append_right _ (List.mem_of_getElem? (i := 46) (l := allW_7) rfl))))))
theorem kw467 : (Cond.fieldLink R_GM 156 "GateStackModel" "depth" "I" : Cond) ∈ allW := (List.mem_append_left _ (List.mem_append_left _ (List.mem_append_left _ (List.mem_append_left _ (List.mem_append_right _ (List.mem_of_getElem? (i := 47) (l := allW_7) rfl))))))
theorem kw468 : (Cond.fieldLink R_GM 54 "GateStackModel" "value" "[I" : Cond) ∈ allW := (List.mem_append_left _ (List.mem_append_left _ (List.mem_append_left _ (List.mem_append_left _ (List.mem_append_right _ (List.mem_of_getElem? (i := 48) (l := allW_7) rfl))))))
theorem kw469 : (Cond.fieldLink R_GM 57 "GateStackModel" "operator" "[I" : Cond) ∈ allW := (List.mem_append_left _ (List.mem_append_left _ (List.mem_append_left _ (List.mem_append_left _ (List.mem_append_right _ (List.mem_of_getElem? (i := 49) (l := allW_7) rfl))))))
theorem kw470 : (Cond.fieldLink R_GM 60 "GateStackModel" "base" "[I" : Cond) ∈ allW := (List.mem_append_left _ (List.mem_append_left _ (List.mem_append_left _ (List.mem_append_left _ (List.mem_append_right _ (List.mem_of_getElem? (i := 50) (l := allW_7) rfl))))))
theorem kw471 : (Cond.fieldLink R_GM 63 "GateStackModel" "before" "[I" : Cond) ∈ allW := (List.mem_append_left _ (List.mem_append_left _ (List.mem_append_left _ (List.mem_append_left _ (List.mem_append_right _ (List.mem_of_getElem? (i := 51) (l := allW_7) rfl))))))
theorem kw472 : (Cond.fieldLink R_GM 139 "GateStackModel" "signs" "I" : Cond) ∈ allW := (List.mem_append_left _ (List.mem_append_left _ (List.mem_append_left _ (List.mem_append_left _ (List.mem_append_right _ (List.mem_of_getElem? (i := 52) (l := allW_7) rfl))))))
theorem kw473 : (Cond.fieldLink R_GM 150 "GateStackModel" "end" "I" : Cond) ∈ allW := (List.mem_append_left _ (List.mem_append_left _ (List.mem_append_left _ (List.mem_append_left _ (List.mem_append_right _ (List.mem_of_getElem? (i := 53) (l := allW_7) rfl))))))
theorem kw474 : (Cond.laysFinal R_GM "GateStackModel" "text" "[I" : Cond) ∈ allW := (List.mem_append_left _ (List.mem_append_left _ (List.mem_append_left _ (List.mem_append_left _ (List.mem_append_right _ (List.mem_of_getElem? (i := 54) (l := allW_7) rfl))))))
theorem kw475 : (Cond.laysFinal R_GM "GateStackModel" "length" "[I" : Cond) ∈ allW := (List.mem_append_left _ (List.mem_append_left _ (List.mem_append_left _ (List.mem_append_left _ (List.mem_append_right _ (List.mem_of_getElem? (i := 55) (l := allW_7) rfl))))))
theorem kw476 : (Cond.laysFinal R_GM "GateStackModel" "compiled" "[Z" : Cond) ∈ allW := (List.mem_append_left _ (List.mem_append_left _ (List.mem_append_left _ (List.mem_append_left _ (List.mem_append_right _ (List.mem_of_getElem? (i := 56) (l := allW_7) rfl))))))
theorem kw477 : (Cond.lays R_GM "GateStackModel" "linked" "Z" : Cond) ∈ allW := (List.mem_append_left _ (List.mem_append_left _ (List.mem_append_left _ (List.mem_append_left _ (List.mem_append_right _ (List.mem_of_getElem? (i := 57) (l := allW_7) rfl))))))
theorem kw478 : (Cond.laysFinal R_GM "GateStackModel" "open" "[I" : Cond) ∈ allW := (List.mem_append_left _ (List.mem_append_left _ (List.mem_append_left _ (List.mem_append_left _ (List.mem_append_right _ (List.mem_of_getElem? (i := 58) (l := allW_7) rfl))))))
theorem kw479 : (Cond.lays R_GM "GateStackModel" "opened" "I" : Cond) ∈ allW := (List.mem_append_left _ (List.mem_append_left _ (List.mem_append_left _ (List.mem_append_left _ (List.mem_append_right _ (List.mem_of_getElem? (i := 59) (l := allW_7) rfl))))))
theorem kw480 : (Cond.lays R_GM "GateStackModel" "state" "I" : Cond) ∈ allW := (List.mem_append_left _ (List.mem_append_left _ (List.mem_append_left _ (List.mem_append_right _ (List.mem_of_getElem? (i := 0) (l := allW_8) rfl)))))
theorem kw481 : (Cond.lays R_GM "GateStackModel" "kind" "I" : Cond) ∈ allW := (List.mem_append_left _ (List.mem_append_left _ (List.mem_append_left _ (List.mem_append_right _ (List.mem_of_getElem? (i := 1) (l := allW_8) rfl)))))
theorem kw482 : (Cond.lays R_GM "GateStackModel" "digits" "I" : Cond) ∈ allW := (List.mem_append_left _ (List.mem_append_left _ (List.mem_append_left _ (List.mem_append_right _ (List.mem_of_getElem? (i := 2) (l := allW_8) rfl)))))
theorem kw483 : (Cond.lays R_GM "GateStackModel" "second" "Z" : Cond) ∈ allW := (List.mem_append_left _ (List.mem_append_left _ (List.mem_append_left _ (List.mem_append_right _ (List.mem_of_getElem? (i := 3) (l := allW_8) rfl)))))
theorem kw484 : (Cond.laysFinal R_GM "GateStackModel" "partner" "[I" : Cond) ∈ allW := (List.mem_append_left _ (List.mem_append_left _ (List.mem_append_left _ (List.mem_append_right _ (List.mem_of_getElem? (i := 4) (l := allW_8) rfl)))))
theorem kw485 : (Cond.laysFinal R_GM "GateStackModel" "owner" "[I" : Cond) ∈ allW := (List.mem_append_left _ (List.mem_append_left _ (List.mem_append_left _ (List.mem_append_right _ (List.mem_of_getElem? (i := 5) (l := allW_8) rfl)))))
theorem kw486 : (Cond.laysFinal R_GM "GateStackModel" "kindAt" "[I" : Cond) ∈ allW := (List.mem_append_left _ (List.mem_append_left _ (List.mem_append_left _ (List.mem_append_right _ (List.mem_of_getElem? (i := 6) (l := allW_8) rfl)))))
theorem kw487 : (Cond.laysFinal R_GM "GateStackModel" "numberAt" "[I" : Cond) ∈ allW := (List.mem_append_left _ (List.mem_append_left _ (List.mem_append_left _ (List.mem_append_right _ (List.mem_of_getElem? (i := 7) (l := allW_8) rfl)))))
theorem kw488 : (Cond.laysFinal R_GM "GateStackModel" "letterAt" "[I" : Cond) ∈ allW := (List.mem_append_left _ (List.mem_append_left _ (List.mem_append_left _ (List.mem_append_right _ (List.mem_of_getElem? (i := 8) (l := allW_8) rfl)))))
theorem kw489 : (Cond.laysFinal R_GM "GateStackModel" "body" "[I" : Cond) ∈ allW := (List.mem_append_left _ (List.mem_append_left _ (List.mem_append_left _ (List.mem_append_right _ (List.mem_of_getElem? (i := 9) (l := allW_8) rfl)))))
theorem kw490 : (Cond.laysFinal R_GM "GateStackModel" "calls" "[I" : Cond) ∈ allW := (List.mem_append_left _ (List.mem_append_left _ (List.mem_append_left _ (List.mem_append_right _ (List.mem_of_getElem? (i := 10) (l := allW_8) rfl)))))
theorem kw491 : (Cond.laysFinal R_GM "GateStackModel" "variable" "[I" : Cond) ∈ allW := (List.mem_append_left _ (List.mem_append_left _ (List.mem_append_left _ (List.mem_append_right _ (List.mem_of_getElem? (i := 11) (l := allW_8) rfl)))))
theorem kw492 : (Cond.laysFinal R_GM "GateStackModel" "outputs" "[J" : Cond) ∈ allW := (List.mem_append_left _ (List.mem_append_left _ (List.mem_append_left _ (List.mem_append_right _ (List.mem_of_getElem? (i := 12) (l := allW_8) rfl)))))
theorem kw493 : (Cond.lays R_GM "GateStackModel" "outputCount" "I" : Cond) ∈ allW := (List.mem_append_left _ (List.mem_append_left _ (List.mem_append_left _ (List.mem_append_right _ (List.mem_of_getElem? (i := 13) (l := allW_8) rfl)))))
theorem kw494 : (Cond.lays R_GM "GateStackModel" "going" "Z" : Cond) ∈ allW := (List.mem_append_left _ (List.mem_append_left _ (List.mem_append_left _ (List.mem_append_right _ (List.mem_of_getElem? (i := 14) (l := allW_8) rfl)))))
theorem kw495 : (Cond.lays R_GM "GateStackModel" "place" "I" : Cond) ∈ allW := (List.mem_append_left _ (List.mem_append_left _ (List.mem_append_left _ (List.mem_append_right _ (List.mem_of_getElem? (i := 15) (l := allW_8) rfl)))))
theorem kw496 : (Cond.laysFinal R_GM "GateStackModel" "behind" "[I" : Cond) ∈ allW := (List.mem_append_left _ (List.mem_append_left _ (List.mem_append_left _ (List.mem_append_right _ (List.mem_of_getElem? (i := 16) (l := allW_8) rfl)))))
theorem kw497 : (Cond.lays R_GM "GateStackModel" "depth" "I" : Cond) ∈ allW := (List.mem_append_left _ (List.mem_append_left _ (List.mem_append_left _ (List.mem_append_right _ (List.mem_of_getElem? (i := 17) (l := allW_8) rfl)))))
theorem kw498 : (Cond.laysFinal R_GM "GateStackModel" "value" "[I" : Cond) ∈ allW := (List.mem_append_left _ (List.mem_append_left _ (List.mem_append_left _ (List.mem_append_right _ (List.mem_of_getElem? (i := 18) (l := allW_8) rfl)))))
theorem kw499 : (Cond.laysFinal R_GM "GateStackModel" "operator" "[I" : Cond) ∈ allW := (List.mem_append_left _ (List.mem_append_left _ (List.mem_append_left _ (List.mem_append_right _ (List.mem_of_getElem? (i := 19) (l := allW_8) rfl)))))
theorem kw500 : (Cond.laysFinal R_GM "GateStackModel" "base" "[I" : Cond) ∈ allW := (List.mem_append_left _ (List.mem_append_left _ (List.mem_append_left _ (List.mem_append_right _ (List.mem_of_getElem? (i := 20) (l := allW_8) rfl)))))
theorem kw501 : (Cond.laysFinal R_GM "GateStackModel" "before" "[I" : Cond) ∈ allW := (List.mem_append_left _ (List.mem_append_left _ (List.mem_append_left _ (List.mem_append_right _ (List.mem_of_getElem? (i := 21) (l := allW_8) rfl)))))
theorem kw502 : (Cond.lays R_GM "GateStackModel" "signs" "I" : Cond) ∈ allW := (List.mem_append_left _ (List.mem_append_left _ (List.mem_append_left _ (List.mem_append_right _ (List.mem_of_getElem? (i := 22) (l := allW_8) rfl)))))
theorem kw503 : (Cond.lays R_GM "GateStackModel" "end" "I" : Cond) ∈ allW := (List.mem_append_left _ (List.mem_append_left _ (List.mem_append_left _ (List.mem_append_right _ (List.mem_of_getElem? (i := 23) (l := allW_8) rfl)))))
theorem kw504 : (Cond.arrayClass .boolean : Cond) ∈ allW := (List.mem_append_left _ (List.mem_append_left _ (List.mem_append_left _ (List.mem_append_right _ (List.mem_of_getElem? (i := 24) (l := allW_8) rfl)))))
theorem kw505 : (Cond.arrayClass .long : Cond) ∈ allW := (List.mem_append_left _ (List.mem_append_left _ (List.mem_append_left _ (List.mem_append_right _ (List.mem_of_getElem? (i := 25) (l := allW_8) rfl)))))
theorem kw506 : (Cond.methodLink "GateStackLaw" 17 y_GM_sign : Cond) ∈ allW := (List.mem_append_left _ (List.mem_append_left _ (List.mem_append_left _ (List.mem_append_right _ (List.mem_of_getElem? (i := 26) (l := allW_8) rfl)))))
theorem kw507 : (Cond.instanceMethod y_GM_sign : Cond) ∈ allW := (List.mem_append_left _ (List.mem_append_left _ (List.mem_append_left _ (List.mem_append_right _ (List.mem_of_getElem? (i := 27) (l := allW_8) rfl)))))
theorem kw508 : (Cond.selects R_GM y_GM_sign y_GM_sign : Cond) ∈ allW := (List.mem_append_left _ (List.mem_append_left _ (List.mem_append_left _ (List.mem_append_right _ (List.mem_of_getElem? (i := 28) (l := allW_8) rfl)))))
theorem kw509 : (Cond.code y_GM_sign prog_8_method_4_code 3 (some .int) : Cond) ∈ allW := (List.mem_append_left _ (List.mem_append_left _ (List.mem_append_left _ (List.mem_append_right _ (List.mem_of_getElem? (i := 29) (l := allW_8) rfl)))))
theorem kw510 : (Cond.methodLink R_GM 73 y_GM_in : Cond) ∈ allW := (List.mem_append_left _ (List.mem_append_left _ (List.mem_append_left _ (List.mem_append_right _ (List.mem_of_getElem? (i := 30) (l := allW_8) rfl)))))
theorem kw511 : (Cond.static y_GM_in : Cond) ∈ allW := (List.mem_append_left _ (List.mem_append_left _ (List.mem_append_left _ (List.mem_append_right _ (List.mem_of_getElem? (i := 31) (l := allW_8) rfl)))))
theorem kw512 : (Cond.code y_GM_in prog_8_method_2_code 3 (some .boolean) : Cond) ∈ allW := (List.mem_append_left _ (List.mem_append_left _ (List.mem_append_left _ (List.mem_append_right _ (List.mem_of_getElem? (i := 32) (l := allW_8) rfl)))))
theorem kw513 : (Cond.methodLink R_GM 77 y_GM_unlink : Cond) ∈ allW := (List.mem_append_left _ (List.mem_append_left _ (List.mem_append_left _ (List.mem_append_right _ (List.mem_of_getElem? (i := 33) (l := allW_8) rfl)))))
theorem kw514 : (Cond.instanceMethod y_GM_unlink : Cond) ∈ allW := (List.mem_append_left _ (List.mem_append_left _ (List.mem_append_left _ (List.mem_append_right _ (List.mem_of_getElem? (i := 34) (l := allW_8) rfl)))))
theorem kw515 : (Cond.code y_GM_unlink prog_8_method_3_code 1 none : Cond) ∈ allW := (List.mem_append_left _ (List.mem_append_left _ (List.mem_append_left _ (List.mem_append_right _ (List.mem_of_getElem? (i := 35) (l := allW_8) rfl)))))
theorem kw516 : (Cond.methodLink "GateStackLaw" 22 y_GM_clear : Cond) ∈ allW := (List.mem_append_left _ (List.mem_append_left _ (List.mem_append_left _ (List.mem_append_right _ (List.mem_of_getElem? (i := 36) (l := allW_8) rfl)))))
theorem kw517 : (Cond.instanceMethod y_GM_clear : Cond) ∈ allW := (List.mem_append_left _ (List.mem_append_left _ (List.mem_append_left _ (List.mem_append_right _ (List.mem_of_getElem? (i := 37) (l := allW_8) rfl)))))
theorem kw518 : (Cond.selects R_GM y_GM_clear y_GM_clear : Cond) ∈ allW := (List.mem_append_left _ (List.mem_append_left _ (List.mem_append_left _ (List.mem_append_right _ (List.mem_of_getElem? (i := 38) (l := allW_8) rfl)))))
theorem kw519 : (Cond.code y_GM_clear prog_8_method_5_code 2 (some .int) : Cond) ∈ allW := (List.mem_append_left _ (List.mem_append_left _ (List.mem_append_left _ (List.mem_append_right _ (List.mem_of_getElem? (i := 39) (l := allW_8) rfl)))))
theorem kw520 : (Cond.methodLink "GateStackLaw" 30 y_GM_fault : Cond) ∈ allW := (List.mem_append_left _ (List.mem_append_left _ (List.mem_append_left _ (List.mem_append_right _ (List.mem_of_getElem? (i := 40) (l := allW_8) rfl)))))
theorem kw521 : (Cond.instanceMethod y_GM_fault : Cond) ∈ allW := (List.mem_append_left _ (List.mem_append_left _ (List.mem_append_left _ (List.mem_append_right _ (List.mem_of_getElem? (i := 41) (l := allW_8) rfl)))))
theorem kw522 : (Cond.selects R_GM y_GM_fault y_GM_fault : Cond) ∈ allW := (List.mem_append_left _ (List.mem_append_left _ (List.mem_append_left _ (List.mem_append_right _ (List.mem_of_getElem? (i := 42) (l := allW_8) rfl)))))
theorem kw523 : (Cond.code y_GM_fault prog_8_method_15_code 3 (some .int) : Cond) ∈ allW := (List.mem_append_left _ (List.mem_append_left _ (List.mem_append_left _ (List.mem_append_right _ (List.mem_of_getElem? (i := 43) (l := allW_8) rfl)))))
theorem kw524 : (Cond.methodLink R_GM 122 y_GM_stands : Cond) ∈ allW := (List.mem_append_left _ (List.mem_append_left _ (List.mem_append_left _ (List.mem_append_right _ (List.mem_of_getElem? (i := 44) (l := allW_8) rfl)))))
theorem kw525 : (Cond.instanceMethod y_GM_stands : Cond) ∈ allW := (List.mem_append_left _ (List.mem_append_left _ (List.mem_append_left _ (List.mem_append_right _ (List.mem_of_getElem? (i := 45) (l := allW_8) rfl)))))
theorem kw526 : (Cond.code y_GM_stands prog_8_method_14_code 3 (some .boolean) : Cond) ∈ allW := (List.mem_append_left _ (List.mem_append_left _ (List.mem_append_left _ (List.mem_append_right _ (List.mem_of_getElem? (i := 46) (l := allW_8) rfl)))))
theorem kw527 : (Cond.methodLink R_GM 93 y_GM_isLetter : Cond) ∈ allW := (List.mem_append_left _ (List.mem_append_left _ (List.mem_append_left _ (List.mem_append_right _ (List.mem_of_getElem? (i := 47) (l := allW_8) rfl)))))
theorem kw528 : (Cond.static y_GM_isLetter : Cond) ∈ allW := (List.mem_append_left _ (List.mem_append_left _ (List.mem_append_left _ (List.mem_append_right _ (List.mem_of_getElem? (i := 48) (l := allW_8) rfl)))))
theorem kw529 : (Cond.code y_GM_isLetter prog_8_method_7_code 1 (some .boolean) : Cond) ∈ allW := (List.mem_append_left _ (List.mem_append_left _ (List.mem_append_left _ (List.mem_append_right _ (List.mem_of_getElem? (i := 49) (l := allW_8) rfl)))))
theorem kw530 : (Cond.methodLink R_GM 100 y_GM_push : Cond) ∈ allW := (List.mem_append_left _ (List.mem_append_left _ (List.mem_append_left _ (List.mem_append_right _ (List.mem_of_getElem? (i := 50) (l := allW_8) rfl)))))
theorem kw531 : (Cond.instanceMethod y_GM_push : Cond) ∈ allW := (List.mem_append_left _ (List.mem_append_left _ (List.mem_append_left _ (List.mem_append_right _ (List.mem_of_getElem? (i := 51) (l := allW_8) rfl)))))
theorem kw532 : (Cond.code y_GM_push prog_8_method_9_code 3 (some .boolean) : Cond) ∈ allW := (List.mem_append_left _ (List.mem_append_left _ (List.mem_append_left _ (List.mem_append_right _ (List.mem_of_getElem? (i := 52) (l := allW_8) rfl)))))
theorem kw533 : (Cond.methodLink R_GM 113 y_GM_atStatement : Cond) ∈ allW := (List.mem_append_left _ (List.mem_append_left _ (List.mem_append_left _ (List.mem_append_right _ (List.mem_of_getElem? (i := 53) (l := allW_8) rfl)))))
theorem kw534 : (Cond.instanceMethod y_GM_atStatement : Cond) ∈ allW := (List.mem_append_left _ (List.mem_append_left _ (List.mem_append_left _ (List.mem_append_right _ (List.mem_of_getElem? (i := 54) (l := allW_8) rfl)))))
theorem kw535 : (Cond.code y_GM_atStatement prog_8_method_11_code 3 (some .boolean) : Cond) ∈ allW := (List.mem_append_left _ (List.mem_append_left _ (List.mem_append_left _ (List.mem_append_right _ (List.mem_of_getElem? (i := 55) (l := allW_8) rfl)))))
theorem kw536 : (Cond.methodLink R_GM 97 y_GM_isVariable : Cond) ∈ allW := (List.mem_append_left _ (List.mem_append_left _ (List.mem_append_left _ (List.mem_append_right _ (List.mem_of_getElem? (i := 56) (l := allW_8) rfl)))))
theorem kw537 : (Cond.static y_GM_isVariable : Cond) ∈ allW := (List.mem_append_left _ (List.mem_append_left _ (List.mem_append_left _ (List.mem_append_right _ (List.mem_of_getElem? (i := 57) (l := allW_8) rfl)))))
theorem kw538 : (Cond.code y_GM_isVariable prog_8_method_6_code 1 (some .boolean) : Cond) ∈ allW := (List.mem_append_left _ (List.mem_append_left _ (List.mem_append_left _ (List.mem_append_right _ (List.mem_of_getElem? (i := 58) (l := allW_8) rfl)))))
theorem kw539 : (Cond.methodLink R_GM 116 y_GM_atOperand : Cond) ∈ allW := (List.mem_append_left _ (List.mem_append_left _ (List.mem_append_left _ (List.mem_append_right _ (List.mem_of_getElem? (i := 59) (l := allW_8) rfl)))))
theorem kw540 : (Cond.instanceMethod y_GM_atOperand : Cond) ∈ allW := (List.mem_append_left _ (List.mem_append_left _ (List.mem_append_right _ (List.mem_of_getElem? (i := 0) (l := allW_9) rfl))))
theorem kw541 : (Cond.code y_GM_atOperand prog_8_method_12_code 3 (some .boolean) : Cond) ∈ allW := (List.mem_append_left _ (List.mem_append_left _ (List.mem_append_right _ (List.mem_of_getElem? (i := 1) (l := allW_9) rfl))))
theorem kw542 : (Cond.methodLink R_GM 107 y_GM_operandEnds : Cond) ∈ allW := (List.mem_append_left _ (List.mem_append_left _ (List.mem_append_right _ (List.mem_of_getElem? (i := 2) (l := allW_9) rfl))))
theorem kw543 : (Cond.instanceMethod y_GM_operandEnds : Cond) ∈ allW := (List.mem_append_left _ (List.mem_append_left _ (List.mem_append_right _ (List.mem_of_getElem? (i := 3) (l := allW_9) rfl))))
theorem kw544 : (Cond.code y_GM_operandEnds prog_8_method_10_code 1 none : Cond) ∈ allW := (List.mem_append_left _ (List.mem_append_left _ (List.mem_append_right _ (List.mem_of_getElem? (i := 4) (l := allW_9) rfl))))
theorem kw545 : (Cond.methodLink R_GM 119 y_GM_afterOperand : Cond) ∈ allW := (List.mem_append_left _ (List.mem_append_left _ (List.mem_append_right _ (List.mem_of_getElem? (i := 5) (l := allW_9) rfl))))
theorem kw546 : (Cond.instanceMethod y_GM_afterOperand : Cond) ∈ allW := (List.mem_append_left _ (List.mem_append_left _ (List.mem_append_right _ (List.mem_of_getElem? (i := 6) (l := allW_9) rfl))))
theorem kw547 : (Cond.code y_GM_afterOperand prog_8_method_13_code 3 (some .boolean) : Cond) ∈ allW := (List.mem_append_left _ (List.mem_append_left _ (List.mem_append_right _ (List.mem_of_getElem? (i := 7) (l := allW_9) rfl))))
theorem kw548 : (Cond.methodLink R_GM 110 y_GM_isOperator : Cond) ∈ allW := (List.mem_append_left _ (List.mem_append_left _ (List.mem_append_right _ (List.mem_of_getElem? (i := 8) (l := allW_9) rfl))))
theorem kw549 : (Cond.static y_GM_isOperator : Cond) ∈ allW := (List.mem_append_left _ (List.mem_append_left _ (List.mem_append_right _ (List.mem_of_getElem? (i := 9) (l := allW_9) rfl))))
theorem kw550 : (Cond.code y_GM_isOperator prog_8_method_8_code 1 (some .boolean) : Cond) ∈ allW := (List.mem_append_left _ (List.mem_append_left _ (List.mem_append_right _ (List.mem_of_getElem? (i := 10) (l := allW_9) rfl))))
theorem kw551 : (Cond.methodLink "GateStackLaw" 26 y_GM_compile : Cond) ∈ allW := (List.mem_append_left _ (List.mem_append_left _ (List.mem_append_right _ (List.mem_of_getElem? (i := 11) (l := allW_9) rfl))))
theorem kw552 : (Cond.instanceMethod y_GM_compile : Cond) ∈ allW := (List.mem_append_left _ (List.mem_append_left _ (List.mem_append_right _ (List.mem_of_getElem? (i := 12) (l := allW_9) rfl))))
theorem kw553 : (Cond.selects R_GM y_GM_compile y_GM_compile : Cond) ∈ allW := (List.mem_append_left _ (List.mem_append_left _ (List.mem_append_right _ (List.mem_of_getElem? (i := 13) (l := allW_9) rfl))))
theorem kw554 : (Cond.code y_GM_compile prog_8_method_18_code 2 (some .int) : Cond) ∈ allW := (List.mem_append_left _ (List.mem_append_left _ (List.mem_append_right _ (List.mem_of_getElem? (i := 14) (l := allW_9) rfl))))
theorem kw555 : (Cond.methodLink R_GM 125 y_GM_fault : Cond) ∈ allW := (List.mem_append_left _ (List.mem_append_left _ (List.mem_append_right _ (List.mem_of_getElem? (i := 15) (l := allW_9) rfl))))
theorem kw556 : (Cond.methodLink R_GM 129 y_GM_twice : Cond) ∈ allW := (List.mem_append_left _ (List.mem_append_left _ (List.mem_append_right _ (List.mem_of_getElem? (i := 16) (l := allW_9) rfl))))
theorem kw557 : (Cond.instanceMethod y_GM_twice : Cond) ∈ allW := (List.mem_append_left _ (List.mem_append_left _ (List.mem_append_right _ (List.mem_of_getElem? (i := 17) (l := allW_9) rfl))))
theorem kw558 : (Cond.code y_GM_twice prog_8_method_17_code 6 (some .boolean) : Cond) ∈ allW := (List.mem_append_left _ (List.mem_append_left _ (List.mem_append_right _ (List.mem_of_getElem? (i := 18) (l := allW_9) rfl))))
theorem kw559 : (Cond.methodLink R_GM 132 y_GM_map : Cond) ∈ allW := (List.mem_append_left _ (List.mem_append_left _ (List.mem_append_right _ (List.mem_of_getElem? (i := 19) (l := allW_9) rfl))))
theorem kw560 : (Cond.instanceMethod y_GM_map : Cond) ∈ allW := (List.mem_append_left _ (List.mem_append_left _ (List.mem_append_right _ (List.mem_of_getElem? (i := 20) (l := allW_9) rfl))))
theorem kw561 : (Cond.code y_GM_map prog_8_method_16_code 11 (some .int) : Cond) ∈ allW := (List.mem_append_left _ (List.mem_append_left _ (List.mem_append_right _ (List.mem_of_getElem? (i := 21) (l := allW_9) rfl))))
theorem kw562 : (Cond.methodLink "GateStackLaw" 35 y_GM_link : Cond) ∈ allW := (List.mem_append_left _ (List.mem_append_left _ (List.mem_append_right _ (List.mem_of_getElem? (i := 22) (l := allW_9) rfl))))
theorem kw563 : (Cond.instanceMethod y_GM_link : Cond) ∈ allW := (List.mem_append_left _ (List.mem_append_left _ (List.mem_append_right _ (List.mem_of_getElem? (i := 23) (l := allW_9) rfl))))
theorem kw564 : (Cond.selects R_GM y_GM_link y_GM_link : Cond) ∈ allW := (List.mem_append_left _ (List.mem_append_left _ (List.mem_append_right _ (List.mem_of_getElem? (i := 24) (l := allW_9) rfl))))
theorem kw565 : (Cond.code y_GM_link prog_8_method_20_code 7 (some .int) : Cond) ∈ allW := (List.mem_append_left _ (List.mem_append_left _ (List.mem_append_right _ (List.mem_of_getElem? (i := 25) (l := allW_9) rfl))))
theorem kw566 : (Cond.methodLink R_GM 135 y_GM_gather : Cond) ∈ allW := (List.mem_append_left _ (List.mem_append_left _ (List.mem_append_right _ (List.mem_of_getElem? (i := 26) (l := allW_9) rfl))))
theorem kw567 : (Cond.instanceMethod y_GM_gather : Cond) ∈ allW := (List.mem_append_left _ (List.mem_append_left _ (List.mem_append_right _ (List.mem_of_getElem? (i := 27) (l := allW_9) rfl))))
theorem kw568 : (Cond.code y_GM_gather prog_8_method_19_code 7 (some .boolean) : Cond) ∈ allW := (List.mem_append_left _ (List.mem_append_left _ (List.mem_append_right _ (List.mem_of_getElem? (i := 28) (l := allW_9) rfl))))
theorem kw569 : (Cond.methodLink "GateStackLaw" 39 y_GM_start : Cond) ∈ allW := (List.mem_append_left _ (List.mem_append_left _ (List.mem_append_right _ (List.mem_of_getElem? (i := 29) (l := allW_9) rfl))))
theorem kw570 : (Cond.instanceMethod y_GM_start : Cond) ∈ allW := (List.mem_append_left _ (List.mem_append_left _ (List.mem_append_right _ (List.mem_of_getElem? (i := 30) (l := allW_9) rfl))))
theorem kw571 : (Cond.selects R_GM y_GM_start y_GM_start : Cond) ∈ allW := (List.mem_append_left _ (List.mem_append_left _ (List.mem_append_right _ (List.mem_of_getElem? (i := 31) (l := allW_9) rfl))))
theorem kw572 : (Cond.code y_GM_start prog_8_method_25_code 1 (some .int) : Cond) ∈ allW := (List.mem_append_left _ (List.mem_append_left _ (List.mem_append_right _ (List.mem_of_getElem? (i := 32) (l := allW_9) rfl))))
theorem kw573 : (Cond.methodLink R_GM 162 y_GM_settle : Cond) ∈ allW := (List.mem_append_left _ (List.mem_append_left _ (List.mem_append_right _ (List.mem_of_getElem? (i := 33) (l := allW_9) rfl))))
theorem kw574 : (Cond.instanceMethod y_GM_settle : Cond) ∈ allW := (List.mem_append_left _ (List.mem_append_left _ (List.mem_append_right _ (List.mem_of_getElem? (i := 34) (l := allW_9) rfl))))
theorem kw575 : (Cond.code y_GM_settle prog_8_method_24_code 3 none : Cond) ∈ allW := (List.mem_append_left _ (List.mem_append_left _ (List.mem_append_right _ (List.mem_of_getElem? (i := 35) (l := allW_9) rfl))))
theorem kw576 : (Cond.methodLink "GateStackLaw" 43 y_GM_run : Cond) ∈ allW := (List.mem_append_left _ (List.mem_append_left _ (List.mem_append_right _ (List.mem_of_getElem? (i := 36) (l := allW_9) rfl))))
theorem kw577 : (Cond.instanceMethod y_GM_run : Cond) ∈ allW := (List.mem_append_left _ (List.mem_append_left _ (List.mem_append_right _ (List.mem_of_getElem? (i := 37) (l := allW_9) rfl))))
theorem kw578 : (Cond.selects R_GM y_GM_run y_GM_run : Cond) ∈ allW := (List.mem_append_left _ (List.mem_append_left _ (List.mem_append_right _ (List.mem_of_getElem? (i := 38) (l := allW_9) rfl))))
theorem kw579 : (Cond.code y_GM_run prog_8_method_28_code 3 (some .int) : Cond) ∈ allW := (List.mem_append_left _ (List.mem_append_left _ (List.mem_append_right _ (List.mem_of_getElem? (i := 39) (l := allW_9) rfl))))
theorem kw580 : (Cond.methodLink R_GM 172 y_GM_step : Cond) ∈ allW := (List.mem_append_left _ (List.mem_append_left _ (List.mem_append_right _ (List.mem_of_getElem? (i := 40) (l := allW_9) rfl))))
theorem kw581 : (Cond.instanceMethod y_GM_step : Cond) ∈ allW := (List.mem_append_left _ (List.mem_append_left _ (List.mem_append_right _ (List.mem_of_getElem? (i := 41) (l := allW_9) rfl))))
theorem kw582 : (Cond.code y_GM_step prog_8_method_27_code 3 none : Cond) ∈ allW := (List.mem_append_left _ (List.mem_append_left _ (List.mem_append_right _ (List.mem_of_getElem? (i := 42) (l := allW_9) rfl))))
theorem kw583 : (Cond.methodLink R_GM 168 y_GM_branch : Cond) ∈ allW := (List.mem_append_left _ (List.mem_append_left _ (List.mem_append_right _ (List.mem_of_getElem? (i := 43) (l := allW_9) rfl))))
theorem kw584 : (Cond.instanceMethod y_GM_branch : Cond) ∈ allW := (List.mem_append_left _ (List.mem_append_left _ (List.mem_append_right _ (List.mem_of_getElem? (i := 44) (l := allW_9) rfl))))
theorem kw585 : (Cond.code y_GM_branch prog_8_method_26_code 5 none : Cond) ∈ allW := (List.mem_append_left _ (List.mem_append_left _ (List.mem_append_right _ (List.mem_of_getElem? (i := 45) (l := allW_9) rfl))))
theorem kw586 : (Cond.methodLink R_GM 165 y_GM_work : Cond) ∈ allW := (List.mem_append_left _ (List.mem_append_left _ (List.mem_append_right _ (List.mem_of_getElem? (i := 46) (l := allW_9) rfl))))
theorem kw587 : (Cond.instanceMethod y_GM_work : Cond) ∈ allW := (List.mem_append_left _ (List.mem_append_left _ (List.mem_append_right _ (List.mem_of_getElem? (i := 47) (l := allW_9) rfl))))
theorem kw588 : (Cond.code y_GM_work prog_8_method_23_code 7 (some .int) : Cond) ∈ allW := (List.mem_append_left _ (List.mem_append_left _ (List.mem_append_right _ (List.mem_of_getElem? (i := 48) (l := allW_9) rfl))))
theorem kw589 : (Cond.methodLink R_GM 146 y_GM_operand : Cond) ∈ allW := (List.mem_append_left _ (List.mem_append_left _ (List.mem_append_right _ (List.mem_of_getElem? (i := 49) (l := allW_9) rfl))))
theorem kw590 : (Cond.instanceMethod y_GM_operand : Cond) ∈ allW := (List.mem_append_left _ (List.mem_append_left _ (List.mem_append_right _ (List.mem_of_getElem? (i := 50) (l := allW_9) rfl))))
theorem kw591 : (Cond.code y_GM_operand prog_8_method_22_code 4 none : Cond) ∈ allW := (List.mem_append_left _ (List.mem_append_left _ (List.mem_append_right _ (List.mem_of_getElem? (i := 51) (l := allW_9) rfl))))
theorem kw592 : (Cond.methodLink R_GM 142 y_GM_apply : Cond) ∈ allW := (List.mem_append_left _ (List.mem_append_left _ (List.mem_append_right _ (List.mem_of_getElem? (i := 52) (l := allW_9) rfl))))
theorem kw593 : (Cond.static y_GM_apply : Cond) ∈ allW := (List.mem_append_left _ (List.mem_append_left _ (List.mem_append_right _ (List.mem_of_getElem? (i := 53) (l := allW_9) rfl))))
theorem kw594 : (Cond.code y_GM_apply prog_8_method_21_code 3 (some .int) : Cond) ∈ allW := (List.mem_append_left _ (List.mem_append_left _ (List.mem_append_right _ (List.mem_of_getElem? (i := 54) (l := allW_9) rfl))))
theorem kw595 : (Cond.methodLink "GateStackLaw" 47 y_GM_stop : Cond) ∈ allW := (List.mem_append_left _ (List.mem_append_left _ (List.mem_append_right _ (List.mem_of_getElem? (i := 55) (l := allW_9) rfl))))
theorem kw596 : (Cond.instanceMethod y_GM_stop : Cond) ∈ allW := (List.mem_append_left _ (List.mem_append_left _ (List.mem_append_right _ (List.mem_of_getElem? (i := 56) (l := allW_9) rfl))))
theorem kw597 : (Cond.selects R_GM y_GM_stop y_GM_stop : Cond) ∈ allW := (List.mem_append_left _ (List.mem_append_left _ (List.mem_append_right _ (List.mem_of_getElem? (i := 57) (l := allW_9) rfl))))
theorem kw598 : (Cond.code y_GM_stop prog_8_method_29_code 1 (some .int) : Cond) ∈ allW := (List.mem_append_left _ (List.mem_append_left _ (List.mem_append_right _ (List.mem_of_getElem? (i := 58) (l := allW_9) rfl))))
theorem kw599 : (Cond.methodLink "GateStackLaw" 51 y_GM_set : Cond) ∈ allW := (List.mem_append_left _ (List.mem_append_left _ (List.mem_append_right _ (List.mem_of_getElem? (i := 59) (l := allW_9) rfl))))
theorem kw600 : (Cond.instanceMethod y_GM_set : Cond) ∈ allW := (List.mem_append_left _ (List.mem_append_right _ (List.mem_of_getElem? (i := 0) (l := allW_10) rfl)))
theorem kw601 : (Cond.selects R_GM y_GM_set y_GM_set : Cond) ∈ allW := (List.mem_append_left _ (List.mem_append_right _ (List.mem_of_getElem? (i := 1) (l := allW_10) rfl)))
theorem kw602 : (Cond.code y_GM_set prog_8_method_30_code 3 (some .int) : Cond) ∈ allW := (List.mem_append_left _ (List.mem_append_right _ (List.mem_of_getElem? (i := 2) (l := allW_10) rfl)))
theorem kw603 : (Cond.methodLink "GateStackLaw" 56 y_GM_get : Cond) ∈ allW := (List.mem_append_left _ (List.mem_append_right _ (List.mem_of_getElem? (i := 3) (l := allW_10) rfl)))
theorem kw604 : (Cond.instanceMethod y_GM_get : Cond) ∈ allW := (List.mem_append_left _ (List.mem_append_right _ (List.mem_of_getElem? (i := 4) (l := allW_10) rfl)))
theorem kw605 : (Cond.selects R_GM y_GM_get y_GM_get : Cond) ∈ allW := (List.mem_append_left _ (List.mem_append_right _ (List.mem_of_getElem? (i := 5) (l := allW_10) rfl)))
theorem kw606 : (Cond.code y_GM_get prog_8_method_31_code 2 (some .long) : Cond) ∈ allW := (List.mem_append_left _ (List.mem_append_right _ (List.mem_of_getElem? (i := 6) (l := allW_10) rfl)))
theorem kw607 : (Cond.constantLong R_GM 175 (-1000000000000) : Cond) ∈ allW := (List.mem_append_left _ (List.mem_append_right _ (List.mem_of_getElem? (i := 7) (l := allW_10) rfl)))
theorem kw608 : (Cond.methodLink "GateStackLaw" 60 y_GM_output : Cond) ∈ allW := (List.mem_append_left _ (List.mem_append_right _ (List.mem_of_getElem? (i := 8) (l := allW_10) rfl)))
theorem kw609 : (Cond.instanceMethod y_GM_output : Cond) ∈ allW := (List.mem_append_left _ (List.mem_append_right _ (List.mem_of_getElem? (i := 9) (l := allW_10) rfl)))
theorem kw610 : (Cond.selects R_GM y_GM_output y_GM_output : Cond) ∈ allW := (List.mem_append_left _ (List.mem_append_right _ (List.mem_of_getElem? (i := 10) (l := allW_10) rfl)))
theorem kw611 : (Cond.code y_GM_output prog_8_method_32_code 2 (some .long) : Cond) ∈ allW := (List.mem_append_left _ (List.mem_append_right _ (List.mem_of_getElem? (i := 11) (l := allW_10) rfl)))
theorem kw612 : (Cond.methodLink "GateStackLaw" 64 y_GM_at : Cond) ∈ allW := (List.mem_append_left _ (List.mem_append_right _ (List.mem_of_getElem? (i := 12) (l := allW_10) rfl)))
theorem kw613 : (Cond.instanceMethod y_GM_at : Cond) ∈ allW := (List.mem_append_left _ (List.mem_append_right _ (List.mem_of_getElem? (i := 13) (l := allW_10) rfl)))
theorem kw614 : (Cond.selects R_GM y_GM_at y_GM_at : Cond) ∈ allW := (List.mem_append_left _ (List.mem_append_right _ (List.mem_of_getElem? (i := 14) (l := allW_10) rfl)))
theorem kw615 : (Cond.code y_GM_at prog_8_method_33_code 2 (some .int) : Cond) ∈ allW := (List.mem_append_left _ (List.mem_append_right _ (List.mem_of_getElem? (i := 15) (l := allW_10) rfl)))
theorem kw616 : (Cond.methodLink "GateStackLaw" 69 y_GM_operate : Cond) ∈ allW := (List.mem_append_left _ (List.mem_append_right _ (List.mem_of_getElem? (i := 16) (l := allW_10) rfl)))
theorem kw617 : (Cond.instanceMethod y_GM_operate : Cond) ∈ allW := (List.mem_append_left _ (List.mem_append_right _ (List.mem_of_getElem? (i := 17) (l := allW_10) rfl)))
theorem kw618 : (Cond.selects R_GM y_GM_operate y_GM_operate : Cond) ∈ allW := (List.mem_append_left _ (List.mem_append_right _ (List.mem_of_getElem? (i := 18) (l := allW_10) rfl)))
theorem kw619 : (Cond.code y_GM_operate prog_8_method_34_code 5 (some .long) : Cond) ∈ allW := (List.mem_append_left _ (List.mem_append_right _ (List.mem_of_getElem? (i := 19) (l := allW_10) rfl)))
theorem kw620 : (Cond.methodLink "GateStackLaw" 73 y_GM_state : Cond) ∈ allW := (List.mem_append_left _ (List.mem_append_right _ (List.mem_of_getElem? (i := 20) (l := allW_10) rfl)))
theorem kw621 : (Cond.instanceMethod y_GM_state : Cond) ∈ allW := (List.mem_append_left _ (List.mem_append_right _ (List.mem_of_getElem? (i := 21) (l := allW_10) rfl)))
theorem kw622 : (Cond.selects R_GM y_GM_state y_GM_state : Cond) ∈ allW := (List.mem_append_left _ (List.mem_append_right _ (List.mem_of_getElem? (i := 22) (l := allW_10) rfl)))
theorem kw623 : (Cond.code y_GM_state prog_8_method_35_code 3 (some .int) : Cond) ∈ allW := (List.mem_append_left _ (List.mem_append_right _ (List.mem_of_getElem? (i := 23) (l := allW_10) rfl)))
theorem kw624 : (Cond.selects R_GS y_GS_loosen y_GS_loosen : Cond) ∈ allW := (List.mem_append_left _ (List.mem_append_right _ (List.mem_of_getElem? (i := 24) (l := allW_10) rfl)))
theorem kw625 : (Cond.selects R_RD y_RD_takes y_RD_takes : Cond) ∈ allW := (List.mem_append_left _ (List.mem_append_right _ (List.mem_of_getElem? (i := 25) (l := allW_10) rfl)))
theorem kw626 : (Cond.selects R_RD y_RD_takesProcedure y_RD_takesProcedure : Cond) ∈ allW := (List.mem_append_left _ (List.mem_append_right _ (List.mem_of_getElem? (i := 26) (l := allW_10) rfl)))
theorem kw627 : (Cond.selects R_RD y_RD_begins y_RD_begins : Cond) ∈ allW := (List.mem_append_left _ (List.mem_append_right _ (List.mem_of_getElem? (i := 27) (l := allW_10) rfl)))
theorem kw628 : (Cond.selects R_RD y_RD_expects y_RD_expects : Cond) ∈ allW := (List.mem_append_left _ (List.mem_append_right _ (List.mem_of_getElem? (i := 28) (l := allW_10) rfl)))
theorem kw629 : (Cond.selects R_RD y_RD_opens y_RD_opens : Cond) ∈ allW := (List.mem_append_left _ (List.mem_append_right _ (List.mem_of_getElem? (i := 29) (l := allW_10) rfl)))
theorem kw630 : (Cond.selects R_RD y_RD_takesStatement y_RD_takesStatement : Cond) ∈ allW := (List.mem_append_left _ (List.mem_append_right _ (List.mem_of_getElem? (i := 30) (l := allW_10) rfl)))
theorem kw631 : (Cond.selects R_RD y_RD_closesBlock y_RD_closesBlock : Cond) ∈ allW := (List.mem_append_left _ (List.mem_append_right _ (List.mem_of_getElem? (i := 31) (l := allW_10) rfl)))
theorem kw632 : (Cond.selects R_MT y_MT_isPlace y_MT_isPlace : Cond) ∈ allW := (List.mem_append_left _ (List.mem_append_right _ (List.mem_of_getElem? (i := 32) (l := allW_10) rfl)))
theorem kw633 : (Cond.selects R_RD y_RD_takesOperand y_RD_takesOperand : Cond) ∈ allW := (List.mem_append_left _ (List.mem_append_right _ (List.mem_of_getElem? (i := 33) (l := allW_10) rfl)))
theorem kw634 : (Cond.selects R_RD y_RD_endsOperand y_RD_endsOperand : Cond) ∈ allW := (List.mem_append_left _ (List.mem_append_right _ (List.mem_of_getElem? (i := 34) (l := allW_10) rfl)))
theorem kw635 : (Cond.selects R_RD y_RD_lastOpen y_RD_lastOpen : Cond) ∈ allW := (List.mem_append_left _ (List.mem_append_right _ (List.mem_of_getElem? (i := 35) (l := allW_10) rfl)))
theorem kw636 : (Cond.selects R_RD y_RD_takesDigit y_RD_takesDigit : Cond) ∈ allW := (List.mem_append_left _ (List.mem_append_right _ (List.mem_of_getElem? (i := 36) (l := allW_10) rfl)))
theorem kw637 : (Cond.selects R_RD y_RD_takesOperator y_RD_takesOperator : Cond) ∈ allW := (List.mem_append_left _ (List.mem_append_right _ (List.mem_of_getElem? (i := 37) (l := allW_10) rfl)))
theorem kw638 : (Cond.selects R_PR y_PR_forget y_PR_forget : Cond) ∈ allW := (List.mem_append_left _ (List.mem_append_right _ (List.mem_of_getElem? (i := 38) (l := allW_10) rfl)))
theorem kw639 : (Cond.selects R_PR y_PR_takeOver y_PR_takeOver : Cond) ∈ allW := (List.mem_append_left _ (List.mem_append_right _ (List.mem_of_getElem? (i := 39) (l := allW_10) rfl)))
theorem kw640 : (Cond.selects R_PR y_PR_lacksOne y_PR_lacksOne : Cond) ∈ allW := (List.mem_append_left _ (List.mem_append_right _ (List.mem_of_getElem? (i := 40) (l := allW_10) rfl)))
theorem kw641 : (Cond.selects R_PR y_PR_followChains y_PR_followChains : Cond) ∈ allW := (List.mem_append_left _ (List.mem_append_right _ (List.mem_of_getElem? (i := 41) (l := allW_10) rfl)))
theorem kw642 : (Cond.selects R_PR y_PR_hasCircle y_PR_hasCircle : Cond) ∈ allW := (List.mem_append_left _ (List.mem_append_right _ (List.mem_of_getElem? (i := 42) (l := allW_10) rfl)))
theorem kw643 : (Cond.selects R_MA y_MA_enter y_MA_enter : Cond) ∈ allW := (List.mem_append_left _ (List.mem_append_right _ (List.mem_of_getElem? (i := 43) (l := allW_10) rfl)))
theorem kw644 : (Cond.selects R_MA y_MA_leaveEndedBlocks y_MA_leaveEndedBlocks : Cond) ∈ allW := (List.mem_append_left _ (List.mem_append_right _ (List.mem_of_getElem? (i := 44) (l := allW_10) rfl)))
theorem kw645 : (Cond.selects R_MA y_MA_currentText y_MA_currentText : Cond) ∈ allW := (List.mem_append_left _ (List.mem_append_right _ (List.mem_of_getElem? (i := 45) (l := allW_10) rfl)))
theorem kw646 : (Cond.selects R_MT y_MT_behindEndOf y_MT_behindEndOf : Cond) ∈ allW := (List.mem_append_left _ (List.mem_append_right _ (List.mem_of_getElem? (i := 46) (l := allW_10) rfl)))
theorem kw647 : (Cond.selects R_MA y_MA_placeBehind y_MA_placeBehind : Cond) ∈ allW := (List.mem_append_left _ (List.mem_append_right _ (List.mem_of_getElem? (i := 47) (l := allW_10) rfl)))
theorem kw648 : (Cond.selects R_CA y_CA_expression y_CA_expression : Cond) ∈ allW := (List.mem_append_left _ (List.mem_append_right _ (List.mem_of_getElem? (i := 48) (l := allW_10) rfl)))
theorem kw649 : (Cond.selects R_CA y_CA_operand y_CA_operand : Cond) ∈ allW := (List.mem_append_left _ (List.mem_append_right _ (List.mem_of_getElem? (i := 49) (l := allW_10) rfl)))
theorem kw650 : (Cond.selects R_CA y_CA_number y_CA_number : Cond) ∈ allW := (List.mem_append_left _ (List.mem_append_right _ (List.mem_of_getElem? (i := 50) (l := allW_10) rfl)))
theorem kw651 : (Cond.selects R_MA y_MA_keep y_MA_keep : Cond) ∈ allW := (List.mem_append_left _ (List.mem_append_right _ (List.mem_of_getElem? (i := 51) (l := allW_10) rfl)))
theorem kw652 : (Cond.selects R_GM y_GM_unlink y_GM_unlink : Cond) ∈ allW := (List.mem_append_left _ (List.mem_append_right _ (List.mem_of_getElem? (i := 52) (l := allW_10) rfl)))
theorem kw653 : (Cond.selects R_GM y_GM_stands y_GM_stands : Cond) ∈ allW := (List.mem_append_left _ (List.mem_append_right _ (List.mem_of_getElem? (i := 53) (l := allW_10) rfl)))
theorem kw654 : (Cond.selects R_GM y_GM_push y_GM_push : Cond) ∈ allW := (List.mem_append_left _ (List.mem_append_right _ (List.mem_of_getElem? (i := 54) (l := allW_10) rfl)))
theorem kw655 : (Cond.selects R_GM y_GM_atStatement y_GM_atStatement : Cond) ∈ allW := (List.mem_append_left _ (List.mem_append_right _ (List.mem_of_getElem? (i := 55) (l := allW_10) rfl)))
theorem kw656 : (Cond.selects R_GM y_GM_atOperand y_GM_atOperand : Cond) ∈ allW := (List.mem_append_left _ (List.mem_append_right _ (List.mem_of_getElem? (i := 56) (l := allW_10) rfl)))
theorem kw657 : (Cond.selects R_GM y_GM_operandEnds y_GM_operandEnds : Cond) ∈ allW := (List.mem_append_left _ (List.mem_append_right _ (List.mem_of_getElem? (i := 57) (l := allW_10) rfl)))
theorem kw658 : (Cond.selects R_GM y_GM_afterOperand y_GM_afterOperand : Cond) ∈ allW := (List.mem_append_left _ (List.mem_append_right _ (List.mem_of_getElem? (i := 58) (l := allW_10) rfl)))
theorem kw659 : (Cond.selects R_GM y_GM_twice y_GM_twice : Cond) ∈ allW := (List.mem_append_left _ (List.mem_append_right _ (List.mem_of_getElem? (i := 59) (l := allW_10) rfl)))
theorem kw660 : (Cond.selects R_GM y_GM_map y_GM_map : Cond) ∈ allW := (List.mem_append_right _ (List.mem_of_getElem? (i := 0) (l := allW_11) rfl))
theorem kw661 : (Cond.selects R_GM y_GM_gather y_GM_gather : Cond) ∈ allW := (List.mem_append_right _ (List.mem_of_getElem? (i := 1) (l := allW_11) rfl))
theorem kw662 : (Cond.selects R_GM y_GM_settle y_GM_settle : Cond) ∈ allW := (List.mem_append_right _ (List.mem_of_getElem? (i := 2) (l := allW_11) rfl))
theorem kw663 : (Cond.selects R_GM y_GM_step y_GM_step : Cond) ∈ allW := (List.mem_append_right _ (List.mem_of_getElem? (i := 3) (l := allW_11) rfl))
theorem kw664 : (Cond.selects R_GM y_GM_branch y_GM_branch : Cond) ∈ allW := (List.mem_append_right _ (List.mem_of_getElem? (i := 4) (l := allW_11) rfl))
theorem kw665 : (Cond.selects R_GM y_GM_work y_GM_work : Cond) ∈ allW := (List.mem_append_right _ (List.mem_of_getElem? (i := 5) (l := allW_11) rfl))
theorem kw666 : (Cond.selects R_GM y_GM_operand y_GM_operand : Cond) ∈ allW := (List.mem_append_right _ (List.mem_of_getElem? (i := 6) (l := allW_11) rfl))
theorem aG_0 : allW_0.all goodWord = true := by decide +kernel
theorem aG_1 : allW_1.all goodWord = true := by decide +kernel
theorem aG_2 : allW_2.all goodWord = true := by decide +kernel
theorem aG_3 : allW_3.all goodWord = true := by decide +kernel
theorem aG_4 : allW_4.all goodWord = true := by decide +kernel
theorem aG_5 : allW_5.all goodWord = true := by decide +kernel
theorem aG_6 : allW_6.all goodWord = true := by decide +kernel
theorem aG_7 : allW_7.all goodWord = true := by decide +kernel
theorem aG_8 : allW_8.all goodWord = true := by decide +kernel
theorem aG_9 : allW_9.all goodWord = true := by decide +kernel
theorem aG_10 : allW_10.all goodWord = true := by decide +kernel
theorem aG_11 : allW_11.all goodWord = true := by decide +kernel
theorem allG : ∀ w ∈ allW, goodWord w = true := by
  intro w h
  simp only [allW, List.mem_append] at h
  rcases h with ((((((((((h | h) | h) | h) | h) | h) | h) | h) | h) | h) | h) | h
  · exact List.all_eq_true.mp aG_0 w h
  · exact List.all_eq_true.mp aG_1 w h
  · exact List.all_eq_true.mp aG_2 w h
  · exact List.all_eq_true.mp aG_3 w h
  · exact List.all_eq_true.mp aG_4 w h
  · exact List.all_eq_true.mp aG_5 w h
  · exact List.all_eq_true.mp aG_6 w h
  · exact List.all_eq_true.mp aG_7 w h
  · exact List.all_eq_true.mp aG_8 w h
  · exact List.all_eq_true.mp aG_9 w h
  · exact List.all_eq_true.mp aG_10 w h
  · exact List.all_eq_true.mp aG_11 w h
theorem gM {c1 : Cond} {ws : List Cond} (h : ∀ w ∈ ws, w ∈ allW) : GoodIn (c1 :: allW) ws := fun w hw => ⟨List.mem_cons_of_mem _ (h w hw), good_of_word (allG w (h w hw))⟩
theorem gc {w : Cond} (h : w ∈ allW) : ∀ x ∈ w :: allW, x ∈ allW := fun x hx => by
  rcases List.mem_cons.mp hx with rfl | q
  · exact h
  · exact q
theorem gW {c1 : Cond} {y : MethodName} {b : ByteArray} {n : Nat} {r : Option FieldType} (h : Cond.code y b n r ∈ allW) : GoodIn (c1 :: allW) (.code y b n r :: allW) := gM (gc h)
theorem gV {c1 : Cond} {own C : String} {idx : Nat} {y : MethodName} {b : ByteArray} {n : Nat} {r : Option FieldType} (h1 : Cond.methodLink own idx y ∈ allW) (h2 : Cond.instanceMethod y ∈ allW) (h3 : Cond.selects C y y ∈ allW) (h4 : Cond.initialized C ∈ allW) (h5 : Cond.code y b n r ∈ allW) : GoodIn (c1 :: allW) (wsV own idx C y (.code y b n r :: allW)) := gM (fun w hw => by
  unfold wsV at hw
  rcases List.mem_append.mp hw with q | q
  · simp only [List.mem_cons, List.not_mem_nil, or_false] at q
    rcases q with rfl | rfl | rfl | rfl
    · exact h1
    · exact h2
    · exact h3
    · exact h4
  · exact gc h5 w q)
theorem gS {c1 : Cond} {own : String} {idx : Nat} {y : MethodName} {b : ByteArray} {n : Nat} {r : Option FieldType} (h1 : Cond.methodLink own idx y ∈ allW) (h2 : Cond.static y ∈ allW) (h4 : Cond.initialized own ∈ allW) (h5 : Cond.code y b n r ∈ allW) : GoodIn (c1 :: allW) (wsS own idx y (.code y b n r :: allW)) := gM (fun w hw => by
  unfold wsS at hw
  rcases List.mem_append.mp hw with q | q
  · simp only [List.mem_cons, List.not_mem_nil, or_false] at q
    rcases q with rfl | rfl | rfl
    · exact h1
    · exact h2
    · exact h4
  · exact gc h5 w q)
theorem gSS {c1 : Cond} {own : String} {idx : Nat} {y : MethodName} {b : ByteArray} {n : Nat} {r : Option FieldType} (h1 : Cond.methodLink own idx y ∈ allW) (h2 : Cond.static y ∈ allW) (h4 : Cond.initialized y.cls ∈ allW) (h5 : Cond.code y b n r ∈ allW) : GoodIn (c1 :: allW) (va_wsS own idx y (.code y b n r :: allW)) := gM (fun w hw => by
  unfold va_wsS at hw
  rcases List.mem_append.mp hw with q | q
  · simp only [List.mem_cons, List.not_mem_nil, or_false] at q
    rcases q with rfl | rfl | rfl
    · exact h1
    · exact h2
    · exact h4
  · exact gc h5 w q)
theorem in_GS : ∀ w ∈ u_ws R_GS T_GS 6, w ∈ allW := by decide +kernel
theorem in_MT : ∀ w ∈ u_ws R_MT T_MT 10, w ∈ allW := by decide +kernel
theorem in_RD : ∀ w ∈ u_ws R_RD T_RD 8, w ∈ allW := by decide +kernel
theorem in_PR : ∀ w ∈ u_ws R_PR T_PR 3, w ∈ allW := by decide +kernel
theorem in_CA : ∀ w ∈ u_ws R_CA T_CA 2, w ∈ allW := by decide +kernel
theorem in_MA : ∀ w ∈ u_ws R_MA T_MA 5, w ∈ allW := by decide +kernel
theorem in_GM : ∀ w ∈ u_ws R_GM T_GM 30, w ∈ allW := by decide +kernel
abbrev ws_GS_init : List Cond := .code y_GS_init b_GS_init 2 none :: allW
abbrev ws_GS_sign : List Cond := .code y_GS_sign b_GS_sign 3 (some .int) :: allW
abbrev ws_GS_clear : List Cond := .code y_GS_clear b_GS_clear 2 (some .int) :: allW
abbrev ws_GS_compile : List Cond := .code y_GS_compile b_GS_compile 4 (some .int) :: allW
abbrev ws_GS_fault : List Cond := .code y_GS_fault b_GS_fault 2 (some .int) :: allW
abbrev ws_GS_link : List Cond := .code y_GS_link b_GS_link 2 (some .int) :: allW
abbrev ws_GS_start : List Cond := .code y_GS_start b_GS_start 1 (some .int) :: allW
abbrev ws_GS_run : List Cond := .code y_GS_run b_GS_run 3 (some .int) :: allW
abbrev ws_GS_stop : List Cond := .code y_GS_stop b_GS_stop 1 (some .int) :: allW
abbrev ws_GS_set : List Cond := .code y_GS_set b_GS_set 3 (some .int) :: allW
abbrev ws_GS_get : List Cond := .code y_GS_get b_GS_get 2 (some .long) :: allW
abbrev ws_GS_output : List Cond := .code y_GS_output b_GS_output 2 (some .long) :: allW
abbrev ws_GS_at : List Cond := .code y_GS_at b_GS_at 2 (some .int) :: allW
abbrev ws_GS_operate : List Cond := .code y_GS_operate b_GS_operate 4 (some .long) :: allW
abbrev ws_GS_state : List Cond := .code y_GS_state b_GS_state 3 (some .int) :: allW
abbrev ws_GS_loosen : List Cond := .code y_GS_loosen b_GS_loosen 1 none :: allW
abbrev ws_GS_isModule : List Cond := .code y_GS_isModule b_GS_isModule 1 (some .boolean) :: allW
abbrev ws_GS_isVariableNumber : List Cond := .code y_GS_isVariableNumber b_GS_isVariableNumber 1 (some .boolean) :: allW
abbrev ws_GS_isLetterNumber : List Cond := .code y_GS_isLetterNumber b_GS_isLetterNumber 1 (some .boolean) :: allW
abbrev ws_GS_isLetter : List Cond := .code y_GS_isLetter b_GS_isLetter 1 (some .boolean) :: allW
abbrev ws_GS_isVariable : List Cond := .code y_GS_isVariable b_GS_isVariable 1 (some .boolean) :: allW
abbrev ws_GS_isDigit : List Cond := .code y_GS_isDigit b_GS_isDigit 1 (some .boolean) :: allW
abbrev ws_GS_isPrefix : List Cond := .code y_GS_isPrefix b_GS_isPrefix 1 (some .boolean) :: allW
abbrev ws_GS_hasBit : List Cond := .code y_GS_hasBit b_GS_hasBit 2 (some .boolean) :: allW
abbrev ws_GS_operationOf : List Cond := .code y_GS_operationOf b_GS_operationOf 1 (some .int) :: allW
abbrev ws_GS_worked : List Cond := .code y_GS_worked b_GS_worked 3 (some .int) :: allW
abbrev ws_GM_init : List Cond := .code y_GM_init b_GM_init 2 none :: allW
abbrev ws_GM_in : List Cond := .code y_GM_in b_GM_in 3 (some .boolean) :: allW
abbrev ws_GM_unlink : List Cond := .code y_GM_unlink b_GM_unlink 1 none :: allW
abbrev ws_GM_sign : List Cond := .code y_GM_sign b_GM_sign 3 (some .int) :: allW
abbrev ws_GM_clear : List Cond := .code y_GM_clear b_GM_clear 2 (some .int) :: allW
abbrev ws_GM_isVariable : List Cond := .code y_GM_isVariable b_GM_isVariable 1 (some .boolean) :: allW
abbrev ws_GM_isLetter : List Cond := .code y_GM_isLetter b_GM_isLetter 1 (some .boolean) :: allW
abbrev ws_GM_isOperator : List Cond := .code y_GM_isOperator b_GM_isOperator 1 (some .boolean) :: allW
abbrev ws_GM_push : List Cond := .code y_GM_push b_GM_push 3 (some .boolean) :: allW
abbrev ws_GM_operandEnds : List Cond := .code y_GM_operandEnds b_GM_operandEnds 1 none :: allW
abbrev ws_GM_atStatement : List Cond := .code y_GM_atStatement b_GM_atStatement 3 (some .boolean) :: allW
abbrev ws_GM_atOperand : List Cond := .code y_GM_atOperand b_GM_atOperand 3 (some .boolean) :: allW
abbrev ws_GM_afterOperand : List Cond := .code y_GM_afterOperand b_GM_afterOperand 3 (some .boolean) :: allW
abbrev ws_GM_stands : List Cond := .code y_GM_stands b_GM_stands 3 (some .boolean) :: allW
abbrev ws_GM_fault : List Cond := .code y_GM_fault b_GM_fault 3 (some .int) :: allW
abbrev ws_GM_map : List Cond := .code y_GM_map b_GM_map 11 (some .int) :: allW
abbrev ws_GM_twice : List Cond := .code y_GM_twice b_GM_twice 6 (some .boolean) :: allW
abbrev ws_GM_compile : List Cond := .code y_GM_compile b_GM_compile 2 (some .int) :: allW
abbrev ws_GM_gather : List Cond := .code y_GM_gather b_GM_gather 7 (some .boolean) :: allW
abbrev ws_GM_link : List Cond := .code y_GM_link b_GM_link 7 (some .int) :: allW
abbrev ws_GM_apply : List Cond := .code y_GM_apply b_GM_apply 3 (some .int) :: allW
abbrev ws_GM_operand : List Cond := .code y_GM_operand b_GM_operand 4 none :: allW
abbrev ws_GM_work : List Cond := .code y_GM_work b_GM_work 7 (some .int) :: allW
abbrev ws_GM_settle : List Cond := .code y_GM_settle b_GM_settle 3 none :: allW
abbrev ws_GM_start : List Cond := .code y_GM_start b_GM_start 1 (some .int) :: allW
abbrev ws_GM_branch : List Cond := .code y_GM_branch b_GM_branch 5 none :: allW
abbrev ws_GM_step : List Cond := .code y_GM_step b_GM_step 3 none :: allW
abbrev ws_GM_run : List Cond := .code y_GM_run b_GM_run 3 (some .int) :: allW
abbrev ws_GM_stop : List Cond := .code y_GM_stop b_GM_stop 1 (some .int) :: allW
abbrev ws_GM_set : List Cond := .code y_GM_set b_GM_set 3 (some .int) :: allW
abbrev ws_GM_get : List Cond := .code y_GM_get b_GM_get 2 (some .long) :: allW
abbrev ws_GM_output : List Cond := .code y_GM_output b_GM_output 2 (some .long) :: allW
abbrev ws_GM_at : List Cond := .code y_GM_at b_GM_at 2 (some .int) :: allW
abbrev ws_GM_operate : List Cond := .code y_GM_operate b_GM_operate 5 (some .long) :: allW
abbrev ws_GM_state : List Cond := .code y_GM_state b_GM_state 3 (some .int) :: allW
abbrev ws_CA_init : List Cond := .code y_CA_init b_CA_init 1 none :: allW
abbrev ws_CA_assign : List Cond := .code y_CA_assign b_CA_assign 3 (some .boolean) :: allW
abbrev ws_CA_variable : List Cond := .code y_CA_variable b_CA_variable 2 (some .int) :: allW
abbrev ws_CA_valueAt : List Cond := .code y_CA_valueAt b_CA_valueAt 3 (some .int) :: allW
abbrev ws_CA_cursor : List Cond := .code y_CA_cursor b_CA_cursor 1 (some .int) :: allW
abbrev ws_CA_expression : List Cond := .code y_CA_expression b_CA_expression 6 (some .int) :: allW
abbrev ws_CA_operand : List Cond := .code y_CA_operand b_CA_operand 5 (some .int) :: allW
abbrev ws_CA_number : List Cond := .code y_CA_number b_CA_number 4 (some .int) :: allW
abbrev ws_MA_init : List Cond := .code y_MA_init b_MA_init 1 none :: allW
abbrev ws_MA_isGoing : List Cond := .code y_MA_isGoing b_MA_isGoing 1 (some .boolean) :: allW
abbrev ws_MA_depth : List Cond := .code y_MA_depth b_MA_depth 1 (some .int) :: allW
abbrev ws_MA_outputCount : List Cond := .code y_MA_outputCount b_MA_outputCount 1 (some .int) :: allW
abbrev ws_MA_hasKept : List Cond := .code y_MA_hasKept b_MA_hasKept 2 (some .boolean) :: allW
abbrev ws_MA_kept : List Cond := .code y_MA_kept b_MA_kept 2 (some .int) :: allW
abbrev ws_MA_letterCode : List Cond := .code y_MA_letterCode b_MA_letterCode 1 (some .int) :: allW
abbrev ws_MA_statementNumber : List Cond := .code y_MA_statementNumber b_MA_statementNumber 3 (some .int) :: allW
abbrev ws_MA_halt : List Cond := .code y_MA_halt b_MA_halt 1 none :: allW
abbrev ws_MA_begin : List Cond := .code y_MA_begin b_MA_begin 2 none :: allW
abbrev ws_MA_step : List Cond := .code y_MA_step b_MA_step 7 none :: allW
abbrev ws_MA_currentText : List Cond := .code y_MA_currentText b_MA_currentText 2 (some (.object "GateStack$ModuleText")) :: allW
abbrev ws_MA_enter : List Cond := .code y_MA_enter b_MA_enter 4 none :: allW
abbrev ws_MA_placeBehind : List Cond := .code y_MA_placeBehind b_MA_placeBehind 8 (some .int) :: allW
abbrev ws_MA_keep : List Cond := .code y_MA_keep b_MA_keep 2 none :: allW
abbrev ws_MA_leaveEndedBlocks : List Cond := .code y_MA_leaveEndedBlocks b_MA_leaveEndedBlocks 5 none :: allW
abbrev ws_MT_init : List Cond := .code y_MT_init b_MT_init 1 none :: allW
abbrev ws_MT_append : List Cond := .code y_MT_append b_MT_append 2 (some .boolean) :: allW
abbrev ws_MT_empty : List Cond := .code y_MT_empty b_MT_empty 1 none :: allW
abbrev ws_MT_forget : List Cond := .code y_MT_forget b_MT_forget 1 none :: allW
abbrev ws_MT_mark : List Cond := .code y_MT_mark b_MT_mark 2 none :: allW
abbrev ws_MT_addProcedure : List Cond := .code y_MT_addProcedure b_MT_addProcedure 3 none :: allW
abbrev ws_MT_addCall : List Cond := .code y_MT_addCall b_MT_addCall 3 none :: allW
abbrev ws_MT_addStatement : List Cond := .code y_MT_addStatement b_MT_addStatement 3 none :: allW
abbrev ws_MT_addBlock : List Cond := .code y_MT_addBlock b_MT_addBlock 3 none :: allW
abbrev ws_MT_length : List Cond := .code y_MT_length b_MT_length 1 (some .int) :: allW
abbrev ws_MT_defined : List Cond := .code y_MT_defined b_MT_defined 1 (some .int) :: allW
abbrev ws_MT_hasTwins : List Cond := .code y_MT_hasTwins b_MT_hasTwins 1 (some .boolean) :: allW
abbrev ws_MT_isCompiled : List Cond := .code y_MT_isCompiled b_MT_isCompiled 1 (some .boolean) :: allW
abbrev ws_MT_signAt : List Cond := .code y_MT_signAt b_MT_signAt 2 (some .int) :: allW
abbrev ws_MT_numberAt : List Cond := .code y_MT_numberAt b_MT_numberAt 2 (some .int) :: allW
abbrev ws_MT_callsOf : List Cond := .code y_MT_callsOf b_MT_callsOf 2 (some .int) :: allW
abbrev ws_MT_firstPlaceOf : List Cond := .code y_MT_firstPlaceOf b_MT_firstPlaceOf 2 (some .int) :: allW
abbrev ws_MT_endsProcedure : List Cond := .code y_MT_endsProcedure b_MT_endsProcedure 2 (some .boolean) :: allW
abbrev ws_MT_behindBlock : List Cond := .code y_MT_behindBlock b_MT_behindBlock 3 (some .int) :: allW
abbrev ws_MT_placeIfZero : List Cond := .code y_MT_placeIfZero b_MT_placeIfZero 3 (some .int) :: allW
abbrev ws_MT_behindEndOf : List Cond := .code y_MT_behindEndOf b_MT_behindEndOf 2 (some .int) :: allW
abbrev ws_MT_isPlace : List Cond := .code y_MT_isPlace b_MT_isPlace 2 (some .boolean) :: allW
abbrev ws_PR_init : List Cond := .code y_PR_init b_PR_init 1 none :: allW
abbrev ws_PR_join : List Cond := .code y_PR_join b_PR_join 3 (some .int) :: allW
abbrev ws_PR_homeOf : List Cond := .code y_PR_homeOf b_PR_homeOf 2 (some (.object "GateStack$ModuleText")) :: allW
abbrev ws_PR_forget : List Cond := .code y_PR_forget b_PR_forget 2 none :: allW
abbrev ws_PR_takeOver : List Cond := .code y_PR_takeOver b_PR_takeOver 3 none :: allW
abbrev ws_PR_lacksOne : List Cond := .code y_PR_lacksOne b_PR_lacksOne 3 (some .boolean) :: allW
abbrev ws_PR_followChains : List Cond := .code y_PR_followChains b_PR_followChains 3 none :: allW
abbrev ws_PR_hasCircle : List Cond := .code y_PR_hasCircle b_PR_hasCircle 2 (some .boolean) :: allW
abbrev ws_RD_init : List Cond := .code y_RD_init b_RD_init 1 none :: allW
abbrev ws_RD_faultOf : List Cond := .code y_RD_faultOf b_RD_faultOf 4 (some .int) :: allW
abbrev ws_RD_takes : List Cond := .code y_RD_takes b_RD_takes 4 (some .boolean) :: allW
abbrev ws_RD_takesProcedure : List Cond := .code y_RD_takesProcedure b_RD_takesProcedure 4 (some .boolean) :: allW
abbrev ws_RD_takesStatement : List Cond := .code y_RD_takesStatement b_RD_takesStatement 5 (some .boolean) :: allW
abbrev ws_RD_behindFirstSign : List Cond := .code y_RD_behindFirstSign b_RD_behindFirstSign 1 (some .int) :: allW
abbrev ws_RD_closesBlock : List Cond := .code y_RD_closesBlock b_RD_closesBlock 5 (some .boolean) :: allW
abbrev ws_RD_takesOperand : List Cond := .code y_RD_takesOperand b_RD_takesOperand 4 (some .boolean) :: allW
abbrev ws_RD_takesDigit : List Cond := .code y_RD_takesDigit b_RD_takesDigit 1 (some .boolean) :: allW
abbrev ws_RD_takesOperator : List Cond := .code y_RD_takesOperator b_RD_takesOperator 5 (some .boolean) :: allW
abbrev ws_RD_endsOperand : List Cond := .code y_RD_endsOperand b_RD_endsOperand 3 (some .boolean) :: allW
abbrev ws_RD_lastOpen : List Cond := .code y_RD_lastOpen b_RD_lastOpen 2 (some .int) :: allW
abbrev ws_RD_opens : List Cond := .code y_RD_opens b_RD_opens 3 (some .boolean) :: allW
abbrev ws_RD_begins : List Cond := .code y_RD_begins b_RD_begins 3 (some .boolean) :: allW
abbrev ws_RD_expects : List Cond := .code y_RD_expects b_RD_expects 2 (some .boolean) :: allW
abbrev ws_JI_bitCount : List Cond := .code y_JI_bitCount b_JI_bitCount 1 (some .int) :: allW
end
section
/-- the class's state: the three texts (text, row, place), and the other cells (cell, place) -/
abbrev CS : Type := (Nat → Nat → Nat → Int32) × (Nat → Nat → Int32)
/-- where the cells lie: the fixed ones, the texts' ones; the classes of int[] and of ModuleText[] -/
abbrev GP : Type := (Nat → Nat) × (Nat → Nat → Nat) × ClassId × ClassId
abbrev aA (G : GP) (c : Nat) : Nat := G.1 c
abbrev tA (G : GP) (k j : Nat) : Nat := G.2.1 k j
def stR (S : CS) (c i : Nat) (v : Int32) : CS := (S.1, va_up S.2 c (upd (S.2 c) i v))
def stT (S : CS) (k j i : Nat) (v : Int32) : CS := (va_up S.1 k (va_up (S.1 k) j (upd (S.1 k j) i v)), S.2)
def hm (G : GP) (n : Nat) : Option Nat := match n with
  | 0 => none
  | n + 1 => some (tA G n 0)
def hc (x : Int32) : Nat := x.toNatClampNeg
def mods (G : GP) : Nat → Option Nat := va_up (va_up (va_up (fun _ => none) 0 (some (tA G 0 0))) 1 (some (tA G 1 0))) 2 (some (tA G 2 0))
def bl (x : Int32) : Prop := x = 0 ∨ x = 1
theorem bl_nar {v : Int32} (h : bl v) : narrow .boolean (.int v) = .int v := by rcases h with rfl | rfl <;> rfl
theorem bl_fit {v : Int32} (h : bl v) : fits .boolean (.int v) = true := by rcases h with rfl | rfl <;> rfl
abbrev fR0 (G : GP) (S : CS) : List Value := [.ref (aA G 1), .ref (aA G 2), .ref (aA G 4), .ref (aA G 7), .ref (aA G 9), .int (S.2 0 5)]
abbrev fR2 (G : GP) (S : CS) : List Value := [.ref (aA G 3), .int (S.2 2 1), .int (S.2 2 2), .int (S.2 2 3), .int (S.2 2 4), .int (S.2 2 5), .int (S.2 2 6), .int (S.2 2 7)]
abbrev fR4 (G : GP) (S : CS) : List Value := [.ref (aA G 5), .ref (aA G 6), .int (S.2 4 2)]
abbrev fR7 (G : GP) (S : CS) : List Value := [.ref (aA G 8), .int (S.2 7 1)]
abbrev fR9 (G : GP) (S : CS) : List Value := [.ref (aA G 10), .ref (aA G 11), .ref (aA G 12), .int (S.2 9 3), .int (S.2 9 4)]
abbrev fT (G : GP) (S : CS) (k : Nat) : List Value := [.ref (tA G k 1), .ref (tA G k 2), .ref (tA G k 3), .ref (tA G k 4), .ref (tA G k 5), .ref (tA G k 6), .int (S.1 k 0 6), .int (S.1 k 0 7), .int (S.1 k 0 8), .int (S.1 k 0 9)]
/-- the cells -/
def wC (G : GP) (S : CS) : va_W := [
  (aA G 0, .inr (0, fR0 G S)),
  (aA G 1, .inl (G.2.2.2, 3, .inr (.inr (.inr (.inr (mods G)))))),
  (aA G 2, .inr (2, fR2 G S)),
  (aA G 3, .inl (G.2.2.1, 6, .inl (S.2 3))),
  (aA G 4, .inr (3, fR4 G S)),
  (aA G 5, .inl (G.2.2.2, 26, .inr (.inr (.inr (.inr (fun j => hm G (hc (S.2 5 j)))))))),
  (aA G 6, .inl (G.2.2.1, 26, .inl (S.2 6))),
  (aA G 7, .inr (4, fR7 G S)),
  (aA G 8, .inl (G.2.2.1, 8, .inl (S.2 8))),
  (aA G 9, .inr (5, fR9 G S)),
  (aA G 10, .inl (G.2.2.1, 26, .inl (S.2 10))),
  (aA G 11, .inl (G.2.2.1, 26, .inl (S.2 11))),
  (aA G 12, .inl (G.2.2.1, 24, .inl (S.2 12))),
  (tA G 0 0, .inr (1, fT G S 0)),
  (tA G 0 1, .inl (G.2.2.1, 60, .inl (S.1 0 1))),
  (tA G 0 2, .inl (G.2.2.1, 60, .inl (S.1 0 2))),
  (tA G 0 3, .inl (G.2.2.1, 60, .inl (S.1 0 3))),
  (tA G 0 4, .inl (G.2.2.1, 60, .inl (S.1 0 4))),
  (tA G 0 5, .inl (G.2.2.1, 26, .inl (S.1 0 5))),
  (tA G 0 6, .inl (G.2.2.1, 26, .inl (S.1 0 6))),
  (tA G 1 0, .inr (1, fT G S 1)),
  (tA G 1 1, .inl (G.2.2.1, 60, .inl (S.1 1 1))),
  (tA G 1 2, .inl (G.2.2.1, 60, .inl (S.1 1 2))),
  (tA G 1 3, .inl (G.2.2.1, 60, .inl (S.1 1 3))),
  (tA G 1 4, .inl (G.2.2.1, 60, .inl (S.1 1 4))),
  (tA G 1 5, .inl (G.2.2.1, 26, .inl (S.1 1 5))),
  (tA G 1 6, .inl (G.2.2.1, 26, .inl (S.1 1 6))),
  (tA G 2 0, .inr (1, fT G S 2)),
  (tA G 2 1, .inl (G.2.2.1, 60, .inl (S.1 2 1))),
  (tA G 2 2, .inl (G.2.2.1, 60, .inl (S.1 2 2))),
  (tA G 2 3, .inl (G.2.2.1, 60, .inl (S.1 2 3))),
  (tA G 2 4, .inl (G.2.2.1, 60, .inl (S.1 2 4))),
  (tA G 2 5, .inl (G.2.2.1, 26, .inl (S.1 2 5))),
  (tA G 2 6, .inl (G.2.2.1, 26, .inl (S.1 2 6)))]
def tyC (G : GP) : List (ClassId × FieldType) := [(G.2.2.1, .int), (G.2.2.2, .object "GateStack$ModuleText")]
theorem w_0 (G : GP) (S : CS) : (wC G S)[0]? = some (aA G 0, .inr (0, fR0 G S)) := rfl
theorem w_1 (G : GP) (S : CS) : (wC G S)[1]? = some (aA G 1, .inl (G.2.2.2, 3, .inr (.inr (.inr (.inr (mods G)))))) := rfl
theorem w_2 (G : GP) (S : CS) : (wC G S)[2]? = some (aA G 2, .inr (2, fR2 G S)) := rfl
theorem w_3 (G : GP) (S : CS) : (wC G S)[3]? = some (aA G 3, .inl (G.2.2.1, 6, .inl (S.2 3))) := rfl
theorem w_4 (G : GP) (S : CS) : (wC G S)[4]? = some (aA G 4, .inr (3, fR4 G S)) := rfl
theorem w_5 (G : GP) (S : CS) : (wC G S)[5]? = some (aA G 5, .inl (G.2.2.2, 26, .inr (.inr (.inr (.inr (fun j => hm G (hc (S.2 5 j)))))))) := rfl
theorem w_6 (G : GP) (S : CS) : (wC G S)[6]? = some (aA G 6, .inl (G.2.2.1, 26, .inl (S.2 6))) := rfl
theorem w_7 (G : GP) (S : CS) : (wC G S)[7]? = some (aA G 7, .inr (4, fR7 G S)) := rfl
theorem w_8 (G : GP) (S : CS) : (wC G S)[8]? = some (aA G 8, .inl (G.2.2.1, 8, .inl (S.2 8))) := rfl
theorem w_9 (G : GP) (S : CS) : (wC G S)[9]? = some (aA G 9, .inr (5, fR9 G S)) := rfl
theorem w_10 (G : GP) (S : CS) : (wC G S)[10]? = some (aA G 10, .inl (G.2.2.1, 26, .inl (S.2 10))) := rfl
theorem w_11 (G : GP) (S : CS) : (wC G S)[11]? = some (aA G 11, .inl (G.2.2.1, 26, .inl (S.2 11))) := rfl
theorem w_12 (G : GP) (S : CS) : (wC G S)[12]? = some (aA G 12, .inl (G.2.2.1, 24, .inl (S.2 12))) := rfl
theorem wt_0 (G : GP) (S : CS) {k : Nat} (hk : k < 3) : (wC G S)[13 + 7 * k]? = some (tA G k 0, .inr (1, fT G S k)) := by
  match k, hk with
  | 0, _ => rfl
  | 1, _ => rfl
  | 2, _ => rfl
theorem wt_1 (G : GP) (S : CS) {k : Nat} (hk : k < 3) : (wC G S)[13 + 7 * k + 1]? = some (tA G k 1, .inl (G.2.2.1, 60, .inl (S.1 k 1))) := by
  match k, hk with
  | 0, _ => rfl
  | 1, _ => rfl
  | 2, _ => rfl
theorem wt_2 (G : GP) (S : CS) {k : Nat} (hk : k < 3) : (wC G S)[13 + 7 * k + 2]? = some (tA G k 2, .inl (G.2.2.1, 60, .inl (S.1 k 2))) := by
  match k, hk with
  | 0, _ => rfl
  | 1, _ => rfl
  | 2, _ => rfl
theorem wt_3 (G : GP) (S : CS) {k : Nat} (hk : k < 3) : (wC G S)[13 + 7 * k + 3]? = some (tA G k 3, .inl (G.2.2.1, 60, .inl (S.1 k 3))) := by
  match k, hk with
  | 0, _ => rfl
  | 1, _ => rfl
  | 2, _ => rfl
theorem wt_4 (G : GP) (S : CS) {k : Nat} (hk : k < 3) : (wC G S)[13 + 7 * k + 4]? = some (tA G k 4, .inl (G.2.2.1, 60, .inl (S.1 k 4))) := by
  match k, hk with
  | 0, _ => rfl
  | 1, _ => rfl
  | 2, _ => rfl
theorem wt_5 (G : GP) (S : CS) {k : Nat} (hk : k < 3) : (wC G S)[13 + 7 * k + 5]? = some (tA G k 5, .inl (G.2.2.1, 26, .inl (S.1 k 5))) := by
  match k, hk with
  | 0, _ => rfl
  | 1, _ => rfl
  | 2, _ => rfl
theorem wt_6 (G : GP) (S : CS) {k : Nat} (hk : k < 3) : (wC G S)[13 + 7 * k + 6]? = some (tA G k 6, .inl (G.2.2.1, 26, .inl (S.1 k 6))) := by
  match k, hk with
  | 0, _ => rfl
  | 1, _ => rfl
  | 2, _ => rfl
theorem wst_0_5 (G : GP) (S : CS) (v : Int32) : (wC G S).set 0 (aA G 0, .inr (0, (fR0 G S).set 5 (.int v))) = wC G (stR S 0 5 v) := rfl
theorem wst_2_1 (G : GP) (S : CS) (v : Int32) : (wC G S).set 2 (aA G 2, .inr (2, (fR2 G S).set 1 (.int v))) = wC G (stR S 2 1 v) := rfl
theorem wst_2_2 (G : GP) (S : CS) (v : Int32) : (wC G S).set 2 (aA G 2, .inr (2, (fR2 G S).set 2 (.int v))) = wC G (stR S 2 2 v) := rfl
theorem wst_2_3 (G : GP) (S : CS) (v : Int32) : (wC G S).set 2 (aA G 2, .inr (2, (fR2 G S).set 3 (.int v))) = wC G (stR S 2 3 v) := rfl
theorem wst_2_4 (G : GP) (S : CS) (v : Int32) : (wC G S).set 2 (aA G 2, .inr (2, (fR2 G S).set 4 (.int v))) = wC G (stR S 2 4 v) := rfl
theorem wst_2_5 (G : GP) (S : CS) (v : Int32) : (wC G S).set 2 (aA G 2, .inr (2, (fR2 G S).set 5 (.int v))) = wC G (stR S 2 5 v) := rfl
theorem wst_2_6 (G : GP) (S : CS) (v : Int32) : (wC G S).set 2 (aA G 2, .inr (2, (fR2 G S).set 6 (.int v))) = wC G (stR S 2 6 v) := rfl
theorem wst_2_7 (G : GP) (S : CS) (v : Int32) : (wC G S).set 2 (aA G 2, .inr (2, (fR2 G S).set 7 (.int v))) = wC G (stR S 2 7 v) := rfl
theorem wst_4_2 (G : GP) (S : CS) (v : Int32) : (wC G S).set 4 (aA G 4, .inr (3, (fR4 G S).set 2 (.int v))) = wC G (stR S 4 2 v) := rfl
theorem wst_7_1 (G : GP) (S : CS) (v : Int32) : (wC G S).set 7 (aA G 7, .inr (4, (fR7 G S).set 1 (.int v))) = wC G (stR S 7 1 v) := rfl
theorem wst_9_3 (G : GP) (S : CS) (v : Int32) : (wC G S).set 9 (aA G 9, .inr (5, (fR9 G S).set 3 (.int v))) = wC G (stR S 9 3 v) := rfl
theorem wst_9_4 (G : GP) (S : CS) (v : Int32) : (wC G S).set 9 (aA G 9, .inr (5, (fR9 G S).set 4 (.int v))) = wC G (stR S 9 4 v) := rfl
theorem wsta_3 (G : GP) (S : CS) (i : Nat) (v : Int32) : (wC G S).set 3 (aA G 3, .inl (G.2.2.1, 6, .inl (upd (S.2 3) i v))) = wC G (stR S 3 i v) := rfl
theorem wsta_6 (G : GP) (S : CS) (i : Nat) (v : Int32) : (wC G S).set 6 (aA G 6, .inl (G.2.2.1, 26, .inl (upd (S.2 6) i v))) = wC G (stR S 6 i v) := rfl
theorem wsta_8 (G : GP) (S : CS) (i : Nat) (v : Int32) : (wC G S).set 8 (aA G 8, .inl (G.2.2.1, 8, .inl (upd (S.2 8) i v))) = wC G (stR S 8 i v) := rfl
theorem wsta_10 (G : GP) (S : CS) (i : Nat) (v : Int32) : (wC G S).set 10 (aA G 10, .inl (G.2.2.1, 26, .inl (upd (S.2 10) i v))) = wC G (stR S 10 i v) := rfl
theorem wsta_11 (G : GP) (S : CS) (i : Nat) (v : Int32) : (wC G S).set 11 (aA G 11, .inl (G.2.2.1, 26, .inl (upd (S.2 11) i v))) = wC G (stR S 11 i v) := rfl
theorem wsta_12 (G : GP) (S : CS) (i : Nat) (v : Int32) : (wC G S).set 12 (aA G 12, .inl (G.2.2.1, 24, .inl (upd (S.2 12) i v))) = wC G (stR S 12 i v) := rfl
theorem hm_up (G : GP) (S : CS) (i n : Nat) (v : Int32) (hv : hc v = n) : va_up (fun j => hm G (hc (S.2 5 j))) i (hm G n) = (fun j => hm G (hc (upd (S.2 5) i v j))) := by
  funext j
  by_cases h : j = i
  · subst h; simp [va_up, upd, hv]
  · simp [va_up, upd, h]
theorem wst_5N (G : GP) (S : CS) (i : Nat) : (wC G S).set 5 (aA G 5, .inl (G.2.2.2, 26, .inr (.inr (.inr (.inr (va_up (fun j => hm G (hc (S.2 5 j))) i none)))))) = wC G (stR S 5 i 0) := by
  have h := hm_up G S i 0 0 rfl
  have h : va_up (fun j => hm G (hc (S.2 5 j))) i none = (fun j => hm G (hc (upd (S.2 5) i 0 j))) := h
  rw [h]
  rfl
theorem wst_5Q (G : GP) (S : CS) (i : Nat) {k : Nat} (hk : k < 3) : (wC G S).set 5 (aA G 5, .inl (G.2.2.2, 26, .inr (.inr (.inr (.inr (va_up (fun j => hm G (hc (S.2 5 j))) i (some (tA G k 0)))))))) = wC G (stR S 5 i (nI (k + 1))) := by
  have h := hm_up G S i (k + 1) (nI (k + 1)) (nI_clamp (by omega))
  have h : va_up (fun j => hm G (hc (S.2 5 j))) i (some (tA G k 0)) = (fun j => hm G (hc (upd (S.2 5) i (nI (k + 1)) j))) := h
  rw [h]
  rfl
theorem wstt_6 (G : GP) (S : CS) (v : Int32) {k : Nat} (hk : k < 3) : (wC G S).set (13 + 7 * k) (tA G k 0, .inr (1, (fT G S k).set 6 (.int v))) = wC G (stT S k 0 6 v) := by
  match k, hk with
  | 0, _ => rfl
  | 1, _ => rfl
  | 2, _ => rfl
theorem wstt_7 (G : GP) (S : CS) (v : Int32) {k : Nat} (hk : k < 3) : (wC G S).set (13 + 7 * k) (tA G k 0, .inr (1, (fT G S k).set 7 (.int v))) = wC G (stT S k 0 7 v) := by
  match k, hk with
  | 0, _ => rfl
  | 1, _ => rfl
  | 2, _ => rfl
theorem wstt_8 (G : GP) (S : CS) (v : Int32) {k : Nat} (hk : k < 3) : (wC G S).set (13 + 7 * k) (tA G k 0, .inr (1, (fT G S k).set 8 (.int v))) = wC G (stT S k 0 8 v) := by
  match k, hk with
  | 0, _ => rfl
  | 1, _ => rfl
  | 2, _ => rfl
theorem wstt_9 (G : GP) (S : CS) (v : Int32) {k : Nat} (hk : k < 3) : (wC G S).set (13 + 7 * k) (tA G k 0, .inr (1, (fT G S k).set 9 (.int v))) = wC G (stT S k 0 9 v) := by
  match k, hk with
  | 0, _ => rfl
  | 1, _ => rfl
  | 2, _ => rfl
theorem wstt_a1 (G : GP) (S : CS) (i : Nat) (v : Int32) {k : Nat} (hk : k < 3) : (wC G S).set (13 + 7 * k + 1) (tA G k 1, .inl (G.2.2.1, 60, .inl (upd (S.1 k 1) i v))) = wC G (stT S k 1 i v) := by
  match k, hk with
  | 0, _ => rfl
  | 1, _ => rfl
  | 2, _ => rfl
theorem wstt_a2 (G : GP) (S : CS) (i : Nat) (v : Int32) {k : Nat} (hk : k < 3) : (wC G S).set (13 + 7 * k + 2) (tA G k 2, .inl (G.2.2.1, 60, .inl (upd (S.1 k 2) i v))) = wC G (stT S k 2 i v) := by
  match k, hk with
  | 0, _ => rfl
  | 1, _ => rfl
  | 2, _ => rfl
theorem wstt_a3 (G : GP) (S : CS) (i : Nat) (v : Int32) {k : Nat} (hk : k < 3) : (wC G S).set (13 + 7 * k + 3) (tA G k 3, .inl (G.2.2.1, 60, .inl (upd (S.1 k 3) i v))) = wC G (stT S k 3 i v) := by
  match k, hk with
  | 0, _ => rfl
  | 1, _ => rfl
  | 2, _ => rfl
theorem wstt_a4 (G : GP) (S : CS) (i : Nat) (v : Int32) {k : Nat} (hk : k < 3) : (wC G S).set (13 + 7 * k + 4) (tA G k 4, .inl (G.2.2.1, 60, .inl (upd (S.1 k 4) i v))) = wC G (stT S k 4 i v) := by
  match k, hk with
  | 0, _ => rfl
  | 1, _ => rfl
  | 2, _ => rfl
theorem wstt_a5 (G : GP) (S : CS) (i : Nat) (v : Int32) {k : Nat} (hk : k < 3) : (wC G S).set (13 + 7 * k + 5) (tA G k 5, .inl (G.2.2.1, 26, .inl (upd (S.1 k 5) i v))) = wC G (stT S k 5 i v) := by
  match k, hk with
  | 0, _ => rfl
  | 1, _ => rfl
  | 2, _ => rfl
theorem wstt_a6 (G : GP) (S : CS) (i : Nat) (v : Int32) {k : Nat} (hk : k < 3) : (wC G S).set (13 + 7 * k + 6) (tA G k 6, .inl (G.2.2.1, 26, .inl (upd (S.1 k 6) i v))) = wC G (stT S k 6 i v) := by
  match k, hk with
  | 0, _ => rfl
  | 1, _ => rfl
  | 2, _ => rfl
theorem mods_at (G : GP) {k : Nat} (hk : k < 3) : mods G k = some (tA G k 0) := by
  match k, hk with
  | 0, _ => rfl
  | 1, _ => rfl
  | 2, _ => rfl
theorem stT_o {S : CS} {k j i k' j' : Nat} {v : Int32} (h : j' ≠ j) : (stT S k j i v).1 k' j' = S.1 k' j' := by
  unfold stT va_up
  by_cases hk : k' = k
  · subst hk; simp [h]
  · simp [hk]
theorem stT_k {S : CS} {k j i k' : Nat} {v : Int32} (h : k' ≠ k) : (stT S k j i v).1 k' = S.1 k' := by
  unfold stT va_up
  simp [h]
theorem stT_s {S : CS} {k j i : Nat} {v : Int32} : (stT S k j i v).1 k j = upd (S.1 k j) i v := by
  unfold stT va_up
  simp
theorem stR_o {S : CS} {c i c' : Nat} {v : Int32} (h : c' ≠ c) : (stR S c i v).2 c' = S.2 c' := by
  unfold stR va_up
  simp [h]
theorem stR_s {S : CS} {c i : Nat} {v : Int32} : (stR S c i v).2 c = upd (S.2 c) i v := by
  unfold stR va_up
  simp
theorem upd_o {f : Nat → Int32} {i j : Nat} {v : Int32} (h : j ≠ i) : upd f i v j = f j := by simp [upd, h]
theorem upd_s {f : Nat → Int32} {i : Nat} {v : Int32} : upd f i v i = v := by simp [upd]
/-- what always holds of the state -/
def IC (N : Nat) (S : CS) : Prop := (∀ k, k < 3 → 0 ≤ (S.1 k 0 6).toInt ∧ (S.1 k 0 6).toInt ≤ 60 ∧ bl (S.1 k 0 8) ∧ bl (S.1 k 0 9)) ∧ (0 ≤ (S.2 2 1).toInt ∧ (S.2 2 1).toInt ≤ 6) ∧ (∀ j, hc (S.2 5 j) ≤ 3) ∧ (0 ≤ (S.2 9 3).toInt ∧ (S.2 9 3).toInt ≤ 26) ∧ (0 ≤ (S.2 9 4).toInt ∧ (S.2 9 4).toInt ≤ (N : Int))
theorem IC_mono {N M : Nat} {S : CS} (h : IC N S) (hM : N ≤ M) : IC M S := ⟨h.1, h.2.1, h.2.2.1, h.2.2.2.1, h.2.2.2.2.1, Int.le_trans h.2.2.2.2.2 (by omega)⟩
def okc (c i : Nat) : Bool := !(c == 5) && !(c == 2 && i == 1) && !(c == 9 && (i == 3 || i == 4))
theorem IC_R {N : Nat} {S : CS} (h : IC N S) (c i : Nat) (v : Int32) (hc : okc c i = true) : IC N (stR S c i v) := by
  have h5 : (5 : Nat) ≠ c := by intro q; subst q; simp [okc] at hc
  have h2 : (stR S c i v).2 2 1 = S.2 2 1 := by
    by_cases q : 2 = c
    · subst q; rw [stR_s, upd_o]; intro q; subst q; simp [okc] at hc
    · rw [stR_o q]
  have h3 : (stR S c i v).2 9 3 = S.2 9 3 := by
    by_cases q : 9 = c
    · subst q; rw [stR_s, upd_o]; intro q; subst q; simp [okc] at hc
    · rw [stR_o q]
  have h4 : (stR S c i v).2 9 4 = S.2 9 4 := by
    by_cases q : 9 = c
    · subst q; rw [stR_s, upd_o]; intro q; subst q; simp [okc] at hc
    · rw [stR_o q]
  refine ⟨h.1, ?_, ?_, ?_, ?_⟩
  · rw [h2]; exact h.2.1
  · rw [stR_o h5]; exact h.2.2.1
  · rw [h3]; exact h.2.2.2.1
  · rw [h4]; exact h.2.2.2.2
def oka (c : Nat) : Bool := !(c == 5) && !(c == 2) && !(c == 9)
theorem IC_A {N : Nat} {S : CS} (h : IC N S) (c i : Nat) (v : Int32) (hc : oka c = true) : IC N (stR S c i v) := by
  refine IC_R h c i v ?_
  simp only [oka, okc, Bool.and_eq_true, Bool.not_eq_true', beq_eq_false_iff_ne] at hc ⊢
  simp [hc.1.1, hc.1.2, hc.2]
theorem IC_rd {N : Nat} {S : CS} (h : IC N S) (v : Int32) (h0 : 0 ≤ v.toInt) (h6 : v.toInt ≤ 6) : IC N (stR S 2 1 v) := ⟨h.1, ⟨h0, h6⟩, h.2.2.1, h.2.2.2.1, h.2.2.2.2⟩
theorem IC_rd0 {N : Nat} {S : CS} (h : IC N S) : IC N (stR S 2 1 0) := IC_rd h 0 (by decide) (by decide)
theorem IC_md {N : Nat} {S : CS} (h : IC N S) (v : Int32) (h0 : 0 ≤ v.toInt) (h6 : v.toInt ≤ 26) : IC N (stR S 9 3 v) := ⟨h.1, h.2.1, h.2.2.1, ⟨h0, h6⟩, h.2.2.2.2⟩
theorem IC_md0 {N : Nat} {S : CS} (h : IC N S) : IC N (stR S 9 3 0) := IC_md h 0 (by decide) (by decide)
theorem IC_mo {N M : Nat} {S : CS} (h : IC N S) (v : Int32) (h0 : 0 ≤ v.toInt) (h6 : v.toInt ≤ (M : Int)) : IC M (stR S 9 4 v) := ⟨h.1, h.2.1, h.2.2.1, h.2.2.2.1, ⟨h0, h6⟩⟩
theorem IC_mo0 {N : Nat} {S : CS} (h : IC N S) : IC N (stR S 9 4 0) := IC_mo h 0 (by decide) (by rw [show (0 : Int32).toInt = 0 from rfl]; omega)
theorem IC_h0 {N : Nat} {S : CS} (h : IC N S) (i : Nat) : IC N (stR S 5 i 0) := by
  refine ⟨h.1, h.2.1, fun j => ?_, h.2.2.2.1, h.2.2.2.2⟩
  rw [stR_s]
  by_cases q : j = i
  · subst q; rw [upd_s]; decide
  · rw [upd_o q]; exact h.2.2.1 j
theorem IC_hq {N : Nat} {S : CS} (h : IC N S) (i : Nat) {k : Nat} (hk : k < 3) : IC N (stR S 5 i (nI (k + 1))) := by
  refine ⟨h.1, h.2.1, fun j => ?_, h.2.2.2.1, h.2.2.2.2⟩
  rw [stR_s]
  by_cases q : j = i
  · subst q; rw [upd_s]; unfold hc; rw [nI_clamp (by omega)]; omega
  · rw [upd_o q]; exact h.2.2.1 j
theorem IC_T {N : Nat} {S : CS} (h : IC N S) (k j i : Nat) (v : Int32) (hj : 0 ≠ j) : IC N (stT S k j i v) := by
  refine ⟨fun q hq => ?_, h.2⟩
  rw [stT_o hj]
  exact h.1 q hq
theorem IC_t0 {N : Nat} {S : CS} (h : IC N S) (k i : Nat) (v : Int32) (h6 : 6 = i → 0 ≤ v.toInt ∧ v.toInt ≤ 60) (h8 : 8 = i → bl v) (h9 : 9 = i → bl v) : IC N (stT S k 0 i v) := by
  refine ⟨fun q hq => ?_, h.2⟩
  by_cases hk : q = k
  · subst hk
    rw [stT_s]
    obtain ⟨a1, a2, a3, a4⟩ := h.1 q hq
    refine ⟨?_, ?_, ?_, ?_⟩
    · by_cases e : 6 = i
      · rw [← e, upd_s]; exact (h6 e).1
      · rw [upd_o e]; exact a1
    · by_cases e : 6 = i
      · rw [← e, upd_s]; exact (h6 e).2
      · rw [upd_o e]; exact a2
    · by_cases e : 8 = i
      · rw [← e, upd_s]; exact h8 e
      · rw [upd_o e]; exact a3
    · by_cases e : 9 = i
      · rw [← e, upd_s]; exact h9 e
      · rw [upd_o e]; exact a4
  · rw [stT_k hk]
    exact h.1 q hq
theorem IC_T7 {N : Nat} {S : CS} (h : IC N S) (k : Nat) (v : Int32) : IC N (stT S k 0 7 v) := IC_t0 h k 7 v (fun q => absurd q (by decide)) (fun q => absurd q (by decide)) (fun q => absurd q (by decide))
theorem IC_tl {N : Nat} {S : CS} (h : IC N S) (k : Nat) (v : Int32) (h0 : 0 ≤ v.toInt) (h6 : v.toInt ≤ 60) : IC N (stT S k 0 6 v) := IC_t0 h k 6 v (fun _ => ⟨h0, h6⟩) (fun q => absurd q (by decide)) (fun q => absurd q (by decide))
theorem IC_tl0 {N : Nat} {S : CS} (h : IC N S) (k : Nat) : IC N (stT S k 0 6 0) := IC_tl h k 0 (by decide) (by decide)
theorem IC_tb {N : Nat} {S : CS} (h : IC N S) (k i : Nat) (hi : i = 8 ∨ i = 9) (v : Int32) (hb : bl v) : IC N (stT S k 0 i v) := IC_t0 h k i v (fun q => by omega) (fun _ => hb) (fun _ => hb)
-- numbers
theorem i_nle {c x : Int32} (n : Int) (hc : c.toInt = n) (h : ¬ c ≤ x) : x.toInt < n := by
  rw [Int32.le_iff_toInt_le, hc] at h; omega
theorem i_nlt {c x : Int32} (n : Int) (hc : c.toInt = n) (h : ¬ x < c) : n ≤ x.toInt := by
  rw [Int32.lt_iff_toInt_lt, hc] at h; omega
theorem i_lt {c x : Int32} (n : Int) (hc : c.toInt = n) (h : x < c) : x.toInt < n := by
  rw [Int32.lt_iff_toInt_lt, hc] at h; omega
theorem i_le {c x : Int32} (n : Int) (hc : c.toInt = n) (h : c ≤ x) : n ≤ x.toInt := by
  rw [Int32.le_iff_toInt_le, hc] at h; omega
theorem i_nle0 {x : Int32} (h : ¬ x ≤ 0) : 0 < x.toInt := by
  rw [Int32.le_iff_toInt_le, Int32.toInt_zero] at h; omega
theorem i_bm {x : Int} (h0 : -2147483648 ≤ x) (h1 : x < 2147483648) : x.bmod (2 ^ 32) = x := Int.bmod_eq_of_le (by omega) (by omega)
theorem i_sub {x c : Int32} (n : Int) (hc : c.toInt = n) (h0 : -2147483648 ≤ x.toInt - n) (h1 : x.toInt - n < 2147483648) : (x - c).toInt = x.toInt - n := by
  rw [Int32.toInt_sub, hc]; exact i_bm h0 h1
theorem i_add {x c : Int32} (n : Int) (hc : c.toInt = n) (h0 : -2147483648 ≤ x.toInt + n) (h1 : x.toInt + n < 2147483648) : (x + c).toInt = x.toInt + n := by
  rw [Int32.toInt_add, hc]; exact i_bm h0 h1
theorem vin {x : Int32} {n : Nat} (h0 : 0 ≤ x.toInt) (h1 : x.toInt < (n : Int)) : vp_in x n := vp_in_iff.mpr ⟨h0, h1⟩
-- rows of the machine over the cells
theorem md_m {N : Nat} {S : CS} (h : IC N S) (hp : 0 < (S.2 9 3).toInt) : 0 ≤ (S.2 9 3 - 1).toInt ∧ (S.2 9 3 - 1).toInt ≤ 26 := by
  have q := h.2.2.2.1
  rw [i_sub 1 rfl (by omega) (by omega)]; omega
theorem dm_in {N : Nat} {S : CS} (h : IC N S) (hp : 0 < (S.2 9 3).toInt) : vp_in (S.2 9 3 - 1) 26 := by
  have q := h.2.2.2.1
  refine vin ?_ ?_ <;> rw [i_sub 1 rfl (by omega) (by omega)] <;> omega
theorem dp_in {N : Nat} {S : CS} (h : IC N S) (hp : (S.2 9 3).toInt < 26) : vp_in (S.2 9 3) 26 := vin h.2.2.2.1.1 hp
theorem md_p {N : Nat} {S : CS} (h : IC N S) (hp : (S.2 9 3).toInt < 26) : 0 ≤ (S.2 9 3 + 1).toInt ∧ (S.2 9 3 + 1).toInt ≤ 26 := by
  have q := h.2.2.2.1
  rw [i_add 1 rfl (by omega) (by omega)]; omega
theorem mo_p {N : Nat} {S : CS} (h : IC N S) (hN : N < 1000000) : 0 ≤ (S.2 9 4 + 1).toInt ∧ (S.2 9 4 + 1).toInt ≤ ((N + 1 : Nat) : Int) := by
  have q := h.2.2.2.2
  rw [i_add 1 rfl (by omega) (by omega)]; omega
theorem ko_in {N : Nat} {S : CS} (h : IC N S) (hp : (S.2 9 4).toInt < 24) : vp_in (S.2 9 4) 24 := vin h.2.2.2.2.1 hp
theorem rm_in {N : Nat} {S : CS} (h : IC N S) (hp : 0 < (S.2 2 1).toInt) : vp_in (S.2 2 1 - 1) 6 := by
  have q := h.2.1
  refine vin ?_ ?_ <;> rw [i_sub 1 rfl (by omega) (by omega)] <;> omega
theorem rd_m {N : Nat} {S : CS} (h : IC N S) (hp : 0 < (S.2 2 1).toInt) : 0 ≤ (S.2 2 1 - 1).toInt ∧ (S.2 2 1 - 1).toInt < 6 := by
  have q := h.2.1
  rw [i_sub 1 rfl (by omega) (by omega)]; omega
theorem rd_lt {N : Nat} {S : CS} {n : Nat} (h : IC N S) (hp : 0 < (S.2 2 1).toInt) (hn : (S.2 2 1).toInt < ((n + 1 : Nat) : Int)) : (S.2 2 1 - 1).toInt < (n : Int) := by
  have q := h.2.1
  rw [i_sub 1 rfl (by omega) (by omega)]; omega
theorem rp_in {N : Nat} {S : CS} (h : IC N S) (hp : (S.2 2 1).toInt < 6) : vp_in (S.2 2 1) 6 := vin h.2.1.1 hp
theorem rd_p {N : Nat} {S : CS} (h : IC N S) (hp : (S.2 2 1).toInt < 6) : 0 ≤ (S.2 2 1 + 1).toInt ∧ (S.2 2 1 + 1).toInt ≤ 6 := by
  have q := h.2.1
  rw [i_add 1 rfl (by omega) (by omega)]; omega
theorem ln_in {N : Nat} {S : CS} (h : IC N S) {k : Nat} (hk : k < 3) (hp : (S.1 k 0 6).toInt < 60) : vp_in (S.1 k 0 6) 60 := vin (h.1 k hk).1 hp
theorem ln_p {N : Nat} {S : CS} (h : IC N S) {k : Nat} (hk : k < 3) (hp : (S.1 k 0 6).toInt < 60) : 0 ≤ (S.1 k 0 6 + 1).toInt ∧ (S.1 k 0 6 + 1).toInt ≤ 60 := by
  have q := h.1 k hk
  rw [i_add 1 rfl (by omega) (by omega)]; omega
theorem ln_nat {N : Nat} {S : CS} (h : IC N S) {k : Nat} (hk : k < 3) : ∃ b : Nat, S.1 k 0 6 = nI b ∧ b ≤ 60 := by
  have q := h.1 k hk
  refine ⟨(S.1 k 0 6).toInt.toNat, ?_, by omega⟩
  apply Int32.toInt_inj.mp
  rw [nI_toInt (by omega)]
  omega
theorem sg_in {N : Nat} {S : CS} (h : IC N S) {k : Nat} (hk : k < 3) {p : Int32} (h1 : ¬ p < 0) (h2 : ¬ S.1 k 0 6 ≤ p) : vp_in p 60 := by
  have q := h.1 k hk
  rw [Int32.lt_iff_toInt_lt, Int32.toInt_zero] at h1
  rw [Int32.le_iff_toInt_le] at h2
  refine vin ?_ ?_ <;> omega
theorem rn_nat {p : Int32} (h1 : ¬ p < 1) (h2 : ¬ 4 < p) : ∃ b : Nat, p = nI b ∧ b ≤ 4 := by
  rw [Int32.lt_iff_toInt_lt, show (1 : Int32).toInt = 1 from rfl] at h1
  rw [Int32.lt_iff_toInt_lt, show (4 : Int32).toInt = 4 from rfl] at h2
  refine ⟨p.toInt.toNat, ?_, by omega⟩
  apply Int32.toInt_inj.mp
  rw [nI_toInt (by omega)]
  omega
end
section
/-- the links to private members of a nest mate -/
def nwM : List (String × Nat × MethodName × String) := [(R_GS, 15, y_MT_init, "GateStack"), (R_GS, 18, y_RD_init, "GateStack"), (R_GS, 25, y_PR_init, "GateStack"), (R_GS, 32, y_CA_init, "GateStack"), (R_GS, 39, y_MA_init, "GateStack"), (R_RD, 72, y_GS_isLetter, "GateStack"), (R_MT, 47, y_GS_isLetterNumber, "GateStack"), (R_MT, 51, y_GS_hasBit, "GateStack"), (R_RD, 100, y_GS_isVariable, "GateStack"), (R_RD, 106, y_GS_isPrefix, "GateStack"), (R_RD, 62, y_GS_isDigit, "GateStack"), (R_RD, 115, y_GS_operationOf, "GateStack"), (R_PR, 55, y_GS_hasBit, "GateStack"), (R_PR, 51, y_GS_isLetterNumber, "GateStack"), (R_MT, 62, y_GS_isLetter, "GateStack"), (R_MA, 53, y_GS_isLetter, "GateStack"), (R_MA, 69, y_GS_isVariable, "GateStack"), (R_CA, 43, y_GS_isDigit, "GateStack"), (R_CA, 50, y_GS_isVariable, "GateStack"), (R_CA, 36, y_GS_operationOf, "GateStack"), (R_CA, 39, y_GS_worked, "GateStack"), (R_CA, 15, y_GS_isVariableNumber, "GateStack")]
def NW (U : State) : Prop := (∀ q ∈ nwM, va_Nw (.methodLinkNest q.1 q.2.1 q.2.2.1 q.2.2.2) U) ∧ va_AO "GateStack$ModuleText" U
theorem NW_warm {s U : State} (hW : s.WarmedH U.vm) (h : NW s) : NW U := ⟨fun q hq => va_Nw.warmM hW (h.1 q hq), va_AO.moved hW.alike h.2⟩
theorem NW_vm {s U : State} (hv : s.vm = U.vm) (h : NW s) : NW U := ⟨fun q hq => va_Nw.same rfl hv (h.1 q hq), va_AO.moved (hv ▸ Vm.Alike.refl s.vm) h.2⟩
def rPre (D : va_G) (G : GP) (S : CS) (U : State) : Prop := va_P D vwCl (wC G S) U.heap ∧ va_K D vwCl (tyC G) U ∧ NW U
def cPre (D : va_G) (G : GP) (S : CS) (sz : Nat) (U : State) : Prop := U.heap.size = sz ∧ va_P D vwCl (wC G S) U.heap ∧ va_K D vwCl (tyC G) U ∧ va_D (fun _ => True) (wC G S) ∧ NW U
def wB (D : va_G) (G : GP) (A : Nat → Prop) (S : CS) (t : State) : Prop := va_P D vwCl (wC G S) t.heap ∧ va_D A (wC G S)
theorem blindP {av : List Value} : FrameBlind (va_Pc av (fun _ => True)) := fun _ _ _ _ q => ⟨q.1, trivial⟩
theorem blindR {av : List Value} {D : va_G} {G : GP} {S : CS} : FrameBlind (va_Pc av (rPre D G S)) := fun a U g mk q => by
  obtain ⟨q0, qP, qK, qN⟩ := q
  exact ⟨q0, qP, va_K.moved (u := U) (U := U.calling g mk a) (Vm.Alike.refl U.vm) qK, NW_vm (s := U) (U := U.calling g mk a) rfl qN⟩
theorem blindC {av : List Value} {D : va_G} {G : GP} {S : CS} {sz : Nat} : FrameBlind (va_Pc av (cPre D G S sz)) := fun a U g mk q => by
  obtain ⟨q0, q1, qP, qK, qD, qN⟩ := q
  exact ⟨q0, q1, qP, va_K.moved (u := U) (U := U.calling g mk a) (Vm.Alike.refl U.vm) qK, qD, NW_vm (s := U) (U := U.calling g mk a) rfl qN⟩
theorem rPre_of {s U : State} {H : Heap} {D : va_G} {G : GP} {S : CS} (hP : va_P D vwCl (wC G S) H) (hK : va_K D vwCl (tyC G) s) (hN : NW s) (hU : U.heap = H) (hW : s.WarmedH U.vm) : rPre D G S U := ⟨by rw [hU]; exact hP, va_K.moved hW.alike hK, NW_warm hW hN⟩
theorem cPre_of {s U : State} {H : Heap} {D : va_G} {G : GP} {S : CS} {A : Nat → Prop} (hP : va_P D vwCl (wC G S) H) (hK : va_K D vwCl (tyC G) s) (hD : va_D A (wC G S)) (hN : NW s) (hU : U.heap = H) (hW : s.WarmedH U.vm) : cPre D G S H.size U := ⟨by rw [hU], by rw [hU]; exact hP, va_K.moved hW.alike hK, hD.weaken (fun _ _ _ _ => trivial), NW_warm hW hN⟩
theorem freeAll {A0 : Nat → Prop} {ws : va_W} {H0 H : Heap} {locs : List Loc} (hD : va_D A0 ws) (hS : va_S A0 H0 H locs) (hA : ∀ q, H0.size ≤ q → A0 q) : ∀ q, va_A ws H.size q → A0 q := by
  intro q h
  rcases h with ⟨k, e, h⟩ | h
  · exact hD.2 k (q, e) h
  · exact hA q (Nat.le_trans hS.1 h)
section GRW
variable {p : Program} {l : Launch} {e : Env} {R : Room} {s : State} {m : MethodId} {args : Array Value} {below : List Frame} {meth : Method} {c : Code} {H : Heap} {locs : List Loc} {cells slots : Nat} {Q : State → Prop}
variable {cc : ByteArray} {pc : Nat} {ls : Array Slot} {rest st0 : List Value} {D : va_G} {G : GP} {cl : List vw_C} {A : Nat → Prop} {a : Nat} {tys : List (ClassId × FieldType)} {ws wz : va_W} {H0 : Heap} {S : CS} {av : Array Value}
theorem va_putE (hexec : p.tables.exec = Jvm.exec) (hb : c.code = cc) {own ref C : String} {T : u_T} {N ci index : Nat} {Ts : List Cond} (hts : ∀ w ∈ Ts, w.before args s = true) (hin : ∀ w ∈ u_ws C T N, w ∈ Ts) (ty0 : Nat → FieldType) (hty : ∀ k, k < N → parseFieldDescriptor (T k).2.2.1 = some (ty0 k)) (hnm : ∀ a, a < N → ∀ b, b < N → a ≠ b → (T a).2.1 ≠ (T b).2.1) (hown : s.vm.findClass own = some m.cls) (hK : va_K D cl tys s) (hP : va_P D cl ws H) (hD : va_D A ws) (hS0 : va_S A H0 H locs) (q0 : Nat) {fs : List Value} (he : ws[q0]? = some (a, .inr (ci, fs))) (hc : cl[ci]? = some (C, T, N)) (k : Nat) (hk : k < N) (hlink : (Cond.fieldLink own index ref (T k).2.1 (T k).2.2.1).before args s = true) (hsame : ∀ x, s.fieldFound? (T k).1 (T k).2.1 (T k).2.2.1 = some x → s.fieldFound? ref (T k).2.1 (T k).2.2.1 = some x) (hfin : (T k).2.2.2 = false) {ty : FieldType} {v : Value} (hd : parseFieldDescriptor (T k).2.2.1 = some ty) (hn : narrow ty v = v) (hfit : fits ty v = true) (hl : k < fs.length)
    (hw : ws.set q0 (a, .inr (ci, fs.set k v)) = wz) (hdg : decode cc pc = .ok (.putfield index, 3)) (kk : ∀ (H1 : Heap) (locs1 : List Loc), va_P D cl wz H1 → va_D A wz → va_S A H0 H1 locs1 → W p l e R s m args below meth c H1 locs1 cells slots Q (F0 m (pc + 3) ls rest)) : W p l e R s m args below meth c H locs cells slots Q (F0 m pc ls (v :: .ref a :: rest)) := by
  subst hw
  exact va_put hexec hb hts hin ty0 hty hnm hown hK hP hD hS0 q0 he hc k hk hlink hsame hfin hd hn hfit hl hdg kk
theorem va_iastE (hexec : p.tables.exec = Jvm.exec) (hb : c.code = cc) (hK : va_K D cl tys s) (hP : va_P D cl ws H) (hD : va_D A ws) (hS : va_S A H0 H locs) (q0 t0 : Nat) {cA : ClassId} {n : Nat} {f : Nat → Int32} (ha : ws[q0]? = some (a, .inl (cA, n, .inl f))) (ht : tys[t0]? = some (cA, .int)) {i : Int32} {x : Int32} (hin : vp_in i n) (hw : ws.set q0 (a, .inl (cA, n, .inl (upd f i.toNatClampNeg x))) = wz) (hdg : decode cc pc = .ok (.iastore, 1))
    (kk : ∀ (H1 : Heap) (locs1 : List Loc), va_P D cl wz H1 → va_D A wz → va_S A H0 H1 locs1 → W p l e R s m args below meth c H1 locs1 cells slots Q (F0 m (pc + 1) ls rest)) : W p l e R s m args below meth c H locs cells slots Q (F0 m pc ls (.int x :: .int i :: .ref a :: rest)) := by
  subst hw
  exact va_iast hexec hb hK hP hD hS q0 t0 ha ht hin hdg kk
theorem va_astqE (hexec : p.tables.exec = Jvm.exec) (hb : c.code = cc) (hK : va_K D cl tys s) (hP : va_P D cl ws H) (hD : va_D A ws) (hS : va_S A H0 H locs) (q0 t0 qk ci : Nat) {cA : ClassId} {r : vw_C} {n v : Nat} {vs : List Value} {f : Nat → Option Nat} (ha : ws[q0]? = some (a, .inl (cA, n, .inr (.inr (.inr (.inr f)))))) (ht : tys[t0]? = some (cA, .object r.1)) (hv : ws[qk]? = some (v, .inr (ci, vs))) (hc : cl[ci]? = some r) {i : Int32} (hin : vp_in i n) (hw : ws.set q0 (a, .inl (cA, n, .inr (.inr (.inr (.inr (va_up f i.toNatClampNeg (some v))))))) = wz) (hdg : decode cc pc = .ok (.aastore, 1))
    (kk : ∀ (H1 : Heap) (locs1 : List Loc), va_P D cl wz H1 → va_D A wz → va_S A H0 H1 locs1 → W p l e R s m args below meth c H1 locs1 cells slots Q (F0 m (pc + 1) ls rest)) : W p l e R s m args below meth c H locs cells slots Q (F0 m pc ls (.ref v :: .int i :: .ref a :: rest)) := by
  subst hw
  exact va_astq hexec hb hK hP hD hS q0 t0 qk ci ha ht hv hc hin hdg kk
theorem va_astqNE (hexec : p.tables.exec = Jvm.exec) (hb : c.code = cc) (hK : va_K D cl tys s) (hP : va_P D cl ws H) (hD : va_D A ws) (hS : va_S A H0 H locs) (q0 t0 : Nat) {cA : ClassId} {C : String} {n : Nat} {f : Nat → Option Nat} (ha : ws[q0]? = some (a, .inl (cA, n, .inr (.inr (.inr (.inr f)))))) (ht : tys[t0]? = some (cA, .object C)) {i : Int32} (hin : vp_in i n) (hw : ws.set q0 (a, .inl (cA, n, .inr (.inr (.inr (.inr (va_up f i.toNatClampNeg none)))))) = wz) (hdg : decode cc pc = .ok (.aastore, 1))
    (kk : ∀ (H1 : Heap) (locs1 : List Loc), va_P D cl wz H1 → va_D A wz → va_S A H0 H1 locs1 → W p l e R s m args below meth c H1 locs1 cells slots Q (F0 m (pc + 1) ls rest)) : W p l e R s m args below meth c H locs cells slots Q (F0 m pc ls (.null :: .int i :: .ref a :: rest)) := by
  subst hw
  exact va_astqN hexec hb hK hP hD hS q0 t0 ha ht hin hdg kk
/-- one of the three texts out of the row of modules -/
theorem md_ald (hexec : p.tables.exec = Jvm.exec) (hb : c.code = cc) (hK : va_K D vwCl (tyC G) s) (hP : va_P D vwCl (wC G S) H) {i : Int32} (hin : vp_in i 3) (hdg : decode cc pc = .ok (.aaload, 1))
    (kk : W p l e R s m args below meth c H locs cells slots Q (F0 m (pc + 1) ls (.ref (tA G i.toNatClampNeg 0) :: rest))) : W p l e R s m args below meth c H locs cells slots Q (F0 m pc ls (.int i :: .ref (aA G 1) :: rest)) := by
  have hlt : i.toNatClampNeg < 3 := Nat.not_le.mp fun q => hin (Or.inr q)
  refine va_aldq hexec hb hK hP 1 1 (w_1 G S) rfl hin hdg ?_
  rw [mods_at G hlt]
  exact kk
theorem cq_i {post : Int32 → CS → Prop} (hr : va_Run p l e R s m args below meth c H locs cells slots 0 0 (F0 m pc ls st0) rest (va_Qi post (wB D G (va_A (wC G S) H.size)) (va_A (wC G S) H.size) av) (va_A (wC G S) H.size)) (hD : va_D A (wC G S)) (hS : va_S A H0 H locs) (hA : ∀ q, H0.size ≤ q → A q)
    (kk : ∀ (r : Int32) (S1 : CS) (H1 : Heap) (locs1 : List Loc), post r S1 → va_P D vwCl (wC G S1) H1 → va_D A (wC G S1) → va_S A H0 H1 locs1 → W p l e R s m args below meth c H1 locs1 cells slots Q (F0 m (pc + 3) ls (.int r :: rest))) : W p l e R s m args below meth c H locs cells slots Q (F0 m pc ls st0) := by
  have hF : ∀ q, va_A (wC G S) H.size q → A q := freeAll hD hS hA
  refine va_calli hr hS (fun q _ h => hF q h) hF (fun r u t H1 locs1 ht hvm hw hB hz1 hk1 hS => ?_)
  obtain ⟨hP1, hD1⟩ := hB
  rw [ht] at hP1
  exact kk r u H1 locs1 hw hP1 (hD1.weaken (fun _ _ _ h => hF _ h)) hS
theorem cq_v {post : CS → Prop} (hr : va_Run p l e R s m args below meth c H locs cells slots 0 0 (F0 m pc ls st0) rest (va_Qv post (wB D G (va_A (wC G S) H.size)) (va_A (wC G S) H.size) av) (va_A (wC G S) H.size)) (hD : va_D A (wC G S)) (hS : va_S A H0 H locs) (hA : ∀ q, H0.size ≤ q → A q)
    (kk : ∀ (S1 : CS) (H1 : Heap) (locs1 : List Loc), post S1 → va_P D vwCl (wC G S1) H1 → va_D A (wC G S1) → va_S A H0 H1 locs1 → W p l e R s m args below meth c H1 locs1 cells slots Q (F0 m (pc + 3) ls rest)) : W p l e R s m args below meth c H locs cells slots Q (F0 m pc ls st0) := by
  have hF : ∀ q, va_A (wC G S) H.size q → A q := freeAll hD hS hA
  refine va_callv hr hS (fun q _ h => hF q h) hF (fun u t H1 locs1 ht hvm hw hB hz1 hk1 hS => ?_)
  obtain ⟨hP1, hD1⟩ := hB
  rw [ht] at hP1
  exact kk u H1 locs1 hw hP1 (hD1.weaken (fun _ _ _ h => hF _ h)) hS
end GRW
end
