section
-- ===== PART A: goes FIRST, ahead of the names: the tables' words, and 'selects' of the private methods out of them =====
/-- a private method of a class that the tables say can be made, by its rows of tables_1 -/
def lw_okq (q : MethodName × Nat) : Prop := (q.1.cls ≠ "java/lang/invoke/MethodHandle" ∧ q.1.cls ≠ "java/lang/invoke/VarHandle") ∧ Cond.instantiable q.1.cls q.2 ∈ tables_1 ∧ Cond.privateMethod q.1 ∈ tables_1 ∧ Cond.instanceMethod q.1 ∈ tables_1
theorem lw_p0 : lw_okq (⟨"GateStack", "loosen", "()V"⟩, 6) := ⟨⟨by decide +kernel, by decide +kernel⟩, List.mem_of_getElem? (i := 10) (by decide +kernel), List.mem_of_getElem? (i := 170) (by decide +kernel), List.mem_of_getElem? (i := 171) (by decide +kernel)⟩
theorem lw_p1 : lw_okq (⟨"GateStack$Reader", "takes", "(LGateStack$ModuleText;I)Z"⟩, 8) := ⟨⟨by decide +kernel, by decide +kernel⟩, List.mem_of_getElem? (i := 57) (by decide +kernel), List.mem_of_getElem? (i := 204) (by decide +kernel), List.mem_of_getElem? (i := 205) (by decide +kernel)⟩
theorem lw_p2 : lw_okq (⟨"GateStack$Reader", "takesProcedure", "(LGateStack$ModuleText;I)Z"⟩, 8) := ⟨⟨by decide +kernel, by decide +kernel⟩, List.mem_of_getElem? (i := 57) (by decide +kernel), List.mem_of_getElem? (i := 212) (by decide +kernel), List.mem_of_getElem? (i := 213) (by decide +kernel)⟩
theorem lw_p3 : lw_okq (⟨"GateStack$Reader", "begins", "(II)Z"⟩, 8) := ⟨⟨by decide +kernel, by decide +kernel⟩, List.mem_of_getElem? (i := 57) (by decide +kernel), List.mem_of_getElem? (i := 229) (by decide +kernel), List.mem_of_getElem? (i := 230) (by decide +kernel)⟩
theorem lw_p4 : lw_okq (⟨"GateStack$Reader", "expects", "(I)Z"⟩, 8) := ⟨⟨by decide +kernel, by decide +kernel⟩, List.mem_of_getElem? (i := 57) (by decide +kernel), List.mem_of_getElem? (i := 233) (by decide +kernel), List.mem_of_getElem? (i := 234) (by decide +kernel)⟩
theorem lw_p5 : lw_okq (⟨"GateStack$Reader", "opens", "(II)Z"⟩, 8) := ⟨⟨by decide +kernel, by decide +kernel⟩, List.mem_of_getElem? (i := 57) (by decide +kernel), List.mem_of_getElem? (i := 237) (by decide +kernel), List.mem_of_getElem? (i := 238) (by decide +kernel)⟩
theorem lw_p6 : lw_okq (⟨"GateStack$Reader", "takesStatement", "(LGateStack$ModuleText;I)Z"⟩, 8) := ⟨⟨by decide +kernel, by decide +kernel⟩, List.mem_of_getElem? (i := 57) (by decide +kernel), List.mem_of_getElem? (i := 241) (by decide +kernel), List.mem_of_getElem? (i := 242) (by decide +kernel)⟩
theorem lw_p7 : lw_okq (⟨"GateStack$Reader", "closesBlock", "(LGateStack$ModuleText;I)Z"⟩, 8) := ⟨⟨by decide +kernel, by decide +kernel⟩, List.mem_of_getElem? (i := 57) (by decide +kernel), List.mem_of_getElem? (i := 245) (by decide +kernel), List.mem_of_getElem? (i := 246) (by decide +kernel)⟩
theorem lw_p8 : lw_okq (⟨"GateStack$ModuleText", "isPlace", "(I)Z"⟩, 10) := ⟨⟨by decide +kernel, by decide +kernel⟩, List.mem_of_getElem? (i := 19) (by decide +kernel), List.mem_of_getElem? (i := 253) (by decide +kernel), List.mem_of_getElem? (i := 254) (by decide +kernel)⟩
theorem lw_p9 : lw_okq (⟨"GateStack$Reader", "takesOperand", "(LGateStack$ModuleText;I)Z"⟩, 8) := ⟨⟨by decide +kernel, by decide +kernel⟩, List.mem_of_getElem? (i := 57) (by decide +kernel), List.mem_of_getElem? (i := 271) (by decide +kernel), List.mem_of_getElem? (i := 272) (by decide +kernel)⟩
theorem lw_p10 : lw_okq (⟨"GateStack$Reader", "endsOperand", "(LGateStack$ModuleText;I)Z"⟩, 8) := ⟨⟨by decide +kernel, by decide +kernel⟩, List.mem_of_getElem? (i := 57) (by decide +kernel), List.mem_of_getElem? (i := 278) (by decide +kernel), List.mem_of_getElem? (i := 279) (by decide +kernel)⟩
theorem lw_p11 : lw_okq (⟨"GateStack$Reader", "lastOpen", "(LGateStack$ModuleText;)I"⟩, 8) := ⟨⟨by decide +kernel, by decide +kernel⟩, List.mem_of_getElem? (i := 57) (by decide +kernel), List.mem_of_getElem? (i := 282) (by decide +kernel), List.mem_of_getElem? (i := 283) (by decide +kernel)⟩
theorem lw_p12 : lw_okq (⟨"GateStack$Reader", "takesDigit", "()Z"⟩, 8) := ⟨⟨by decide +kernel, by decide +kernel⟩, List.mem_of_getElem? (i := 57) (by decide +kernel), List.mem_of_getElem? (i := 289) (by decide +kernel), List.mem_of_getElem? (i := 290) (by decide +kernel)⟩
theorem lw_p13 : lw_okq (⟨"GateStack$Reader", "takesOperator", "(LGateStack$ModuleText;I)Z"⟩, 8) := ⟨⟨by decide +kernel, by decide +kernel⟩, List.mem_of_getElem? (i := 57) (by decide +kernel), List.mem_of_getElem? (i := 293) (by decide +kernel), List.mem_of_getElem? (i := 294) (by decide +kernel)⟩
theorem lw_p14 : lw_okq (⟨"GateStack$Program", "forget", "()V"⟩, 3) := ⟨⟨by decide +kernel, by decide +kernel⟩, List.mem_of_getElem? (i := 88) (by decide +kernel), List.mem_of_getElem? (i := 334) (by decide +kernel), List.mem_of_getElem? (i := 335) (by decide +kernel)⟩
theorem lw_p15 : lw_okq (⟨"GateStack$Program", "takeOver", "(LGateStack$ModuleText;)V"⟩, 3) := ⟨⟨by decide +kernel, by decide +kernel⟩, List.mem_of_getElem? (i := 88) (by decide +kernel), List.mem_of_getElem? (i := 339) (by decide +kernel), List.mem_of_getElem? (i := 340) (by decide +kernel)⟩
def lw_privs_1 : List (MethodName × Nat) := [(⟨"GateStack", "loosen", "()V"⟩, 6), (⟨"GateStack$Reader", "takes", "(LGateStack$ModuleText;I)Z"⟩, 8), (⟨"GateStack$Reader", "takesProcedure", "(LGateStack$ModuleText;I)Z"⟩, 8), (⟨"GateStack$Reader", "begins", "(II)Z"⟩, 8), (⟨"GateStack$Reader", "expects", "(I)Z"⟩, 8), (⟨"GateStack$Reader", "opens", "(II)Z"⟩, 8), (⟨"GateStack$Reader", "takesStatement", "(LGateStack$ModuleText;I)Z"⟩, 8), (⟨"GateStack$Reader", "closesBlock", "(LGateStack$ModuleText;I)Z"⟩, 8), (⟨"GateStack$ModuleText", "isPlace", "(I)Z"⟩, 10), (⟨"GateStack$Reader", "takesOperand", "(LGateStack$ModuleText;I)Z"⟩, 8), (⟨"GateStack$Reader", "endsOperand", "(LGateStack$ModuleText;I)Z"⟩, 8), (⟨"GateStack$Reader", "lastOpen", "(LGateStack$ModuleText;)I"⟩, 8), (⟨"GateStack$Reader", "takesDigit", "()Z"⟩, 8), (⟨"GateStack$Reader", "takesOperator", "(LGateStack$ModuleText;I)Z"⟩, 8), (⟨"GateStack$Program", "forget", "()V"⟩, 3), (⟨"GateStack$Program", "takeOver", "(LGateStack$ModuleText;)V"⟩, 3)]
theorem lw_r1 : ∀ q ∈ lw_privs_1, lw_okq q := List.forall_mem_cons.mpr ⟨lw_p0, List.forall_mem_cons.mpr ⟨lw_p1, List.forall_mem_cons.mpr ⟨lw_p2, List.forall_mem_cons.mpr ⟨lw_p3, List.forall_mem_cons.mpr ⟨lw_p4, List.forall_mem_cons.mpr ⟨lw_p5, List.forall_mem_cons.mpr ⟨lw_p6, List.forall_mem_cons.mpr ⟨lw_p7, List.forall_mem_cons.mpr ⟨lw_p8, List.forall_mem_cons.mpr ⟨lw_p9, List.forall_mem_cons.mpr ⟨lw_p10, List.forall_mem_cons.mpr ⟨lw_p11, List.forall_mem_cons.mpr ⟨lw_p12, List.forall_mem_cons.mpr ⟨lw_p13, List.forall_mem_cons.mpr ⟨lw_p14, List.forall_mem_cons.mpr ⟨lw_p15, fun _ h => absurd h List.not_mem_nil⟩⟩⟩⟩⟩⟩⟩⟩⟩⟩⟩⟩⟩⟩⟩⟩
theorem lw_p16 : lw_okq (⟨"GateStack$Program", "lacksOne", "()Z"⟩, 3) := ⟨⟨by decide +kernel, by decide +kernel⟩, List.mem_of_getElem? (i := 88) (by decide +kernel), List.mem_of_getElem? (i := 348) (by decide +kernel), List.mem_of_getElem? (i := 349) (by decide +kernel)⟩
theorem lw_p17 : lw_okq (⟨"GateStack$Program", "followChains", "()V"⟩, 3) := ⟨⟨by decide +kernel, by decide +kernel⟩, List.mem_of_getElem? (i := 88) (by decide +kernel), List.mem_of_getElem? (i := 352) (by decide +kernel), List.mem_of_getElem? (i := 353) (by decide +kernel)⟩
theorem lw_p18 : lw_okq (⟨"GateStack$Program", "hasCircle", "()Z"⟩, 3) := ⟨⟨by decide +kernel, by decide +kernel⟩, List.mem_of_getElem? (i := 88) (by decide +kernel), List.mem_of_getElem? (i := 356) (by decide +kernel), List.mem_of_getElem? (i := 357) (by decide +kernel)⟩
theorem lw_p19 : lw_okq (⟨"GateStack$Machine", "enter", "(LGateStack$Program;I)V"⟩, 5) := ⟨⟨by decide +kernel, by decide +kernel⟩, List.mem_of_getElem? (i := 118) (by decide +kernel), List.mem_of_getElem? (i := 373) (by decide +kernel), List.mem_of_getElem? (i := 374) (by decide +kernel)⟩
theorem lw_p20 : lw_okq (⟨"GateStack$Machine", "leaveEndedBlocks", "(LGateStack$Program;)V"⟩, 5) := ⟨⟨by decide +kernel, by decide +kernel⟩, List.mem_of_getElem? (i := 118) (by decide +kernel), List.mem_of_getElem? (i := 386) (by decide +kernel), List.mem_of_getElem? (i := 387) (by decide +kernel)⟩
theorem lw_p21 : lw_okq (⟨"GateStack$Machine", "currentText", "(LGateStack$Program;)LGateStack$ModuleText;"⟩, 5) := ⟨⟨by decide +kernel, by decide +kernel⟩, List.mem_of_getElem? (i := 118) (by decide +kernel), List.mem_of_getElem? (i := 390) (by decide +kernel), List.mem_of_getElem? (i := 391) (by decide +kernel)⟩
theorem lw_p22 : lw_okq (⟨"GateStack$ModuleText", "behindEndOf", "(I)I"⟩, 10) := ⟨⟨by decide +kernel, by decide +kernel⟩, List.mem_of_getElem? (i := 19) (by decide +kernel), List.mem_of_getElem? (i := 405) (by decide +kernel), List.mem_of_getElem? (i := 406) (by decide +kernel)⟩
theorem lw_p23 : lw_okq (⟨"GateStack$Machine", "placeBehind", "(LGateStack$ModuleText;ILGateStack$Calculator;)I"⟩, 5) := ⟨⟨by decide +kernel, by decide +kernel⟩, List.mem_of_getElem? (i := 118) (by decide +kernel), List.mem_of_getElem? (i := 418) (by decide +kernel), List.mem_of_getElem? (i := 419) (by decide +kernel)⟩
theorem lw_p24 : lw_okq (⟨"GateStack$Calculator", "expression", "(LGateStack$ModuleText;I)I"⟩, 2) := ⟨⟨by decide +kernel, by decide +kernel⟩, List.mem_of_getElem? (i := 105) (by decide +kernel), List.mem_of_getElem? (i := 427) (by decide +kernel), List.mem_of_getElem? (i := 428) (by decide +kernel)⟩
theorem lw_p25 : lw_okq (⟨"GateStack$Calculator", "operand", "(LGateStack$ModuleText;I)I"⟩, 2) := ⟨⟨by decide +kernel, by decide +kernel⟩, List.mem_of_getElem? (i := 105) (by decide +kernel), List.mem_of_getElem? (i := 431) (by decide +kernel), List.mem_of_getElem? (i := 432) (by decide +kernel)⟩
theorem lw_p26 : lw_okq (⟨"GateStack$Calculator", "number", "(LGateStack$ModuleText;)I"⟩, 2) := ⟨⟨by decide +kernel, by decide +kernel⟩, List.mem_of_getElem? (i := 105) (by decide +kernel), List.mem_of_getElem? (i := 437) (by decide +kernel), List.mem_of_getElem? (i := 438) (by decide +kernel)⟩
theorem lw_p27 : lw_okq (⟨"GateStack$Machine", "keep", "(I)V"⟩, 5) := ⟨⟨by decide +kernel, by decide +kernel⟩, List.mem_of_getElem? (i := 118) (by decide +kernel), List.mem_of_getElem? (i := 457) (by decide +kernel), List.mem_of_getElem? (i := 458) (by decide +kernel)⟩
theorem lw_p28 : lw_okq (⟨"GateStackModel", "unlink", "()V"⟩, 30) := ⟨⟨by decide +kernel, by decide +kernel⟩, List.mem_of_getElem? (i := 530) (by decide +kernel), List.mem_of_getElem? (i := 636) (by decide +kernel), List.mem_of_getElem? (i := 637) (by decide +kernel)⟩
theorem lw_p29 : lw_okq (⟨"GateStackModel", "stands", "(I)Z"⟩, 30) := ⟨⟨by decide +kernel, by decide +kernel⟩, List.mem_of_getElem? (i := 530) (by decide +kernel), List.mem_of_getElem? (i := 648) (by decide +kernel), List.mem_of_getElem? (i := 649) (by decide +kernel)⟩
theorem lw_p30 : lw_okq (⟨"GateStackModel", "push", "(II)Z"⟩, 30) := ⟨⟨by decide +kernel, by decide +kernel⟩, List.mem_of_getElem? (i := 530) (by decide +kernel), List.mem_of_getElem? (i := 655) (by decide +kernel), List.mem_of_getElem? (i := 656) (by decide +kernel)⟩
theorem lw_p31 : lw_okq (⟨"GateStackModel", "atStatement", "(I)Z"⟩, 30) := ⟨⟨by decide +kernel, by decide +kernel⟩, List.mem_of_getElem? (i := 530) (by decide +kernel), List.mem_of_getElem? (i := 659) (by decide +kernel), List.mem_of_getElem? (i := 660) (by decide +kernel)⟩
def lw_privs_2 : List (MethodName × Nat) := [(⟨"GateStack$Program", "lacksOne", "()Z"⟩, 3), (⟨"GateStack$Program", "followChains", "()V"⟩, 3), (⟨"GateStack$Program", "hasCircle", "()Z"⟩, 3), (⟨"GateStack$Machine", "enter", "(LGateStack$Program;I)V"⟩, 5), (⟨"GateStack$Machine", "leaveEndedBlocks", "(LGateStack$Program;)V"⟩, 5), (⟨"GateStack$Machine", "currentText", "(LGateStack$Program;)LGateStack$ModuleText;"⟩, 5), (⟨"GateStack$ModuleText", "behindEndOf", "(I)I"⟩, 10), (⟨"GateStack$Machine", "placeBehind", "(LGateStack$ModuleText;ILGateStack$Calculator;)I"⟩, 5), (⟨"GateStack$Calculator", "expression", "(LGateStack$ModuleText;I)I"⟩, 2), (⟨"GateStack$Calculator", "operand", "(LGateStack$ModuleText;I)I"⟩, 2), (⟨"GateStack$Calculator", "number", "(LGateStack$ModuleText;)I"⟩, 2), (⟨"GateStack$Machine", "keep", "(I)V"⟩, 5), (⟨"GateStackModel", "unlink", "()V"⟩, 30), (⟨"GateStackModel", "stands", "(I)Z"⟩, 30), (⟨"GateStackModel", "push", "(II)Z"⟩, 30), (⟨"GateStackModel", "atStatement", "(I)Z"⟩, 30)]
theorem lw_r2 : ∀ q ∈ lw_privs_2, lw_okq q := List.forall_mem_cons.mpr ⟨lw_p16, List.forall_mem_cons.mpr ⟨lw_p17, List.forall_mem_cons.mpr ⟨lw_p18, List.forall_mem_cons.mpr ⟨lw_p19, List.forall_mem_cons.mpr ⟨lw_p20, List.forall_mem_cons.mpr ⟨lw_p21, List.forall_mem_cons.mpr ⟨lw_p22, List.forall_mem_cons.mpr ⟨lw_p23, List.forall_mem_cons.mpr ⟨lw_p24, List.forall_mem_cons.mpr ⟨lw_p25, List.forall_mem_cons.mpr ⟨lw_p26, List.forall_mem_cons.mpr ⟨lw_p27, List.forall_mem_cons.mpr ⟨lw_p28, List.forall_mem_cons.mpr ⟨lw_p29, List.forall_mem_cons.mpr ⟨lw_p30, List.forall_mem_cons.mpr ⟨lw_p31, fun _ h => absurd h List.not_mem_nil⟩⟩⟩⟩⟩⟩⟩⟩⟩⟩⟩⟩⟩⟩⟩⟩
theorem lw_p32 : lw_okq (⟨"GateStackModel", "atOperand", "(I)Z"⟩, 30) := ⟨⟨by decide +kernel, by decide +kernel⟩, List.mem_of_getElem? (i := 530) (by decide +kernel), List.mem_of_getElem? (i := 666) (by decide +kernel), List.mem_of_getElem? (i := 667) (by decide +kernel)⟩
theorem lw_p33 : lw_okq (⟨"GateStackModel", "operandEnds", "()V"⟩, 30) := ⟨⟨by decide +kernel, by decide +kernel⟩, List.mem_of_getElem? (i := 530) (by decide +kernel), List.mem_of_getElem? (i := 670) (by decide +kernel), List.mem_of_getElem? (i := 671) (by decide +kernel)⟩
theorem lw_p34 : lw_okq (⟨"GateStackModel", "afterOperand", "(I)Z"⟩, 30) := ⟨⟨by decide +kernel, by decide +kernel⟩, List.mem_of_getElem? (i := 530) (by decide +kernel), List.mem_of_getElem? (i := 674) (by decide +kernel), List.mem_of_getElem? (i := 675) (by decide +kernel)⟩
theorem lw_p35 : lw_okq (⟨"GateStackModel", "twice", "(I)Z"⟩, 30) := ⟨⟨by decide +kernel, by decide +kernel⟩, List.mem_of_getElem? (i := 530) (by decide +kernel), List.mem_of_getElem? (i := 686) (by decide +kernel), List.mem_of_getElem? (i := 687) (by decide +kernel)⟩
theorem lw_p36 : lw_okq (⟨"GateStackModel", "map", "(I)I"⟩, 30) := ⟨⟨by decide +kernel, by decide +kernel⟩, List.mem_of_getElem? (i := 530) (by decide +kernel), List.mem_of_getElem? (i := 690) (by decide +kernel), List.mem_of_getElem? (i := 691) (by decide +kernel)⟩
theorem lw_p37 : lw_okq (⟨"GateStackModel", "gather", "()Z"⟩, 30) := ⟨⟨by decide +kernel, by decide +kernel⟩, List.mem_of_getElem? (i := 530) (by decide +kernel), List.mem_of_getElem? (i := 698) (by decide +kernel), List.mem_of_getElem? (i := 699) (by decide +kernel)⟩
theorem lw_p38 : lw_okq (⟨"GateStackModel", "settle", "()V"⟩, 30) := ⟨⟨by decide +kernel, by decide +kernel⟩, List.mem_of_getElem? (i := 530) (by decide +kernel), List.mem_of_getElem? (i := 706) (by decide +kernel), List.mem_of_getElem? (i := 707) (by decide +kernel)⟩
theorem lw_p39 : lw_okq (⟨"GateStackModel", "step", "()V"⟩, 30) := ⟨⟨by decide +kernel, by decide +kernel⟩, List.mem_of_getElem? (i := 530) (by decide +kernel), List.mem_of_getElem? (i := 714) (by decide +kernel), List.mem_of_getElem? (i := 715) (by decide +kernel)⟩
theorem lw_p40 : lw_okq (⟨"GateStackModel", "branch", "(I)V"⟩, 30) := ⟨⟨by decide +kernel, by decide +kernel⟩, List.mem_of_getElem? (i := 530) (by decide +kernel), List.mem_of_getElem? (i := 718) (by decide +kernel), List.mem_of_getElem? (i := 719) (by decide +kernel)⟩
theorem lw_p41 : lw_okq (⟨"GateStackModel", "work", "(I)I"⟩, 30) := ⟨⟨by decide +kernel, by decide +kernel⟩, List.mem_of_getElem? (i := 530) (by decide +kernel), List.mem_of_getElem? (i := 722) (by decide +kernel), List.mem_of_getElem? (i := 723) (by decide +kernel)⟩
theorem lw_p42 : lw_okq (⟨"GateStackModel", "operand", "(II)V"⟩, 30) := ⟨⟨by decide +kernel, by decide +kernel⟩, List.mem_of_getElem? (i := 530) (by decide +kernel), List.mem_of_getElem? (i := 726) (by decide +kernel), List.mem_of_getElem? (i := 727) (by decide +kernel)⟩
def lw_privs_3 : List (MethodName × Nat) := [(⟨"GateStackModel", "atOperand", "(I)Z"⟩, 30), (⟨"GateStackModel", "operandEnds", "()V"⟩, 30), (⟨"GateStackModel", "afterOperand", "(I)Z"⟩, 30), (⟨"GateStackModel", "twice", "(I)Z"⟩, 30), (⟨"GateStackModel", "map", "(I)I"⟩, 30), (⟨"GateStackModel", "gather", "()Z"⟩, 30), (⟨"GateStackModel", "settle", "()V"⟩, 30), (⟨"GateStackModel", "step", "()V"⟩, 30), (⟨"GateStackModel", "branch", "(I)V"⟩, 30), (⟨"GateStackModel", "work", "(I)I"⟩, 30), (⟨"GateStackModel", "operand", "(II)V"⟩, 30)]
theorem lw_r3 : ∀ q ∈ lw_privs_3, lw_okq q := List.forall_mem_cons.mpr ⟨lw_p32, List.forall_mem_cons.mpr ⟨lw_p33, List.forall_mem_cons.mpr ⟨lw_p34, List.forall_mem_cons.mpr ⟨lw_p35, List.forall_mem_cons.mpr ⟨lw_p36, List.forall_mem_cons.mpr ⟨lw_p37, List.forall_mem_cons.mpr ⟨lw_p38, List.forall_mem_cons.mpr ⟨lw_p39, List.forall_mem_cons.mpr ⟨lw_p40, List.forall_mem_cons.mpr ⟨lw_p41, List.forall_mem_cons.mpr ⟨lw_p42, fun _ h => absurd h List.not_mem_nil⟩⟩⟩⟩⟩⟩⟩⟩⟩⟩⟩
def lw_privs : List (MethodName × Nat) := lw_privs_1 ++ (lw_privs_2 ++ (lw_privs_3))
def lw_tbl : List Cond := k2_sels lw_privs ++ tables_1
theorem lw_privs_ok : ∀ q ∈ lw_privs, lw_okq q := by
  show ∀ q ∈ lw_privs_1 ++ (lw_privs_2 ++ (lw_privs_3)), lw_okq q
  exact List.forall_mem_append.mpr ⟨lw_r1, List.forall_mem_append.mpr ⟨lw_r2, lw_r3⟩⟩
def R_GS : String := "GateStack"
def T_GS : u_T := fun k => match k with
  | 0 => ("GateStack", "modules", "[LGateStack$ModuleText;", true)
  | 1 => ("GateStack", "reader", "LGateStack$Reader;", true)
  | 2 => ("GateStack", "program", "LGateStack$Program;", true)
  | 3 => ("GateStack", "calculator", "LGateStack$Calculator;", true)
  | 4 => ("GateStack", "machine", "LGateStack$Machine;", true)
  | _ => ("GateStack", "linked", "Z", false)
def t_GS : Nat → FieldType := fun k => match k with
  | 0 => .array (.object "GateStack$ModuleText")
  | 1 => .object "GateStack$Reader"
  | 2 => .object "GateStack$Program"
  | 3 => .object "GateStack$Calculator"
  | 4 => .object "GateStack$Machine"
  | _ => .boolean
theorem n_GS : ∀ a, a < 6 → ∀ b, b < 6 → a ≠ b → (T_GS a).2.1 ≠ (T_GS b).2.1 := by decide +kernel
theorem t_GS_ok : ∀ k, k < 6 → parseFieldDescriptor (T_GS k).2.2.1 = some (t_GS k) := by decide +kernel
def R_MT : String := "GateStack$ModuleText"
def T_MT : u_T := fun k => match k with
  | 0 => ("GateStack$ModuleText", "signs", "[I", true)
  | 1 => ("GateStack$ModuleText", "numbers", "[I", true)
  | 2 => ("GateStack$ModuleText", "heads", "[I", true)
  | 3 => ("GateStack$ModuleText", "ends", "[I", true)
  | 4 => ("GateStack$ModuleText", "begins", "[I", true)
  | 5 => ("GateStack$ModuleText", "calls", "[I", true)
  | 6 => ("GateStack$ModuleText", "length", "I", false)
  | 7 => ("GateStack$ModuleText", "defined", "I", false)
  | 8 => ("GateStack$ModuleText", "twins", "Z", false)
  | _ => ("GateStack$ModuleText", "compiled", "Z", false)
def t_MT : Nat → FieldType := fun k => match k with
  | 0 => .array .int
  | 1 => .array .int
  | 2 => .array .int
  | 3 => .array .int
  | 4 => .array .int
  | 5 => .array .int
  | 6 => .int
  | 7 => .int
  | 8 => .boolean
  | _ => .boolean
theorem n_MT : ∀ a, a < 10 → ∀ b, b < 10 → a ≠ b → (T_MT a).2.1 ≠ (T_MT b).2.1 := by decide +kernel
theorem t_MT_ok : ∀ k, k < 10 → parseFieldDescriptor (T_MT k).2.2.1 = some (t_MT k) := by decide +kernel
def R_RD : String := "GateStack$Reader"
def T_RD : u_T := fun k => match k with
  | 0 => ("GateStack$Reader", "open", "[I", true)
  | 1 => ("GateStack$Reader", "depth", "I", false)
  | 2 => ("GateStack$Reader", "expected", "I", false)
  | 3 => ("GateStack$Reader", "head", "I", false)
  | 4 => ("GateStack$Reader", "expressionEnd", "I", false)
  | 5 => ("GateStack$Reader", "digits", "I", false)
  | 6 => ("GateStack$Reader", "procedure", "I", false)
  | _ => ("GateStack$Reader", "statements", "I", false)
def t_RD : Nat → FieldType := fun k => match k with
  | 0 => .array .int
  | 1 => .int
  | 2 => .int
  | 3 => .int
  | 4 => .int
  | 5 => .int
  | 6 => .int
  | _ => .int
theorem n_RD : ∀ a, a < 8 → ∀ b, b < 8 → a ≠ b → (T_RD a).2.1 ≠ (T_RD b).2.1 := by decide +kernel
theorem t_RD_ok : ∀ k, k < 8 → parseFieldDescriptor (T_RD k).2.2.1 = some (t_RD k) := by decide +kernel
def R_PR : String := "GateStack$Program"
def T_PR : u_T := fun k => match k with
  | 0 => ("GateStack$Program", "homes", "[LGateStack$ModuleText;", true)
  | 1 => ("GateStack$Program", "reached", "[I", true)
  | _ => ("GateStack$Program", "defined", "I", false)
def t_PR : Nat → FieldType := fun k => match k with
  | 0 => .array (.object "GateStack$ModuleText")
  | 1 => .array .int
  | _ => .int
theorem n_PR : ∀ a, a < 3 → ∀ b, b < 3 → a ≠ b → (T_PR a).2.1 ≠ (T_PR b).2.1 := by decide +kernel
theorem t_PR_ok : ∀ k, k < 3 → parseFieldDescriptor (T_PR k).2.2.1 = some (t_PR k) := by decide +kernel
def R_CA : String := "GateStack$Calculator"
def T_CA : u_T := fun k => match k with
  | 0 => ("GateStack$Calculator", "variables", "[I", true)
  | _ => ("GateStack$Calculator", "cursor", "I", false)
def t_CA : Nat → FieldType := fun k => match k with
  | 0 => .array .int
  | _ => .int
theorem n_CA : ∀ a, a < 2 → ∀ b, b < 2 → a ≠ b → (T_CA a).2.1 ≠ (T_CA b).2.1 := by decide +kernel
theorem t_CA_ok : ∀ k, k < 2 → parseFieldDescriptor (T_CA k).2.2.1 = some (t_CA k) := by decide +kernel
def R_MA : String := "GateStack$Machine"
def T_MA : u_T := fun k => match k with
  | 0 => ("GateStack$Machine", "letters", "[I", true)
  | 1 => ("GateStack$Machine", "places", "[I", true)
  | 2 => ("GateStack$Machine", "outputs", "[I", true)
  | 3 => ("GateStack$Machine", "depth", "I", false)
  | _ => ("GateStack$Machine", "outputCount", "I", false)
def t_MA : Nat → FieldType := fun k => match k with
  | 0 => .array .int
  | 1 => .array .int
  | 2 => .array .int
  | 3 => .int
  | _ => .int
theorem n_MA : ∀ a, a < 5 → ∀ b, b < 5 → a ≠ b → (T_MA a).2.1 ≠ (T_MA b).2.1 := by decide +kernel
theorem t_MA_ok : ∀ k, k < 5 → parseFieldDescriptor (T_MA k).2.2.1 = some (t_MA k) := by decide +kernel
def R_GM : String := "GateStackModel"
def T_GM : u_T := fun k => match k with
  | 0 => ("GateStackModel", "text", "[I", true)
  | 1 => ("GateStackModel", "length", "[I", true)
  | 2 => ("GateStackModel", "compiled", "[Z", true)
  | 3 => ("GateStackModel", "linked", "Z", false)
  | 4 => ("GateStackModel", "open", "[I", true)
  | 5 => ("GateStackModel", "opened", "I", false)
  | 6 => ("GateStackModel", "state", "I", false)
  | 7 => ("GateStackModel", "kind", "I", false)
  | 8 => ("GateStackModel", "digits", "I", false)
  | 9 => ("GateStackModel", "second", "Z", false)
  | 10 => ("GateStackModel", "partner", "[I", true)
  | 11 => ("GateStackModel", "owner", "[I", true)
  | 12 => ("GateStackModel", "kindAt", "[I", true)
  | 13 => ("GateStackModel", "numberAt", "[I", true)
  | 14 => ("GateStackModel", "letterAt", "[I", true)
  | 15 => ("GateStackModel", "body", "[I", true)
  | 16 => ("GateStackModel", "calls", "[I", true)
  | 17 => ("GateStackModel", "variable", "[I", true)
  | 18 => ("GateStackModel", "outputs", "[J", true)
  | 19 => ("GateStackModel", "outputCount", "I", false)
  | 20 => ("GateStackModel", "going", "Z", false)
  | 21 => ("GateStackModel", "place", "I", false)
  | 22 => ("GateStackModel", "behind", "[I", true)
  | 23 => ("GateStackModel", "depth", "I", false)
  | 24 => ("GateStackModel", "value", "[I", true)
  | 25 => ("GateStackModel", "operator", "[I", true)
  | 26 => ("GateStackModel", "base", "[I", true)
  | 27 => ("GateStackModel", "before", "[I", true)
  | 28 => ("GateStackModel", "signs", "I", false)
  | _ => ("GateStackModel", "end", "I", false)
def t_GM : Nat → FieldType := fun k => match k with
  | 0 => .array .int
  | 1 => .array .int
  | 2 => .array .boolean
  | 3 => .boolean
  | 4 => .array .int
  | 5 => .int
  | 6 => .int
  | 7 => .int
  | 8 => .int
  | 9 => .boolean
  | 10 => .array .int
  | 11 => .array .int
  | 12 => .array .int
  | 13 => .array .int
  | 14 => .array .int
  | 15 => .array .int
  | 16 => .array .int
  | 17 => .array .int
  | 18 => .array .long
  | 19 => .int
  | 20 => .boolean
  | 21 => .int
  | 22 => .array .int
  | 23 => .int
  | 24 => .array .int
  | 25 => .array .int
  | 26 => .array .int
  | 27 => .array .int
  | 28 => .int
  | _ => .int
theorem n_GM : ∀ a, a < 30 → ∀ b, b < 30 → a ≠ b → (T_GM a).2.1 ≠ (T_GM b).2.1 := by decide +kernel
theorem t_GM_ok : ∀ k, k < 30 → parseFieldDescriptor (T_GM k).2.2.1 = some (t_GM k) := by decide +kernel
def R_JI : String := "java/lang/Integer"
abbrev vwCl : List vw_C := [(R_GS, T_GS, 6), (R_MT, T_MT, 10), (R_RD, T_RD, 8), (R_PR, T_PR, 3), (R_CA, T_CA, 2), (R_MA, T_MA, 5), (R_GM, T_GM, 30)]
abbrev b_GS_init : ByteArray := prog_1_method_1_code
def y_GS_init : MethodName := ⟨R_GS, "<init>", "()V"⟩
abbrev b_GS_sign : ByteArray := prog_1_method_2_code
def y_GS_sign : MethodName := ⟨R_GS, "sign", "(II)I"⟩
abbrev b_GS_clear : ByteArray := prog_1_method_3_code
def y_GS_clear : MethodName := ⟨R_GS, "clear", "(I)I"⟩
abbrev b_GS_compile : ByteArray := prog_1_method_4_code
def y_GS_compile : MethodName := ⟨R_GS, "compile", "(I)I"⟩
abbrev b_GS_fault : ByteArray := prog_1_method_5_code
def y_GS_fault : MethodName := ⟨R_GS, "fault", "(I)I"⟩
abbrev b_GS_link : ByteArray := prog_1_method_6_code
def y_GS_link : MethodName := ⟨R_GS, "link", "()I"⟩
abbrev b_GS_start : ByteArray := prog_1_method_7_code
def y_GS_start : MethodName := ⟨R_GS, "start", "()I"⟩
abbrev b_GS_run : ByteArray := prog_1_method_8_code
def y_GS_run : MethodName := ⟨R_GS, "run", "(I)I"⟩
abbrev b_GS_stop : ByteArray := prog_1_method_9_code
def y_GS_stop : MethodName := ⟨R_GS, "stop", "()I"⟩
abbrev b_GS_set : ByteArray := prog_1_method_10_code
def y_GS_set : MethodName := ⟨R_GS, "set", "(II)I"⟩
abbrev b_GS_get : ByteArray := prog_1_method_11_code
def y_GS_get : MethodName := ⟨R_GS, "get", "(I)J"⟩
abbrev b_GS_output : ByteArray := prog_1_method_12_code
def y_GS_output : MethodName := ⟨R_GS, "output", "(I)J"⟩
abbrev b_GS_at : ByteArray := prog_1_method_13_code
def y_GS_at : MethodName := ⟨R_GS, "at", "(I)I"⟩
abbrev b_GS_operate : ByteArray := prog_1_method_14_code
def y_GS_operate : MethodName := ⟨R_GS, "operate", "(III)J"⟩
abbrev b_GS_state : ByteArray := prog_1_method_15_code
def y_GS_state : MethodName := ⟨R_GS, "state", "(II)I"⟩
abbrev b_GS_loosen : ByteArray := prog_1_method_16_code
def y_GS_loosen : MethodName := ⟨R_GS, "loosen", "()V"⟩
abbrev b_GS_isModule : ByteArray := prog_1_method_17_code
def y_GS_isModule : MethodName := ⟨R_GS, "isModule", "(I)Z"⟩
abbrev b_GS_isVariableNumber : ByteArray := prog_1_method_18_code
def y_GS_isVariableNumber : MethodName := ⟨R_GS, "isVariableNumber", "(I)Z"⟩
abbrev b_GS_isLetterNumber : ByteArray := prog_1_method_19_code
def y_GS_isLetterNumber : MethodName := ⟨R_GS, "isLetterNumber", "(I)Z"⟩
abbrev b_GS_isLetter : ByteArray := prog_1_method_20_code
def y_GS_isLetter : MethodName := ⟨R_GS, "isLetter", "(I)Z"⟩
abbrev b_GS_isVariable : ByteArray := prog_1_method_21_code
def y_GS_isVariable : MethodName := ⟨R_GS, "isVariable", "(I)Z"⟩
abbrev b_GS_isDigit : ByteArray := prog_1_method_22_code
def y_GS_isDigit : MethodName := ⟨R_GS, "isDigit", "(I)Z"⟩
abbrev b_GS_isPrefix : ByteArray := prog_1_method_23_code
def y_GS_isPrefix : MethodName := ⟨R_GS, "isPrefix", "(I)Z"⟩
abbrev b_GS_hasBit : ByteArray := prog_1_method_24_code
def y_GS_hasBit : MethodName := ⟨R_GS, "hasBit", "(II)Z"⟩
abbrev b_GS_operationOf : ByteArray := prog_1_method_25_code
def y_GS_operationOf : MethodName := ⟨R_GS, "operationOf", "(I)I"⟩
abbrev b_GS_worked : ByteArray := prog_1_method_26_code
def y_GS_worked : MethodName := ⟨R_GS, "worked", "(III)I"⟩
abbrev b_GM_init : ByteArray := prog_8_method_1_code
def y_GM_init : MethodName := ⟨R_GM, "<init>", "()V"⟩
abbrev b_GM_in : ByteArray := prog_8_method_2_code
def y_GM_in : MethodName := ⟨R_GM, "in", "(III)Z"⟩
abbrev b_GM_unlink : ByteArray := prog_8_method_3_code
def y_GM_unlink : MethodName := ⟨R_GM, "unlink", "()V"⟩
abbrev b_GM_sign : ByteArray := prog_8_method_4_code
def y_GM_sign : MethodName := ⟨R_GM, "sign", "(II)I"⟩
abbrev b_GM_clear : ByteArray := prog_8_method_5_code
def y_GM_clear : MethodName := ⟨R_GM, "clear", "(I)I"⟩
abbrev b_GM_isVariable : ByteArray := prog_8_method_6_code
def y_GM_isVariable : MethodName := ⟨R_GM, "isVariable", "(I)Z"⟩
abbrev b_GM_isLetter : ByteArray := prog_8_method_7_code
def y_GM_isLetter : MethodName := ⟨R_GM, "isLetter", "(I)Z"⟩
abbrev b_GM_isOperator : ByteArray := prog_8_method_8_code
def y_GM_isOperator : MethodName := ⟨R_GM, "isOperator", "(I)Z"⟩
abbrev b_GM_push : ByteArray := prog_8_method_9_code
def y_GM_push : MethodName := ⟨R_GM, "push", "(II)Z"⟩
abbrev b_GM_operandEnds : ByteArray := prog_8_method_10_code
def y_GM_operandEnds : MethodName := ⟨R_GM, "operandEnds", "()V"⟩
abbrev b_GM_atStatement : ByteArray := prog_8_method_11_code
def y_GM_atStatement : MethodName := ⟨R_GM, "atStatement", "(I)Z"⟩
abbrev b_GM_atOperand : ByteArray := prog_8_method_12_code
def y_GM_atOperand : MethodName := ⟨R_GM, "atOperand", "(I)Z"⟩
abbrev b_GM_afterOperand : ByteArray := prog_8_method_13_code
def y_GM_afterOperand : MethodName := ⟨R_GM, "afterOperand", "(I)Z"⟩
abbrev b_GM_stands : ByteArray := prog_8_method_14_code
def y_GM_stands : MethodName := ⟨R_GM, "stands", "(I)Z"⟩
abbrev b_GM_fault : ByteArray := prog_8_method_15_code
def y_GM_fault : MethodName := ⟨R_GM, "fault", "(I)I"⟩
abbrev b_GM_map : ByteArray := prog_8_method_16_code
def y_GM_map : MethodName := ⟨R_GM, "map", "(I)I"⟩
abbrev b_GM_twice : ByteArray := prog_8_method_17_code
def y_GM_twice : MethodName := ⟨R_GM, "twice", "(I)Z"⟩
abbrev b_GM_compile : ByteArray := prog_8_method_18_code
def y_GM_compile : MethodName := ⟨R_GM, "compile", "(I)I"⟩
abbrev b_GM_gather : ByteArray := prog_8_method_19_code
def y_GM_gather : MethodName := ⟨R_GM, "gather", "()Z"⟩
abbrev b_GM_link : ByteArray := prog_8_method_20_code
def y_GM_link : MethodName := ⟨R_GM, "link", "()I"⟩
abbrev b_GM_apply : ByteArray := prog_8_method_21_code
def y_GM_apply : MethodName := ⟨R_GM, "apply", "(III)I"⟩
abbrev b_GM_operand : ByteArray := prog_8_method_22_code
def y_GM_operand : MethodName := ⟨R_GM, "operand", "(II)V"⟩
abbrev b_GM_work : ByteArray := prog_8_method_23_code
def y_GM_work : MethodName := ⟨R_GM, "work", "(I)I"⟩
abbrev b_GM_settle : ByteArray := prog_8_method_24_code
def y_GM_settle : MethodName := ⟨R_GM, "settle", "()V"⟩
abbrev b_GM_start : ByteArray := prog_8_method_25_code
def y_GM_start : MethodName := ⟨R_GM, "start", "()I"⟩
abbrev b_GM_branch : ByteArray := prog_8_method_26_code
def y_GM_branch : MethodName := ⟨R_GM, "branch", "(I)V"⟩
abbrev b_GM_step : ByteArray := prog_8_method_27_code
def y_GM_step : MethodName := ⟨R_GM, "step", "()V"⟩
abbrev b_GM_run : ByteArray := prog_8_method_28_code
def y_GM_run : MethodName := ⟨R_GM, "run", "(I)I"⟩
abbrev b_GM_stop : ByteArray := prog_8_method_29_code
def y_GM_stop : MethodName := ⟨R_GM, "stop", "()I"⟩
abbrev b_GM_set : ByteArray := prog_8_method_30_code
def y_GM_set : MethodName := ⟨R_GM, "set", "(II)I"⟩
abbrev b_GM_get : ByteArray := prog_8_method_31_code
def y_GM_get : MethodName := ⟨R_GM, "get", "(I)J"⟩
abbrev b_GM_output : ByteArray := prog_8_method_32_code
def y_GM_output : MethodName := ⟨R_GM, "output", "(I)J"⟩
abbrev b_GM_at : ByteArray := prog_8_method_33_code
def y_GM_at : MethodName := ⟨R_GM, "at", "(I)I"⟩
abbrev b_GM_operate : ByteArray := prog_8_method_34_code
def y_GM_operate : MethodName := ⟨R_GM, "operate", "(III)J"⟩
abbrev b_GM_state : ByteArray := prog_8_method_35_code
def y_GM_state : MethodName := ⟨R_GM, "state", "(II)I"⟩
abbrev b_CA_init : ByteArray := prog_2_method_1_code
def y_CA_init : MethodName := ⟨R_CA, "<init>", "()V"⟩
abbrev b_CA_assign : ByteArray := prog_2_method_2_code
def y_CA_assign : MethodName := ⟨R_CA, "assign", "(II)Z"⟩
abbrev b_CA_variable : ByteArray := prog_2_method_3_code
def y_CA_variable : MethodName := ⟨R_CA, "variable", "(I)I"⟩
abbrev b_CA_valueAt : ByteArray := prog_2_method_4_code
def y_CA_valueAt : MethodName := ⟨R_CA, "valueAt", "(LGateStack$ModuleText;I)I"⟩
abbrev b_CA_cursor : ByteArray := prog_2_method_5_code
def y_CA_cursor : MethodName := ⟨R_CA, "cursor", "()I"⟩
abbrev b_CA_expression : ByteArray := prog_2_method_6_code
def y_CA_expression : MethodName := ⟨R_CA, "expression", "(LGateStack$ModuleText;I)I"⟩
abbrev b_CA_operand : ByteArray := prog_2_method_7_code
def y_CA_operand : MethodName := ⟨R_CA, "operand", "(LGateStack$ModuleText;I)I"⟩
abbrev b_CA_number : ByteArray := prog_2_method_8_code
def y_CA_number : MethodName := ⟨R_CA, "number", "(LGateStack$ModuleText;)I"⟩
abbrev b_MA_init : ByteArray := prog_3_method_1_code
def y_MA_init : MethodName := ⟨R_MA, "<init>", "()V"⟩
abbrev b_MA_isGoing : ByteArray := prog_3_method_2_code
def y_MA_isGoing : MethodName := ⟨R_MA, "isGoing", "()Z"⟩
abbrev b_MA_depth : ByteArray := prog_3_method_3_code
def y_MA_depth : MethodName := ⟨R_MA, "depth", "()I"⟩
abbrev b_MA_outputCount : ByteArray := prog_3_method_4_code
def y_MA_outputCount : MethodName := ⟨R_MA, "outputCount", "()I"⟩
abbrev b_MA_hasKept : ByteArray := prog_3_method_5_code
def y_MA_hasKept : MethodName := ⟨R_MA, "hasKept", "(I)Z"⟩
abbrev b_MA_kept : ByteArray := prog_3_method_6_code
def y_MA_kept : MethodName := ⟨R_MA, "kept", "(I)I"⟩
abbrev b_MA_letterCode : ByteArray := prog_3_method_7_code
def y_MA_letterCode : MethodName := ⟨R_MA, "letterCode", "()I"⟩
abbrev b_MA_statementNumber : ByteArray := prog_3_method_8_code
def y_MA_statementNumber : MethodName := ⟨R_MA, "statementNumber", "(LGateStack$Program;)I"⟩
abbrev b_MA_halt : ByteArray := prog_3_method_9_code
def y_MA_halt : MethodName := ⟨R_MA, "halt", "()V"⟩
abbrev b_MA_begin : ByteArray := prog_3_method_10_code
def y_MA_begin : MethodName := ⟨R_MA, "begin", "(LGateStack$Program;)V"⟩
abbrev b_MA_step : ByteArray := prog_3_method_11_code
def y_MA_step : MethodName := ⟨R_MA, "step", "(LGateStack$Program;LGateStack$Calculator;)V"⟩
abbrev b_MA_currentText : ByteArray := prog_3_method_12_code
def y_MA_currentText : MethodName := ⟨R_MA, "currentText", "(LGateStack$Program;)LGateStack$ModuleText;"⟩
abbrev b_MA_enter : ByteArray := prog_3_method_13_code
def y_MA_enter : MethodName := ⟨R_MA, "enter", "(LGateStack$Program;I)V"⟩
abbrev b_MA_placeBehind : ByteArray := prog_3_method_14_code
def y_MA_placeBehind : MethodName := ⟨R_MA, "placeBehind", "(LGateStack$ModuleText;ILGateStack$Calculator;)I"⟩
abbrev b_MA_keep : ByteArray := prog_3_method_15_code
def y_MA_keep : MethodName := ⟨R_MA, "keep", "(I)V"⟩
abbrev b_MA_leaveEndedBlocks : ByteArray := prog_3_method_16_code
def y_MA_leaveEndedBlocks : MethodName := ⟨R_MA, "leaveEndedBlocks", "(LGateStack$Program;)V"⟩
abbrev b_MT_init : ByteArray := prog_4_method_1_code
def y_MT_init : MethodName := ⟨R_MT, "<init>", "()V"⟩
abbrev b_MT_append : ByteArray := prog_4_method_2_code
def y_MT_append : MethodName := ⟨R_MT, "append", "(I)Z"⟩
abbrev b_MT_empty : ByteArray := prog_4_method_3_code
def y_MT_empty : MethodName := ⟨R_MT, "empty", "()V"⟩
abbrev b_MT_forget : ByteArray := prog_4_method_4_code
def y_MT_forget : MethodName := ⟨R_MT, "forget", "()V"⟩
abbrev b_MT_mark : ByteArray := prog_4_method_5_code
def y_MT_mark : MethodName := ⟨R_MT, "mark", "(Z)V"⟩
abbrev b_MT_addProcedure : ByteArray := prog_4_method_6_code
def y_MT_addProcedure : MethodName := ⟨R_MT, "addProcedure", "(II)V"⟩
abbrev b_MT_addCall : ByteArray := prog_4_method_7_code
def y_MT_addCall : MethodName := ⟨R_MT, "addCall", "(II)V"⟩
abbrev b_MT_addStatement : ByteArray := prog_4_method_8_code
def y_MT_addStatement : MethodName := ⟨R_MT, "addStatement", "(II)V"⟩
abbrev b_MT_addBlock : ByteArray := prog_4_method_9_code
def y_MT_addBlock : MethodName := ⟨R_MT, "addBlock", "(II)V"⟩
abbrev b_MT_length : ByteArray := prog_4_method_10_code
def y_MT_length : MethodName := ⟨R_MT, "length", "()I"⟩
abbrev b_MT_defined : ByteArray := prog_4_method_11_code
def y_MT_defined : MethodName := ⟨R_MT, "defined", "()I"⟩
abbrev b_MT_hasTwins : ByteArray := prog_4_method_12_code
def y_MT_hasTwins : MethodName := ⟨R_MT, "hasTwins", "()Z"⟩
abbrev b_MT_isCompiled : ByteArray := prog_4_method_13_code
def y_MT_isCompiled : MethodName := ⟨R_MT, "isCompiled", "()Z"⟩
abbrev b_MT_signAt : ByteArray := prog_4_method_14_code
def y_MT_signAt : MethodName := ⟨R_MT, "signAt", "(I)I"⟩
abbrev b_MT_numberAt : ByteArray := prog_4_method_15_code
def y_MT_numberAt : MethodName := ⟨R_MT, "numberAt", "(I)I"⟩
abbrev b_MT_callsOf : ByteArray := prog_4_method_16_code
def y_MT_callsOf : MethodName := ⟨R_MT, "callsOf", "(I)I"⟩
abbrev b_MT_firstPlaceOf : ByteArray := prog_4_method_17_code
def y_MT_firstPlaceOf : MethodName := ⟨R_MT, "firstPlaceOf", "(I)I"⟩
abbrev b_MT_endsProcedure : ByteArray := prog_4_method_18_code
def y_MT_endsProcedure : MethodName := ⟨R_MT, "endsProcedure", "(I)Z"⟩
abbrev b_MT_behindBlock : ByteArray := prog_4_method_19_code
def y_MT_behindBlock : MethodName := ⟨R_MT, "behindBlock", "(I)I"⟩
abbrev b_MT_placeIfZero : ByteArray := prog_4_method_20_code
def y_MT_placeIfZero : MethodName := ⟨R_MT, "placeIfZero", "(I)I"⟩
abbrev b_MT_behindEndOf : ByteArray := prog_4_method_21_code
def y_MT_behindEndOf : MethodName := ⟨R_MT, "behindEndOf", "(I)I"⟩
abbrev b_MT_isPlace : ByteArray := prog_4_method_22_code
def y_MT_isPlace : MethodName := ⟨R_MT, "isPlace", "(I)Z"⟩
abbrev b_PR_init : ByteArray := prog_5_method_1_code
def y_PR_init : MethodName := ⟨R_PR, "<init>", "()V"⟩
abbrev b_PR_join : ByteArray := prog_5_method_2_code
def y_PR_join : MethodName := ⟨R_PR, "join", "([LGateStack$ModuleText;)I"⟩
abbrev b_PR_homeOf : ByteArray := prog_5_method_3_code
def y_PR_homeOf : MethodName := ⟨R_PR, "homeOf", "(I)LGateStack$ModuleText;"⟩
abbrev b_PR_forget : ByteArray := prog_5_method_4_code
def y_PR_forget : MethodName := ⟨R_PR, "forget", "()V"⟩
abbrev b_PR_takeOver : ByteArray := prog_5_method_5_code
def y_PR_takeOver : MethodName := ⟨R_PR, "takeOver", "(LGateStack$ModuleText;)V"⟩
abbrev b_PR_lacksOne : ByteArray := prog_5_method_6_code
def y_PR_lacksOne : MethodName := ⟨R_PR, "lacksOne", "()Z"⟩
abbrev b_PR_followChains : ByteArray := prog_5_method_7_code
def y_PR_followChains : MethodName := ⟨R_PR, "followChains", "()V"⟩
abbrev b_PR_hasCircle : ByteArray := prog_5_method_8_code
def y_PR_hasCircle : MethodName := ⟨R_PR, "hasCircle", "()Z"⟩
abbrev b_RD_init : ByteArray := prog_6_method_1_code
def y_RD_init : MethodName := ⟨R_RD, "<init>", "()V"⟩
abbrev b_RD_faultOf : ByteArray := prog_6_method_2_code
def y_RD_faultOf : MethodName := ⟨R_RD, "faultOf", "(LGateStack$ModuleText;)I"⟩
abbrev b_RD_takes : ByteArray := prog_6_method_3_code
def y_RD_takes : MethodName := ⟨R_RD, "takes", "(LGateStack$ModuleText;I)Z"⟩
abbrev b_RD_takesProcedure : ByteArray := prog_6_method_4_code
def y_RD_takesProcedure : MethodName := ⟨R_RD, "takesProcedure", "(LGateStack$ModuleText;I)Z"⟩
abbrev b_RD_takesStatement : ByteArray := prog_6_method_5_code
def y_RD_takesStatement : MethodName := ⟨R_RD, "takesStatement", "(LGateStack$ModuleText;I)Z"⟩
abbrev b_RD_behindFirstSign : ByteArray := prog_6_method_6_code
def y_RD_behindFirstSign : MethodName := ⟨R_RD, "behindFirstSign", "(I)I"⟩
abbrev b_RD_closesBlock : ByteArray := prog_6_method_7_code
def y_RD_closesBlock : MethodName := ⟨R_RD, "closesBlock", "(LGateStack$ModuleText;I)Z"⟩
abbrev b_RD_takesOperand : ByteArray := prog_6_method_8_code
def y_RD_takesOperand : MethodName := ⟨R_RD, "takesOperand", "(LGateStack$ModuleText;I)Z"⟩
abbrev b_RD_takesDigit : ByteArray := prog_6_method_9_code
def y_RD_takesDigit : MethodName := ⟨R_RD, "takesDigit", "()Z"⟩
abbrev b_RD_takesOperator : ByteArray := prog_6_method_10_code
def y_RD_takesOperator : MethodName := ⟨R_RD, "takesOperator", "(LGateStack$ModuleText;I)Z"⟩
abbrev b_RD_endsOperand : ByteArray := prog_6_method_11_code
def y_RD_endsOperand : MethodName := ⟨R_RD, "endsOperand", "(LGateStack$ModuleText;I)Z"⟩
abbrev b_RD_lastOpen : ByteArray := prog_6_method_12_code
def y_RD_lastOpen : MethodName := ⟨R_RD, "lastOpen", "(LGateStack$ModuleText;)I"⟩
abbrev b_RD_opens : ByteArray := prog_6_method_13_code
def y_RD_opens : MethodName := ⟨R_RD, "opens", "(II)Z"⟩
abbrev b_RD_begins : ByteArray := prog_6_method_14_code
def y_RD_begins : MethodName := ⟨R_RD, "begins", "(II)Z"⟩
abbrev b_RD_expects : ByteArray := prog_6_method_15_code
def y_RD_expects : MethodName := ⟨R_RD, "expects", "(I)Z"⟩
abbrev b_JI_bitCount : ByteArray := prog_9_method_49_code
def y_JI_bitCount : MethodName := ⟨R_JI, "bitCount", "(I)I"⟩
def allW_0 : List Cond := [.initialized "GateStackLaw", .initialized R_GS, .initialized R_MT, .initialized R_RD, .initialized R_PR, .initialized R_CA, .initialized R_MA, .initialized R_GM, .initialized R_JI, .classLink "GateStackLaw" 7 "GateStack", .instantiable R_GS 6, .methodLink "GateStackLaw" 9 y_GS_init, .instanceMethod y_GS_init, .code y_GS_init prog_1_method_1_code 2 none, .methodLink R_GS 1 objectInit, .instanceMethod objectInit, .code objectInit object_method_1_code 1 none, .classLink R_GS 9 "GateStack$ModuleText", .instantiable R_MT 10, .instanceMethod y_MT_init, .code y_MT_init prog_4_method_1_code 1 none, .methodLink R_MT 3 objectInit, .fieldLink R_MT 9 "GateStack$ModuleText" "signs" "[I", .fieldLink R_MT 15 "GateStack$ModuleText" "numbers" "[I", .fieldLink R_MT 18 "GateStack$ModuleText" "heads" "[I", .fieldLink R_MT 21 "GateStack$ModuleText" "ends" "[I", .fieldLink R_MT 24 "GateStack$ModuleText" "begins" "[I", .fieldLink R_MT 27 "GateStack$ModuleText" "calls" "[I", .fieldLink R_MT 34 "GateStack$ModuleText" "length" "I", .fieldLink R_MT 41 "GateStack$ModuleText" "defined" "I", .fieldLink R_MT 44 "GateStack$ModuleText" "twins" "Z", .fieldLink R_MT 30 "GateStack$ModuleText" "compiled" "Z", .laysFinal R_MT "GateStack$ModuleText" "signs" "[I", .laysFinal R_MT "GateStack$ModuleText" "numbers" "[I", .laysFinal R_MT "GateStack$ModuleText" "heads" "[I", .laysFinal R_MT "GateStack$ModuleText" "ends" "[I", .laysFinal R_MT "GateStack$ModuleText" "begins" "[I", .laysFinal R_MT "GateStack$ModuleText" "calls" "[I", .lays R_MT "GateStack$ModuleText" "length" "I", .lays R_MT "GateStack$ModuleText" "defined" "I", .lays R_MT "GateStack$ModuleText" "twins" "Z", .lays R_MT "GateStack$ModuleText" "compiled" "Z", .arrayClass .int, .classLink R_GS 16 "GateStack$Reader", .instantiable R_RD 8, .instanceMethod y_RD_init, .code y_RD_init prog_6_method_1_code 1 none, .methodLink R_RD 3 objectInit, .fieldLink R_RD 9 "GateStack$Reader" "open" "[I", .fieldLink R_RD 20 "GateStack$Reader" "depth" "I", .fieldLink R_RD 24 "GateStack$Reader" "expected" "I", .fieldLink R_RD 42 "GateStack$Reader" "head" "I", .fieldLink R_RD 97 "GateStack$Reader" "expressionEnd" "I", .fieldLink R_RD 112 "GateStack$Reader" "digits" "I", .fieldLink R_RD 75 "GateStack$Reader" "procedure" "I", .fieldLink R_RD 78 "GateStack$Reader" "statements" "I", .laysFinal R_RD "GateStack$Reader" "open" "[I", .lays R_RD "GateStack$Reader" "depth" "I", .lays R_RD "GateStack$Reader" "expected" "I", .lays R_RD "GateStack$Reader" "head" "I"]
def allW_1 : List Cond := [.lays R_RD "GateStack$Reader" "expressionEnd" "I", .lays R_RD "GateStack$Reader" "digits" "I", .lays R_RD "GateStack$Reader" "procedure" "I", .lays R_RD "GateStack$Reader" "statements" "I", .classLink R_GS 23 "GateStack$Program", .instantiable R_PR 3, .instanceMethod y_PR_init, .code y_PR_init prog_5_method_1_code 1 none, .methodLink R_PR 3 objectInit, .classLink R_PR 9 "GateStack$ModuleText", .fieldLink R_PR 11 "GateStack$Program" "homes" "[LGateStack$ModuleText;", .fieldLink R_PR 17 "GateStack$Program" "reached" "[I", .fieldLink R_PR 24 "GateStack$Program" "defined" "I", .laysFinal R_PR "GateStack$Program" "homes" "[LGateStack$ModuleText;", .laysFinal R_PR "GateStack$Program" "reached" "[I", .lays R_PR "GateStack$Program" "defined" "I", .classLink R_GS 30 "GateStack$Calculator", .instantiable R_CA 2, .instanceMethod y_CA_init, .code y_CA_init prog_2_method_1_code 1 none, .methodLink R_CA 3 objectInit, .fieldLink R_CA 9 "GateStack$Calculator" "variables" "[I", .fieldLink R_CA 19 "GateStack$Calculator" "cursor" "I", .laysFinal R_CA "GateStack$Calculator" "variables" "[I", .lays R_CA "GateStack$Calculator" "cursor" "I", .classLink R_GS 37 "GateStack$Machine", .instantiable R_MA 5, .instanceMethod y_MA_init, .code y_MA_init prog_3_method_1_code 1 none, .methodLink R_MA 3 objectInit, .fieldLink R_MA 9 "GateStack$Machine" "letters" "[I", .fieldLink R_MA 15 "GateStack$Machine" "places" "[I", .fieldLink R_MA 18 "GateStack$Machine" "outputs" "[I", .fieldLink R_MA 21 "GateStack$Machine" "depth" "I", .fieldLink R_MA 25 "GateStack$Machine" "outputCount" "I", .laysFinal R_MA "GateStack$Machine" "letters" "[I", .laysFinal R_MA "GateStack$Machine" "places" "[I", .laysFinal R_MA "GateStack$Machine" "outputs" "[I", .lays R_MA "GateStack$Machine" "depth" "I", .lays R_MA "GateStack$Machine" "outputCount" "I", .fieldLink R_GS 11 "GateStack" "modules" "[LGateStack$ModuleText;", .fieldLink R_GS 19 "GateStack" "reader" "LGateStack$Reader;", .fieldLink R_GS 26 "GateStack" "program" "LGateStack$Program;", .fieldLink R_GS 33 "GateStack" "calculator" "LGateStack$Calculator;", .fieldLink R_GS 40 "GateStack" "machine" "LGateStack$Machine;", .fieldLink R_GS 44 "GateStack" "linked" "Z", .laysFinal R_GS "GateStack" "modules" "[LGateStack$ModuleText;", .laysFinal R_GS "GateStack" "reader" "LGateStack$Reader;", .laysFinal R_GS "GateStack" "program" "LGateStack$Program;", .laysFinal R_GS "GateStack" "calculator" "LGateStack$Calculator;", .laysFinal R_GS "GateStack" "machine" "LGateStack$Machine;", .lays R_GS "GateStack" "linked" "Z", .methodLink "GateStackLaw" 13 y_GS_sign, .instanceMethod y_GS_sign, .selects R_GS y_GS_sign y_GS_sign, .code y_GS_sign prog_1_method_2_code 3 (some .int), .methodLink R_GS 48 y_GS_isModule, .static y_GS_isModule, .code y_GS_isModule prog_1_method_17_code 1 (some .boolean), .methodLink R_GS 52 y_MT_append]
def allW_2 : List Cond := [.instanceMethod y_MT_append, .selects R_MT y_MT_append y_MT_append, .code y_MT_append prog_4_method_2_code 2 (some .boolean), .methodLink R_GS 55 y_GS_loosen, .instanceMethod y_GS_loosen, .code y_GS_loosen prog_1_method_16_code 1 none, .methodLink R_GS 104 y_MA_halt, .instanceMethod y_MA_halt, .selects R_MA y_MA_halt y_MA_halt, .code y_MA_halt prog_3_method_9_code 1 none, .methodLink R_GS 58 y_MT_length, .instanceMethod y_MT_length, .selects R_MT y_MT_length y_MT_length, .code y_MT_length prog_4_method_10_code 1 (some .int), .methodLink "GateStackLaw" 18 y_GS_clear, .instanceMethod y_GS_clear, .selects R_GS y_GS_clear y_GS_clear, .code y_GS_clear prog_1_method_3_code 2 (some .int), .methodLink R_GS 62 y_MT_empty, .instanceMethod y_MT_empty, .selects R_MT y_MT_empty y_MT_empty, .code y_MT_empty prog_4_method_3_code 1 none, .methodLink R_MT 38 y_MT_forget, .instanceMethod y_MT_forget, .selects R_MT y_MT_forget y_MT_forget, .code y_MT_forget prog_4_method_4_code 1 none, .methodLink "GateStackLaw" 23 y_GS_compile, .instanceMethod y_GS_compile, .selects R_GS y_GS_compile y_GS_compile, .code y_GS_compile prog_1_method_4_code 4 (some .int), .methodLink R_GS 65 y_RD_faultOf, .instanceMethod y_RD_faultOf, .selects R_RD y_RD_faultOf y_RD_faultOf, .code y_RD_faultOf prog_6_method_2_code 4 (some .int), .methodLink R_RD 15 y_MT_forget, .methodLink R_RD 27 y_MT_length, .methodLink R_RD 31 y_RD_takes, .instanceMethod y_RD_takes, .code y_RD_takes prog_6_method_3_code 4 (some .boolean), .methodLink R_RD 35 y_MT_signAt, .instanceMethod y_MT_signAt, .selects R_MT y_MT_signAt y_MT_signAt, .code y_MT_signAt prog_4_method_14_code 2 (some .int), .methodLink R_RD 39 y_RD_takesProcedure, .instanceMethod y_RD_takesProcedure, .code y_RD_takesProcedure prog_6_method_4_code 4 (some .boolean), .static y_GS_isLetter, .code y_GS_isLetter prog_1_method_20_code 1 (some .boolean), .methodLink R_RD 81 y_MT_addProcedure, .instanceMethod y_MT_addProcedure, .selects R_MT y_MT_addProcedure y_MT_addProcedure, .code y_MT_addProcedure prog_4_method_6_code 3 none, .static y_GS_isLetterNumber, .code y_GS_isLetterNumber prog_1_method_19_code 1 (some .boolean), .static y_GS_hasBit, .code y_GS_hasBit prog_1_method_24_code 2 (some .boolean), .methodLink R_RD 52 y_RD_begins, .instanceMethod y_RD_begins, .code y_RD_begins prog_6_method_14_code 3 (some .boolean), .methodLink R_RD 55 y_RD_expects]
def allW_3 : List Cond := [.instanceMethod y_RD_expects, .code y_RD_expects prog_6_method_15_code 2 (some .boolean), .methodLink R_RD 45 y_RD_opens, .instanceMethod y_RD_opens, .code y_RD_opens prog_6_method_13_code 3 (some .boolean), .methodLink R_RD 49 y_RD_takesStatement, .instanceMethod y_RD_takesStatement, .code y_RD_takesStatement prog_6_method_5_code 5 (some .boolean), .methodLink R_RD 85 y_RD_closesBlock, .instanceMethod y_RD_closesBlock, .code y_RD_closesBlock prog_6_method_7_code 5 (some .boolean), .methodLink R_RD 103 y_MT_addBlock, .instanceMethod y_MT_addBlock, .selects R_MT y_MT_addBlock y_MT_addBlock, .code y_MT_addBlock prog_4_method_9_code 3 none, .methodLink R_MT 55 y_MT_isPlace, .instanceMethod y_MT_isPlace, .code y_MT_isPlace prog_4_method_22_code 2 (some .boolean), .methodLink R_RD 88 y_RD_behindFirstSign, .static y_RD_behindFirstSign, .code y_RD_behindFirstSign prog_6_method_6_code 1 (some .int), .static y_GS_isVariable, .code y_GS_isVariable prog_1_method_21_code 1 (some .boolean), .methodLink R_RD 91 y_MT_addCall, .instanceMethod y_MT_addCall, .selects R_MT y_MT_addCall y_MT_addCall, .code y_MT_addCall prog_4_method_7_code 3 none, .methodLink R_RD 94 y_MT_addStatement, .instanceMethod y_MT_addStatement, .selects R_MT y_MT_addStatement y_MT_addStatement, .code y_MT_addStatement prog_4_method_8_code 3 none, .methodLink R_RD 59 y_RD_takesOperand, .instanceMethod y_RD_takesOperand, .code y_RD_takesOperand prog_6_method_8_code 4 (some .boolean), .static y_GS_isPrefix, .code y_GS_isPrefix prog_1_method_23_code 1 (some .boolean), .methodLink R_RD 109 y_RD_endsOperand, .instanceMethod y_RD_endsOperand, .code y_RD_endsOperand prog_6_method_11_code 3 (some .boolean), .methodLink R_RD 118 y_RD_lastOpen, .instanceMethod y_RD_lastOpen, .code y_RD_lastOpen prog_6_method_12_code 2 (some .int), .static y_GS_isDigit, .code y_GS_isDigit prog_1_method_22_code 1 (some .boolean), .methodLink R_RD 65 y_RD_takesDigit, .instanceMethod y_RD_takesDigit, .code y_RD_takesDigit prog_6_method_9_code 1 (some .boolean), .methodLink R_RD 69 y_RD_takesOperator, .instanceMethod y_RD_takesOperator, .code y_RD_takesOperator prog_6_method_10_code 5 (some .boolean), .static y_GS_operationOf, .code y_GS_operationOf prog_1_method_25_code 1 (some .int), .methodLink R_GS 69 y_MT_hasTwins, .instanceMethod y_MT_hasTwins, .selects R_MT y_MT_hasTwins y_MT_hasTwins, .code y_MT_hasTwins prog_4_method_12_code 1 (some .boolean), .methodLink R_GS 73 y_MT_mark, .instanceMethod y_MT_mark, .selects R_MT y_MT_mark y_MT_mark, .code y_MT_mark prog_4_method_5_code 2 none]
def allW_4 : List Cond := [.methodLink R_GS 77 y_MT_defined, .instanceMethod y_MT_defined, .selects R_MT y_MT_defined y_MT_defined, .code y_MT_defined prog_4_method_11_code 1 (some .int), .methodLink R_GS 80 y_JI_bitCount, .static y_JI_bitCount, .code y_JI_bitCount prog_9_method_49_code 1 (some .int), .constant R_JI 265 1431655765, .constant R_JI 266 858993459, .constant R_JI 267 252645135, .methodLink "GateStackLaw" 27 y_GS_fault, .instanceMethod y_GS_fault, .selects R_GS y_GS_fault y_GS_fault, .code y_GS_fault prog_1_method_5_code 2 (some .int), .methodLink "GateStackLaw" 31 y_GS_link, .instanceMethod y_GS_link, .selects R_GS y_GS_link y_GS_link, .code y_GS_link prog_1_method_6_code 2 (some .int), .methodLink R_GS 86 y_MT_isCompiled, .instanceMethod y_MT_isCompiled, .selects R_MT y_MT_isCompiled y_MT_isCompiled, .code y_MT_isCompiled prog_4_method_13_code 1 (some .boolean), .methodLink R_GS 89 y_PR_join, .instanceMethod y_PR_join, .selects R_PR y_PR_join y_PR_join, .code y_PR_join prog_5_method_2_code 3 (some .int), .methodLink R_PR 21 y_PR_forget, .instanceMethod y_PR_forget, .code y_PR_forget prog_5_method_4_code 2 none, .methodLink R_PR 28 y_MT_defined, .methodLink R_PR 31 y_PR_takeOver, .instanceMethod y_PR_takeOver, .code y_PR_takeOver prog_5_method_5_code 3 none, .methodLink R_PR 59 y_MT_callsOf, .instanceMethod y_MT_callsOf, .selects R_MT y_MT_callsOf y_MT_callsOf, .code y_MT_callsOf prog_4_method_16_code 2 (some .int), .methodLink R_PR 35 y_PR_lacksOne, .instanceMethod y_PR_lacksOne, .code y_PR_lacksOne prog_5_method_6_code 3 (some .boolean), .methodLink R_PR 39 y_PR_followChains, .instanceMethod y_PR_followChains, .code y_PR_followChains prog_5_method_7_code 3 none, .methodLink R_PR 42 y_PR_hasCircle, .instanceMethod y_PR_hasCircle, .code y_PR_hasCircle prog_5_method_8_code 2 (some .boolean), .methodLink R_PR 45 y_JI_bitCount, .methodLink "GateStackLaw" 36 y_GS_start, .instanceMethod y_GS_start, .selects R_GS y_GS_start y_GS_start, .code y_GS_start prog_1_method_7_code 1 (some .int), .methodLink R_GS 93 y_MA_isGoing, .instanceMethod y_MA_isGoing, .selects R_MA y_MA_isGoing y_MA_isGoing, .code y_MA_isGoing prog_3_method_2_code 1 (some .boolean), .methodLink R_GS 96 y_MA_begin, .instanceMethod y_MA_begin, .selects R_MA y_MA_begin y_MA_begin, .code y_MA_begin prog_3_method_10_code 2 none, .methodLink R_MA 42 y_MA_enter]
def allW_5 : List Cond := [.instanceMethod y_MA_enter, .code y_MA_enter prog_3_method_13_code 4 none, .methodLink R_MA 60 y_PR_homeOf, .instanceMethod y_PR_homeOf, .selects R_PR y_PR_homeOf y_PR_homeOf, .code y_PR_homeOf prog_5_method_3_code 2 (some (.object "GateStack$ModuleText")), .methodLink R_MA 66 y_MT_firstPlaceOf, .instanceMethod y_MT_firstPlaceOf, .selects R_MT y_MT_firstPlaceOf y_MT_firstPlaceOf, .code y_MT_firstPlaceOf prog_4_method_17_code 2 (some .int), .methodLink R_MA 46 y_MA_leaveEndedBlocks, .instanceMethod y_MA_leaveEndedBlocks, .code y_MA_leaveEndedBlocks prog_3_method_16_code 5 none, .methodLink R_MA 32 y_MA_currentText, .instanceMethod y_MA_currentText, .code y_MA_currentText prog_3_method_12_code 2 (some (.object "GateStack$ModuleText")), .methodLink R_MA 50 y_MT_signAt, .methodLink R_MA 93 y_MT_endsProcedure, .instanceMethod y_MT_endsProcedure, .selects R_MT y_MT_endsProcedure y_MT_endsProcedure, .code y_MT_endsProcedure prog_4_method_18_code 2 (some .boolean), .methodLink R_MT 58 y_MT_signAt, .methodLink R_MA 96 y_MT_behindBlock, .instanceMethod y_MT_behindBlock, .selects R_MT y_MT_behindBlock y_MT_behindBlock, .code y_MT_behindBlock prog_4_method_19_code 3 (some .int), .methodLink R_MT 65 y_MT_behindEndOf, .instanceMethod y_MT_behindEndOf, .code y_MT_behindEndOf prog_4_method_21_code 2 (some .int), .methodLink "GateStackLaw" 40 y_GS_run, .instanceMethod y_GS_run, .selects R_GS y_GS_run y_GS_run, .code y_GS_run prog_1_method_8_code 3 (some .int), .methodLink R_GS 100 y_MA_step, .instanceMethod y_MA_step, .selects R_MA y_MA_step y_MA_step, .code y_MA_step prog_3_method_11_code 7 none, .methodLink R_MA 56 y_MA_placeBehind, .instanceMethod y_MA_placeBehind, .code y_MA_placeBehind prog_3_method_14_code 8 (some .int), .methodLink R_MA 72 y_CA_valueAt, .instanceMethod y_CA_valueAt, .selects R_CA y_CA_valueAt y_CA_valueAt, .code y_CA_valueAt prog_2_method_4_code 3 (some .int), .methodLink R_CA 23 y_CA_expression, .instanceMethod y_CA_expression, .code y_CA_expression prog_2_method_6_code 6 (some .int), .methodLink R_CA 27 y_CA_operand, .instanceMethod y_CA_operand, .code y_CA_operand prog_2_method_7_code 5 (some .int), .methodLink R_CA 30 y_MT_signAt, .methodLink R_CA 46 y_CA_number, .instanceMethod y_CA_number, .code y_CA_number prog_2_method_8_code 4 (some .int), .static y_GS_worked, .code y_GS_worked prog_1_method_26_code 3 (some .int), .methodLink R_MA 78 y_CA_cursor, .instanceMethod y_CA_cursor, .selects R_CA y_CA_cursor y_CA_cursor, .code y_CA_cursor prog_2_method_5_code 1 (some .int)]
def allW_6 : List Cond := [.methodLink R_MA 82 y_CA_assign, .instanceMethod y_CA_assign, .selects R_CA y_CA_assign y_CA_assign, .code y_CA_assign prog_2_method_2_code 3 (some .boolean), .static y_GS_isVariableNumber, .code y_GS_isVariableNumber prog_1_method_18_code 1 (some .boolean), .methodLink R_MA 86 y_MA_keep, .instanceMethod y_MA_keep, .code y_MA_keep prog_3_method_15_code 2 none, .methodLink R_MA 90 y_MT_placeIfZero, .instanceMethod y_MT_placeIfZero, .selects R_MT y_MT_placeIfZero y_MT_placeIfZero, .code y_MT_placeIfZero prog_4_method_20_code 3 (some .int), .methodLink "GateStackLaw" 44 y_GS_stop, .instanceMethod y_GS_stop, .selects R_GS y_GS_stop y_GS_stop, .code y_GS_stop prog_1_method_9_code 1 (some .int), .methodLink "GateStackLaw" 48 y_GS_set, .instanceMethod y_GS_set, .selects R_GS y_GS_set y_GS_set, .code y_GS_set prog_1_method_10_code 3 (some .int), .methodLink R_GS 107 y_CA_assign, .methodLink "GateStackLaw" 52 y_GS_get, .instanceMethod y_GS_get, .selects R_GS y_GS_get y_GS_get, .code y_GS_get prog_1_method_11_code 2 (some .long), .methodLink R_GS 111 y_GS_isVariableNumber, .methodLink R_GS 114 y_CA_variable, .instanceMethod y_CA_variable, .selects R_CA y_CA_variable y_CA_variable, .code y_CA_variable prog_2_method_3_code 2 (some .int), .constantLong R_GS 117 (-1000000000000), .methodLink "GateStackLaw" 57 y_GS_output, .instanceMethod y_GS_output, .selects R_GS y_GS_output y_GS_output, .code y_GS_output prog_1_method_12_code 2 (some .long), .methodLink R_GS 119 y_MA_hasKept, .instanceMethod y_MA_hasKept, .selects R_MA y_MA_hasKept y_MA_hasKept, .code y_MA_hasKept prog_3_method_5_code 2 (some .boolean), .methodLink R_GS 122 y_MA_kept, .instanceMethod y_MA_kept, .selects R_MA y_MA_kept y_MA_kept, .code y_MA_kept prog_3_method_6_code 2 (some .int), .methodLink R_MA 28 y_MA_hasKept, .methodLink "GateStackLaw" 61 y_GS_at, .instanceMethod y_GS_at, .selects R_GS y_GS_at y_GS_at, .code y_GS_at prog_1_method_13_code 2 (some .int), .methodLink R_GS 125 y_MA_letterCode, .instanceMethod y_MA_letterCode, .selects R_MA y_MA_letterCode y_MA_letterCode, .code y_MA_letterCode prog_3_method_7_code 1 (some .int), .methodLink R_GS 128 y_MA_statementNumber, .instanceMethod y_MA_statementNumber, .selects R_MA y_MA_statementNumber y_MA_statementNumber, .code y_MA_statementNumber prog_3_method_8_code 3 (some .int), .methodLink R_MA 36 y_MT_numberAt, .instanceMethod y_MT_numberAt, .selects R_MT y_MT_numberAt y_MT_numberAt]
def allW_7 : List Cond := [.code y_MT_numberAt prog_4_method_15_code 2 (some .int), .methodLink R_GS 132 y_MA_depth, .instanceMethod y_MA_depth, .selects R_MA y_MA_depth y_MA_depth, .code y_MA_depth prog_3_method_3_code 1 (some .int), .methodLink R_GS 135 y_MA_outputCount, .instanceMethod y_MA_outputCount, .selects R_MA y_MA_outputCount y_MA_outputCount, .code y_MA_outputCount prog_3_method_4_code 1 (some .int), .methodLink "GateStackLaw" 65 y_GS_operate, .instanceMethod y_GS_operate, .selects R_GS y_GS_operate y_GS_operate, .code y_GS_operate prog_1_method_14_code 4 (some .long), .methodLink R_GS 138 y_GS_worked, .methodLink "GateStackLaw" 70 y_GS_state, .instanceMethod y_GS_state, .selects R_GS y_GS_state y_GS_state, .code y_GS_state prog_1_method_15_code 3 (some .int), .classLink "GateStackLaw" 10 "GateStackModel", .instantiable R_GM 30, .methodLink "GateStackLaw" 12 y_GM_init, .instanceMethod y_GM_init, .code y_GM_init prog_8_method_1_code 2 none, .methodLink R_GM 1 objectInit, .fieldLink R_GM 7 "GateStackModel" "text" "[I", .fieldLink R_GM 13 "GateStackModel" "length" "[I", .fieldLink R_GM 16 "GateStackModel" "compiled" "[Z", .fieldLink R_GM 66 "GateStackModel" "linked" "Z", .fieldLink R_GM 20 "GateStackModel" "open" "[I", .fieldLink R_GM 80 "GateStackModel" "opened" "I", .fieldLink R_GM 84 "GateStackModel" "state" "I", .fieldLink R_GM 90 "GateStackModel" "kind" "I", .fieldLink R_GM 104 "GateStackModel" "digits" "I", .fieldLink R_GM 87 "GateStackModel" "second" "Z", .fieldLink R_GM 23 "GateStackModel" "partner" "[I", .fieldLink R_GM 26 "GateStackModel" "owner" "[I", .fieldLink R_GM 29 "GateStackModel" "kindAt" "[I", .fieldLink R_GM 32 "GateStackModel" "numberAt" "[I", .fieldLink R_GM 35 "GateStackModel" "letterAt" "[I", .fieldLink R_GM 38 "GateStackModel" "body" "[I", .fieldLink R_GM 41 "GateStackModel" "calls" "[I", .fieldLink R_GM 44 "GateStackModel" "variable" "[I", .fieldLink R_GM 47 "GateStackModel" "outputs" "[J", .fieldLink R_GM 159 "GateStackModel" "outputCount" "I", .fieldLink R_GM 70 "GateStackModel" "going" "Z", .fieldLink R_GM 153 "GateStackModel" "place" "I", .fieldLink R_GM 51 "GateStackModel" "behind" "[I", .fieldLink R_GM 156 "GateStackModel" "depth" "I", .fieldLink R_GM 54 "GateStackModel" "value" "[I", .fieldLink R_GM 57 "GateStackModel" "operator" "[I", .fieldLink R_GM 60 "GateStackModel" "base" "[I", .fieldLink R_GM 63 "GateStackModel" "before" "[I", .fieldLink R_GM 139 "GateStackModel" "signs" "I", .fieldLink R_GM 150 "GateStackModel" "end" "I", .laysFinal R_GM "GateStackModel" "text" "[I", .laysFinal R_GM "GateStackModel" "length" "[I", .laysFinal R_GM "GateStackModel" "compiled" "[Z", .lays R_GM "GateStackModel" "linked" "Z", .laysFinal R_GM "GateStackModel" "open" "[I", .lays R_GM "GateStackModel" "opened" "I"]
def allW_8 : List Cond := [.lays R_GM "GateStackModel" "state" "I", .lays R_GM "GateStackModel" "kind" "I", .lays R_GM "GateStackModel" "digits" "I", .lays R_GM "GateStackModel" "second" "Z", .laysFinal R_GM "GateStackModel" "partner" "[I", .laysFinal R_GM "GateStackModel" "owner" "[I", .laysFinal R_GM "GateStackModel" "kindAt" "[I", .laysFinal R_GM "GateStackModel" "numberAt" "[I", .laysFinal R_GM "GateStackModel" "letterAt" "[I", .laysFinal R_GM "GateStackModel" "body" "[I", .laysFinal R_GM "GateStackModel" "calls" "[I", .laysFinal R_GM "GateStackModel" "variable" "[I", .laysFinal R_GM "GateStackModel" "outputs" "[J", .lays R_GM "GateStackModel" "outputCount" "I", .lays R_GM "GateStackModel" "going" "Z", .lays R_GM "GateStackModel" "place" "I", .laysFinal R_GM "GateStackModel" "behind" "[I", .lays R_GM "GateStackModel" "depth" "I", .laysFinal R_GM "GateStackModel" "value" "[I", .laysFinal R_GM "GateStackModel" "operator" "[I", .laysFinal R_GM "GateStackModel" "base" "[I", .laysFinal R_GM "GateStackModel" "before" "[I", .lays R_GM "GateStackModel" "signs" "I", .lays R_GM "GateStackModel" "end" "I", .arrayClass .boolean, .arrayClass .long, .methodLink "GateStackLaw" 17 y_GM_sign, .instanceMethod y_GM_sign, .selects R_GM y_GM_sign y_GM_sign, .code y_GM_sign prog_8_method_4_code 3 (some .int), .methodLink R_GM 73 y_GM_in, .static y_GM_in, .code y_GM_in prog_8_method_2_code 3 (some .boolean), .methodLink R_GM 77 y_GM_unlink, .instanceMethod y_GM_unlink, .code y_GM_unlink prog_8_method_3_code 1 none, .methodLink "GateStackLaw" 22 y_GM_clear, .instanceMethod y_GM_clear, .selects R_GM y_GM_clear y_GM_clear, .code y_GM_clear prog_8_method_5_code 2 (some .int), .methodLink "GateStackLaw" 30 y_GM_fault, .instanceMethod y_GM_fault, .selects R_GM y_GM_fault y_GM_fault, .code y_GM_fault prog_8_method_15_code 3 (some .int), .methodLink R_GM 122 y_GM_stands, .instanceMethod y_GM_stands, .code y_GM_stands prog_8_method_14_code 3 (some .boolean), .methodLink R_GM 93 y_GM_isLetter, .static y_GM_isLetter, .code y_GM_isLetter prog_8_method_7_code 1 (some .boolean), .methodLink R_GM 100 y_GM_push, .instanceMethod y_GM_push, .code y_GM_push prog_8_method_9_code 3 (some .boolean), .methodLink R_GM 113 y_GM_atStatement, .instanceMethod y_GM_atStatement, .code y_GM_atStatement prog_8_method_11_code 3 (some .boolean), .methodLink R_GM 97 y_GM_isVariable, .static y_GM_isVariable, .code y_GM_isVariable prog_8_method_6_code 1 (some .boolean), .methodLink R_GM 116 y_GM_atOperand]
def allW_9 : List Cond := [.instanceMethod y_GM_atOperand, .code y_GM_atOperand prog_8_method_12_code 3 (some .boolean), .methodLink R_GM 107 y_GM_operandEnds, .instanceMethod y_GM_operandEnds, .code y_GM_operandEnds prog_8_method_10_code 1 none, .methodLink R_GM 119 y_GM_afterOperand, .instanceMethod y_GM_afterOperand, .code y_GM_afterOperand prog_8_method_13_code 3 (some .boolean), .methodLink R_GM 110 y_GM_isOperator, .static y_GM_isOperator, .code y_GM_isOperator prog_8_method_8_code 1 (some .boolean), .methodLink "GateStackLaw" 26 y_GM_compile, .instanceMethod y_GM_compile, .selects R_GM y_GM_compile y_GM_compile, .code y_GM_compile prog_8_method_18_code 2 (some .int), .methodLink R_GM 125 y_GM_fault, .methodLink R_GM 129 y_GM_twice, .instanceMethod y_GM_twice, .code y_GM_twice prog_8_method_17_code 6 (some .boolean), .methodLink R_GM 132 y_GM_map, .instanceMethod y_GM_map, .code y_GM_map prog_8_method_16_code 11 (some .int), .methodLink "GateStackLaw" 35 y_GM_link, .instanceMethod y_GM_link, .selects R_GM y_GM_link y_GM_link, .code y_GM_link prog_8_method_20_code 7 (some .int), .methodLink R_GM 135 y_GM_gather, .instanceMethod y_GM_gather, .code y_GM_gather prog_8_method_19_code 7 (some .boolean), .methodLink "GateStackLaw" 39 y_GM_start, .instanceMethod y_GM_start, .selects R_GM y_GM_start y_GM_start, .code y_GM_start prog_8_method_25_code 1 (some .int), .methodLink R_GM 162 y_GM_settle, .instanceMethod y_GM_settle, .code y_GM_settle prog_8_method_24_code 3 none, .methodLink "GateStackLaw" 43 y_GM_run, .instanceMethod y_GM_run, .selects R_GM y_GM_run y_GM_run, .code y_GM_run prog_8_method_28_code 3 (some .int), .methodLink R_GM 172 y_GM_step, .instanceMethod y_GM_step, .code y_GM_step prog_8_method_27_code 3 none, .methodLink R_GM 168 y_GM_branch, .instanceMethod y_GM_branch, .code y_GM_branch prog_8_method_26_code 5 none, .methodLink R_GM 165 y_GM_work, .instanceMethod y_GM_work, .code y_GM_work prog_8_method_23_code 7 (some .int), .methodLink R_GM 146 y_GM_operand, .instanceMethod y_GM_operand, .code y_GM_operand prog_8_method_22_code 4 none, .methodLink R_GM 142 y_GM_apply, .static y_GM_apply, .code y_GM_apply prog_8_method_21_code 3 (some .int), .methodLink "GateStackLaw" 47 y_GM_stop, .instanceMethod y_GM_stop, .selects R_GM y_GM_stop y_GM_stop, .code y_GM_stop prog_8_method_29_code 1 (some .int), .methodLink "GateStackLaw" 51 y_GM_set]
def allW_10 : List Cond := [.instanceMethod y_GM_set, .selects R_GM y_GM_set y_GM_set, .code y_GM_set prog_8_method_30_code 3 (some .int), .methodLink "GateStackLaw" 56 y_GM_get, .instanceMethod y_GM_get, .selects R_GM y_GM_get y_GM_get, .code y_GM_get prog_8_method_31_code 2 (some .long), .constantLong R_GM 175 (-1000000000000), .methodLink "GateStackLaw" 60 y_GM_output, .instanceMethod y_GM_output, .selects R_GM y_GM_output y_GM_output, .code y_GM_output prog_8_method_32_code 2 (some .long), .methodLink "GateStackLaw" 64 y_GM_at, .instanceMethod y_GM_at, .selects R_GM y_GM_at y_GM_at, .code y_GM_at prog_8_method_33_code 2 (some .int), .methodLink "GateStackLaw" 69 y_GM_operate, .instanceMethod y_GM_operate, .selects R_GM y_GM_operate y_GM_operate, .code y_GM_operate prog_8_method_34_code 5 (some .long), .methodLink "GateStackLaw" 73 y_GM_state, .instanceMethod y_GM_state, .selects R_GM y_GM_state y_GM_state, .code y_GM_state prog_8_method_35_code 3 (some .int), .selects R_GS y_GS_loosen y_GS_loosen, .selects R_RD y_RD_takes y_RD_takes, .selects R_RD y_RD_takesProcedure y_RD_takesProcedure, .selects R_RD y_RD_begins y_RD_begins, .selects R_RD y_RD_expects y_RD_expects, .selects R_RD y_RD_opens y_RD_opens, .selects R_RD y_RD_takesStatement y_RD_takesStatement, .selects R_RD y_RD_closesBlock y_RD_closesBlock, .selects R_MT y_MT_isPlace y_MT_isPlace, .selects R_RD y_RD_takesOperand y_RD_takesOperand, .selects R_RD y_RD_endsOperand y_RD_endsOperand, .selects R_RD y_RD_lastOpen y_RD_lastOpen, .selects R_RD y_RD_takesDigit y_RD_takesDigit, .selects R_RD y_RD_takesOperator y_RD_takesOperator, .selects R_PR y_PR_forget y_PR_forget, .selects R_PR y_PR_takeOver y_PR_takeOver, .selects R_PR y_PR_lacksOne y_PR_lacksOne, .selects R_PR y_PR_followChains y_PR_followChains, .selects R_PR y_PR_hasCircle y_PR_hasCircle, .selects R_MA y_MA_enter y_MA_enter, .selects R_MA y_MA_leaveEndedBlocks y_MA_leaveEndedBlocks, .selects R_MA y_MA_currentText y_MA_currentText, .selects R_MT y_MT_behindEndOf y_MT_behindEndOf, .selects R_MA y_MA_placeBehind y_MA_placeBehind, .selects R_CA y_CA_expression y_CA_expression, .selects R_CA y_CA_operand y_CA_operand, .selects R_CA y_CA_number y_CA_number, .selects R_MA y_MA_keep y_MA_keep, .selects R_GM y_GM_unlink y_GM_unlink, .selects R_GM y_GM_stands y_GM_stands, .selects R_GM y_GM_push y_GM_push, .selects R_GM y_GM_atStatement y_GM_atStatement, .selects R_GM y_GM_atOperand y_GM_atOperand, .selects R_GM y_GM_operandEnds y_GM_operandEnds, .selects R_GM y_GM_afterOperand y_GM_afterOperand, .selects R_GM y_GM_twice y_GM_twice]
def allW_11 : List Cond := [.selects R_GM y_GM_map y_GM_map, .selects R_GM y_GM_gather y_GM_gather, .selects R_GM y_GM_settle y_GM_settle, .selects R_GM y_GM_step y_GM_step, .selects R_GM y_GM_branch y_GM_branch, .selects R_GM y_GM_work y_GM_work, .selects R_GM y_GM_operand y_GM_operand]
def allW : List Cond := allW_0 ++ allW_1 ++ allW_2 ++ allW_3 ++ allW_4 ++ allW_5 ++ allW_6 ++ allW_7 ++ allW_8 ++ allW_9 ++ allW_10 ++ allW_11
theorem kw0 : (Cond.initialized "GateStackLaw" : Cond) ∈ allW := (List.mem_append_left _ (List.mem_append_left _ (List.mem_append_left _ (List.mem_append_left _ (List.mem_append_left _ (List.mem_append_left _ (List.mem_append_left _ (List.mem_append_left _ (List.mem_append_left _ (List.mem_append_left _ (List.mem_append_left _ (List.mem_of_getElem? (i := 0) (l := allW_0) rfl))))))))))))
theorem kw1 : (Cond.initialized R_GS : Cond) ∈ allW := (List.mem_append_left _ (List.mem_append_left _ (List.mem_append_left _ (List.mem_append_left _ (List.mem_append_left _ (List.mem_append_left _ (List.mem_append_left _ (List.mem_append_left _ (List.mem_append_left _ (List.mem_append_left _ (List.mem_append_left _ (List.mem_of_getElem? (i := 1) (l := allW_0) rfl))))))))))))
theorem kw2 : (Cond.initialized R_MT : Cond) ∈ allW := (List.mem_append_left _ (List.mem_append_left _ (List.mem_append_left _ (List.mem_append_left _ (List.mem_append_left _ (List.mem_append_left _ (List.mem_append_left _ (List.mem_append_left _ (List.mem_append_left _ (List.mem_append_left _ (List.mem_append_left _ (List.mem_of_getElem? (i := 2) (l := allW_0) rfl))))))))))))
theorem kw3 : (Cond.initialized R_RD : Cond) ∈ allW := (List.mem_append_left _ (List.mem_append_left _ (List.mem_append_left _ (List.mem_append_left _ (List.mem_append_left _ (List.mem_append_left _ (List.mem_append_left _ (List.mem_append_left _ (List.mem_append_left _ (List.mem_append_left _ (List.mem_append_left _ (List.mem_of_getElem? (i := 3) (l := allW_0) rfl))))))))))))
theorem kw4 : (Cond.initialized R_PR : Cond) ∈ allW := (List.mem_append_left _ (List.mem_append_left _ (List.mem_append_left _ (List.mem_append_left _ (List.mem_append_left _ (List.mem_append_left _ (List.mem_append_left _ (List.mem_append_left _ (List.mem_append_left _ (List.mem_append_left _ (List.mem_append_left _ (List.mem_of_getElem? (i := 4) (l := allW_0) rfl))))))))))))
theorem kw5 : (Cond.initialized R_CA : Cond) ∈ allW := (List.mem_append_left _ (List.mem_append_left _ (List.mem_append_left _ (List.mem_append_left _ (List.mem_append_left _ (List.mem_append_left _ (List.mem_append_left _ (List.mem_append_left _ (List.mem_append_left _ (List.mem_append_left _ (List.mem_append_left _ (List.mem_of_getElem? (i := 5) (l := allW_0) rfl))))))))))))
theorem kw6 : (Cond.initialized R_MA : Cond) ∈ allW := (List.mem_append_left _ (List.mem_append_left _ (List.mem_append_left _ (List.mem_append_left _ (List.mem_append_left _ (List.mem_append_left _ (List.mem_append_left _ (List.mem_append_left _ (List.mem_append_left _ (List.mem_append_left _ (List.mem_append_left _ (List.mem_of_getElem? (i := 6) (l := allW_0) rfl))))))))))))
theorem kw7 : (Cond.initialized R_GM : Cond) ∈ allW := (List.mem_append_left _ (List.mem_append_left _ (List.mem_append_left _ (List.mem_append_left _ (List.mem_append_left _ (List.mem_append_left _ (List.mem_append_left _ (List.mem_append_left _ (List.mem_append_left _ (List.mem_append_left _ (List.mem_append_left _ (List.mem_of_getElem? (i := 7) (l := allW_0) rfl))))))))))))
theorem kw8 : (Cond.initialized R_JI : Cond) ∈ allW := (List.mem_append_left _ (List.mem_append_left _ (List.mem_append_left _ (List.mem_append_left _ (List.mem_append_left _ (List.mem_append_left _ (List.mem_append_left _ (List.mem_append_left _ (List.mem_append_left _ (List.mem_append_left _ (List.mem_append_left _ (List.mem_of_getElem? (i := 8) (l := allW_0) rfl))))))))))))
theorem kw9 : (Cond.classLink "GateStackLaw" 7 "GateStack" : Cond) ∈ allW := (List.mem_append_left _ (List.mem_append_left _ (List.mem_append_left _ (List.mem_append_left _ (List.mem_append_left _ (List.mem_append_left _ (List.mem_append_left _ (List.mem_append_left _ (List.mem_append_left _ (List.mem_append_left _ (List.mem_append_left _ (List.mem_of_getElem? (i := 9) (l := allW_0) rfl))))))))))))
theorem kw10 : (Cond.instantiable R_GS 6 : Cond) ∈ allW := (List.mem_append_left _ (List.mem_append_left _ (List.mem_append_left _ (List.mem_append_left _ (List.mem_append_left _ (List.mem_append_left _ (List.mem_append_left _ (List.mem_append_left _ (List.mem_append_left _ (List.mem_append_left _ (List.mem_append_left _ (List.mem_of_getElem? (i := 10) (l := allW_0) rfl))))))))))))
theorem kw11 : (Cond.methodLink "GateStackLaw" 9 y_GS_init : Cond) ∈ allW := (List.mem_append_left _ (List.mem_append_left _ (List.mem_append_left _ (List.mem_append_left _ (List.mem_append_left _ (List.mem_append_left _ (List.mem_append_left _ (List.mem_append_left _ (List.mem_append_left _ (List.mem_append_left _ (List.mem_append_left _ (List.mem_of_getElem? (i := 11) (l := allW_0) rfl))))))))))))
theorem kw12 : (Cond.instanceMethod y_GS_init : Cond) ∈ allW := (List.mem_append_left _ (List.mem_append_left _ (List.mem_append_left _ (List.mem_append_left _ (List.mem_append_left _ (List.mem_append_left _ (List.mem_append_left _ (List.mem_append_left _ (List.mem_append_left _ (List.mem_append_left _ (List.mem_append_left _ (List.mem_of_getElem? (i := 12) (l := allW_0) rfl))))))))))))
theorem kw13 : (Cond.code y_GS_init prog_1_method_1_code 2 none : Cond) ∈ allW := (List.mem_append_left _ (List.mem_append_left _ (List.mem_append_left _ (List.mem_append_left _ (List.mem_append_left _ (List.mem_append_left _ (List.mem_append_left _ (List.mem_append_left _ (List.mem_append_left _ (List.mem_append_left _ (List.mem_append_left _ (List.mem_of_getElem? (i := 13) (l := allW_0) rfl))))))))))))
theorem kw14 : (Cond.methodLink R_GS 1 objectInit : Cond) ∈ allW := (List.mem_append_left _ (List.mem_append_left _ (List.mem_append_left _ (List.mem_append_left _ (List.mem_append_left _ (List.mem_append_left _ (List.mem_append_left _ (List.mem_append_left _ (List.mem_append_left _ (List.mem_append_left _ (List.mem_append_left _ (List.mem_of_getElem? (i := 14) (l := allW_0) rfl))))))))))))
theorem kw15 : (Cond.instanceMethod objectInit : Cond) ∈ allW := (List.mem_append_left _ (List.mem_append_left _ (List.mem_append_left _ (List.mem_append_left _ (List.mem_append_left _ (List.mem_append_left _ (List.mem_append_left _ (List.mem_append_left _ (List.mem_append_left _ (List.mem_append_left _ (List.mem_append_left _ (List.mem_of_getElem? (i := 15) (l := allW_0) rfl))))))))))))
theorem kw16 : (Cond.code objectInit object_method_1_code 1 none : Cond) ∈ allW := (List.mem_append_left _ (List.mem_append_left _ (List.mem_append_left _ (List.mem_append_left _ (List.mem_append_left _ (List.mem_append_left _ (List.mem_append_left _ (List.mem_append_left _ (List.mem_append_left _ (List.mem_append_left _ (List.mem_append_left _ (List.mem_of_getElem? (i := 16) (l := allW_0) rfl))))))))))))
theorem kw17 : (Cond.classLink R_GS 9 "GateStack$ModuleText" : Cond) ∈ allW := (List.mem_append_left _ (List.mem_append_left _ (List.mem_append_left _ (List.mem_append_left _ (List.mem_append_left _ (List.mem_append_left _ (List.mem_append_left _ (List.mem_append_left _ (List.mem_append_left _ (List.mem_append_left _ (List.mem_append_left _ (List.mem_of_getElem? (i := 17) (l := allW_0) rfl))))))))))))
theorem kw18 : (Cond.instantiable R_MT 10 : Cond) ∈ allW := (List.mem_append_left _ (List.mem_append_left _ (List.mem_append_left _ (List.mem_append_left _ (List.mem_append_left _ (List.mem_append_left _ (List.mem_append_left _ (List.mem_append_left _ (List.mem_append_left _ (List.mem_append_left _ (List.mem_append_left _ (List.mem_of_getElem? (i := 18) (l := allW_0) rfl))))))))))))
theorem kw19 : (Cond.instanceMethod y_MT_init : Cond) ∈ allW := (List.mem_append_left _ (List.mem_append_left _ (List.mem_append_left _ (List.mem_append_left _ (List.mem_append_left _ (List.mem_append_left _ (List.mem_append_left _ (List.mem_append_left _ (List.mem_append_left _ (List.mem_append_left _ (List.mem_append_left _ (List.mem_of_getElem? (i := 19) (l := allW_0) rfl))))))))))))
theorem kw20 : (Cond.code y_MT_init prog_4_method_1_code 1 none : Cond) ∈ allW := (List.mem_append_left _ (List.mem_append_left _ (List.mem_append_left _ (List.mem_append_left _ (List.mem_append_left _ (List.mem_append_left _ (List.mem_append_left _ (List.mem_append_left _ (List.mem_append_left _ (List.mem_append_left _ (List.mem_append_left _ (List.mem_of_getElem? (i := 20) (l := allW_0) rfl))))))))))))
theorem kw21 : (Cond.methodLink R_MT 3 objectInit : Cond) ∈ allW := (List.mem_append_left _ (List.mem_append_left _ (List.mem_append_left _ (List.mem_append_left _ (List.mem_append_left _ (List.mem_append_left _ (List.mem_append_left _ (List.mem_append_left _ (List.mem_append_left _ (List.mem_append_left _ (List.mem_append_left _ (List.mem_of_getElem? (i := 21) (l := allW_0) rfl))))))))))))
theorem kw22 : (Cond.fieldLink R_MT 9 "GateStack$ModuleText" "signs" "[I" : Cond) ∈ allW := (List.mem_append_left _ (List.mem_append_left _ (List.mem_append_left _ (List.mem_append_left _ (List.mem_append_left _ (List.mem_append_left _ (List.mem_append_left _ (List.mem_append_left _ (List.mem_append_left _ (List.mem_append_left _ (List.mem_append_left _ (List.mem_of_getElem? (i := 22) (l := allW_0) rfl))))))))))))
theorem kw23 : (Cond.fieldLink R_MT 15 "GateStack$ModuleText" "numbers" "[I" : Cond) ∈ allW := (List.mem_append_left _ (List.mem_append_left _ (List.mem_append_left _ (List.mem_append_left _ (List.mem_append_left _ (List.mem_append_left _ (List.mem_append_left _ (List.mem_append_left _ (List.mem_append_left _ (List.mem_append_left _ (List.mem_append_left _ (List.mem_of_getElem? (i := 23) (l := allW_0) rfl))))))))))))
theorem kw24 : (Cond.fieldLink R_MT 18 "GateStack$ModuleText" "heads" "[I" : Cond) ∈ allW := (List.mem_append_left _ (List.mem_append_left _ (List.mem_append_left _ (List.mem_append_left _ (List.mem_append_left _ (List.mem_append_left _ (List.mem_append_left _ (List.mem_append_left _ (List.mem_append_left _ (List.mem_append_left _ (List.mem_append_left _ (List.mem_of_getElem? (i := 24) (l := allW_0) rfl))))))))))))
theorem kw25 : (Cond.fieldLink R_MT 21 "GateStack$ModuleText" "ends" "[I" : Cond) ∈ allW := (List.mem_append_left _ (List.mem_append_left _ (List.mem_append_left _ (List.mem_append_left _ (List.mem_append_left _ (List.mem_append_left _ (List.mem_append_left _ (List.mem_append_left _ (List.mem_append_left _ (List.mem_append_left _ (List.mem_append_left _ (List.mem_of_getElem? (i := 25) (l := allW_0) rfl))))))))))))
theorem kw26 : (Cond.fieldLink R_MT 24 "GateStack$ModuleText" "begins" "[I" : Cond) ∈ allW := (List.mem_append_left _ (List.mem_append_left _ (List.mem_append_left _ (List.mem_append_left _ (List.mem_append_left _ (List.mem_append_left _ (List.mem_append_left _ (List.mem_append_left _ (List.mem_append_left _ (List.mem_append_left _ (List.mem_append_left _ (List.mem_of_getElem? (i := 26) (l := allW_0) rfl))))))))))))
theorem kw27 : (Cond.fieldLink R_MT 27 "GateStack$ModuleText" "calls" "[I" : Cond) ∈ allW := (List.mem_append_left _ (List.mem_append_left _ (List.mem_append_left _ (List.mem_append_left _ (List.mem_append_left _ (List.mem_append_left _ (List.mem_append_left _ (List.mem_append_left _ (List.mem_append_left _ (List.mem_append_left _ (List.mem_append_left _ (List.mem_of_getElem? (i := 27) (l := allW_0) rfl))))))))))))
theorem kw28 : (Cond.fieldLink R_MT 34 "GateStack$ModuleText" "length" "I" : Cond) ∈ allW := (List.mem_append_left _ (List.mem_append_left _ (List.mem_append_left _ (List.mem_append_left _ (List.mem_append_left _ (List.mem_append_left _ (List.mem_append_left _ (List.mem_append_left _ (List.mem_append_left _ (List.mem_append_left _ (List.mem_append_left _ (List.mem_of_getElem? (i := 28) (l := allW_0) rfl))))))))))))
theorem kw29 : (Cond.fieldLink R_MT 41 "GateStack$ModuleText" "defined" "I" : Cond) ∈ allW := (List.mem_append_left _ (List.mem_append_left _ (List.mem_append_left _ (List.mem_append_left _ (List.mem_append_left _ (List.mem_append_left _ (List.mem_append_left _ (List.mem_append_left _ (List.mem_append_left _ (List.mem_append_left _ (List.mem_append_left _ (List.mem_of_getElem? (i := 29) (l := allW_0) rfl))))))))))))
theorem kw30 : (Cond.fieldLink R_MT 44 "GateStack$ModuleText" "twins" "Z" : Cond) ∈ allW := (List.mem_append_left _ (List.mem_append_left _ (List.mem_append_left _ (List.mem_append_left _ (List.mem_append_left _ (List.mem_append_left _ (List.mem_append_left _ (List.mem_append_left _ (List.mem_append_left _ (List.mem_append_left _ (List.mem_append_left _ (List.mem_of_getElem? (i := 30) (l := allW_0) rfl))))))))))))
theorem kw31 : (Cond.fieldLink R_MT 30 "GateStack$ModuleText" "compiled" "Z" : Cond) ∈ allW := (List.mem_append_left _ (List.mem_append_left _ (List.mem_append_left _ (List.mem_append_left _ (List.mem_append_left _ (List.mem_append_left _ (List.mem_append_left _ (List.mem_append_left _ (List.mem_append_left _ (List.mem_append_left _ (List.mem_append_left _ (List.mem_of_getElem? (i := 31) (l := allW_0) rfl))))))))))))
theorem kw32 : (Cond.laysFinal R_MT "GateStack$ModuleText" "signs" "[I" : Cond) ∈ allW := (List.mem_append_left _ (List.mem_append_left _ (List.mem_append_left _ (List.mem_append_left _ (List.mem_append_left _ (List.mem_append_left _ (List.mem_append_left _ (List.mem_append_left _ (List.mem_append_left _ (List.mem_append_left _ (List.mem_append_left _ (List.mem_of_getElem? (i := 32) (l := allW_0) rfl))))))))))))
theorem kw33 : (Cond.laysFinal R_MT "GateStack$ModuleText" "numbers" "[I" : Cond) ∈ allW := (List.mem_append_left _ (List.mem_append_left _ (List.mem_append_left _ (List.mem_append_left _ (List.mem_append_left _ (List.mem_append_left _ (List.mem_append_left _ (List.mem_append_left _ (List.mem_append_left _ (List.mem_append_left _ (List.mem_append_left _ (List.mem_of_getElem? (i := 33) (l := allW_0) rfl))))))))))))
theorem kw34 : (Cond.laysFinal R_MT "GateStack$ModuleText" "heads" "[I" : Cond) ∈ allW := (List.mem_append_left _ (List.mem_append_left _ (List.mem_append_left _ (List.mem_append_left _ (List.mem_append_left _ (List.mem_append_left _ (List.mem_append_left _ (List.mem_append_left _ (List.mem_append_left _ (List.mem_append_left _ (List.mem_append_left _ (List.mem_of_getElem? (i := 34) (l := allW_0) rfl))))))))))))
theorem kw35 : (Cond.laysFinal R_MT "GateStack$ModuleText" "ends" "[I" : Cond) ∈ allW := (List.mem_append_left _ (List.mem_append_left _ (List.mem_append_left _ (List.mem_append_left _ (List.mem_append_left _ (List.mem_append_left _ (List.mem_append_left _ (List.mem_append_left _ (List.mem_append_left _ (List.mem_append_left _ (List.mem_append_left _ (List.mem_of_getElem? (i := 35) (l := allW_0) rfl))))))))))))
theorem kw36 : (Cond.laysFinal R_MT "GateStack$ModuleText" "begins" "[I" : Cond) ∈ allW := (List.mem_append_left _ (List.mem_append_left _ (List.mem_append_left _ (List.mem_append_left _ (List.mem_append_left _ (List.mem_append_left _ (List.mem_append_left _ (List.mem_append_left _ (List.mem_append_left _ (List.mem_append_left _ (List.mem_append_left _ (List.mem_of_getElem? (i := 36) (l := allW_0) rfl))))))))))))
theorem kw37 : (Cond.laysFinal R_MT "GateStack$ModuleText" "calls" "[I" : Cond) ∈ allW := (List.mem_append_left _ (List.mem_append_left _ (List.mem_append_left _ (List.mem_append_left _ (List.mem_append_left _ (List.mem_append_left _ (List.mem_append_left _ (List.mem_append_left _ (List.mem_append_left _ (List.mem_append_left _ (List.mem_append_left _ (List.mem_of_getElem? (i := 37) (l := allW_0) rfl))))))))))))
theorem kw38 : (Cond.lays R_MT "GateStack$ModuleText" "length" "I" : Cond) ∈ allW := (List.mem_append_left _ (List.mem_append_left _ (List.mem_append_left _ (List.mem_append_left _ (List.mem_append_left _ (List.mem_append_left _ (List.mem_append_left _ (List.mem_append_left _ (List.mem_append_left _ (List.mem_append_left _ (List.mem_append_left _ (List.mem_of_getElem? (i := 38) (l := allW_0) rfl))))))))))))
theorem kw39 : (Cond.lays R_MT "GateStack$ModuleText" "defined" "I" : Cond) ∈ allW := (List.mem_append_left _ (List.mem_append_left _ (List.mem_append_left _ (List.mem_append_left _ (List.mem_append_left _ (List.mem_append_left _ (List.mem_append_left _ (List.mem_append_left _ (List.mem_append_left _ (List.mem_append_left _ (List.mem_append_left _ (List.mem_of_getElem? (i := 39) (l := allW_0) rfl))))))))))))
theorem kw40 : (Cond.lays R_MT "GateStack$ModuleText" "twins" "Z" : Cond) ∈ allW := (List.mem_append_left _ (List.mem_append_left _ (List.mem_append_left _ (List.mem_append_left _ (List.mem_append_left _ (List.mem_append_left _ (List.mem_append_left _ (List.mem_append_left _ (List.mem_append_left _ (List.mem_append_left _ (List.mem_append_left _ (List.mem_of_getElem? (i := 40) (l := allW_0) rfl))))))))))))
theorem kw41 : (Cond.lays R_MT "GateStack$ModuleText" "compiled" "Z" : Cond) ∈ allW := (List.mem_append_left _ (List.mem_append_left _ (List.mem_append_left _ (List.mem_append_left _ (List.mem_append_left _ (List.mem_append_left _ (List.mem_append_left _ (List.mem_append_left _ (List.mem_append_left _ (List.mem_append_left _ (List.mem_append_left _ (List.mem_of_getElem? (i := 41) (l := allW_0) rfl))))))))))))
theorem kw42 : (Cond.arrayClass .int : Cond) ∈ allW := (List.mem_append_left _ (List.mem_append_left _ (List.mem_append_left _ (List.mem_append_left _ (List.mem_append_left _ (List.mem_append_left _ (List.mem_append_left _ (List.mem_append_left _ (List.mem_append_left _ (List.mem_append_left _ (List.mem_append_left _ (List.mem_of_getElem? (i := 42) (l := allW_0) rfl))))))))))))
theorem kw43 : (Cond.classLink R_GS 16 "GateStack$Reader" : Cond) ∈ allW := (List.mem_append_left _ (List.mem_append_left _ (List.mem_append_left _ (List.mem_append_left _ (List.mem_append_left _ (List.mem_append_left _ (List.mem_append_left _ (List.mem_append_left _ (List.mem_append_left _ (List.mem_append_left _ (List.mem_append_left _ (List.mem_of_getElem? (i := 43) (l := allW_0) rfl))))))))))))
theorem kw44 : (Cond.instantiable R_RD 8 : Cond) ∈ allW := (List.mem_append_left _ (List.mem_append_left _ (List.mem_append_left _ (List.mem_append_left _ (List.mem_append_left _ (List.mem_append_left _ (List.mem_append_left _ (List.mem_append_left _ (List.mem_append_left _ (List.mem_append_left _ (List.mem_append_left _ (List.mem_of_getElem? (i := 44) (l := allW_0) rfl))))))))))))
theorem kw45 : (Cond.instanceMethod y_RD_init : Cond) ∈ allW := (List.mem_append_left _ (List.mem_append_left _ (List.mem_append_left _ (List.mem_append_left _ (List.mem_append_left _ (List.mem_append_left _ (List.mem_append_left _ (List.mem_append_left _ (List.mem_append_left _ (List.mem_append_left _ (List.mem_append_left _ (List.mem_of_getElem? (i := 45) (l := allW_0) rfl))))))))))))
theorem kw46 : (Cond.code y_RD_init prog_6_method_1_code 1 none : Cond) ∈ allW := (List.mem_append_left _ (List.mem_append_left _ (List.mem_append_left _ (List.mem_append_left _ (List.mem_append_left _ (List.mem_append_left _ (List.mem_append_left _ (List.mem_append_left _ (List.mem_append_left _ (List.mem_append_left _ (List.mem_append_left _ (List.mem_of_getElem? (i := 46) (l := allW_0) rfl))))))))))))
theorem kw47 : (Cond.methodLink R_RD 3 objectInit : Cond) ∈ allW := (List.mem_append_left _ (List.mem_append_left _ (List.mem_append_left _ (List.mem_append_left _ (List.mem_append_left _ (List.mem_append_left _ (List.mem_append_left _ (List.mem_append_left _ (List.mem_append_left _ (List.mem_append_left _ (List.mem_append_left _ (List.mem_of_getElem? (i := 47) (l := allW_0) rfl))))))))))))
theorem kw48 : (Cond.fieldLink R_RD 9 "GateStack$Reader" "open" "[I" : Cond) ∈ allW := (List.mem_append_left _ (List.mem_append_left _ (List.mem_append_left _ (List.mem_append_left _ (List.mem_append_left _ (List.mem_append_left _ (List.mem_append_left _ (List.mem_append_left _ (List.mem_append_left _ (List.mem_append_left _ (List.mem_append_left _ (List.mem_of_getElem? (i := 48) (l := allW_0) rfl))))))))))))
theorem kw49 : (Cond.fieldLink R_RD 20 "GateStack$Reader" "depth" "I" : Cond) ∈ allW := (List.mem_append_left _ (List.mem_append_left _ (List.mem_append_left _ (List.mem_append_left _ (List.mem_append_left _ (List.mem_append_left _ (List.mem_append_left _ (List.mem_append_left _ (List.mem_append_left _ (List.mem_append_left _ (List.mem_append_left _ (List.mem_of_getElem? (i := 49) (l := allW_0) rfl))))))))))))
theorem kw50 : (Cond.fieldLink R_RD 24 "GateStack$Reader" "expected" "I" : Cond) ∈ allW := (List.mem_append_left _ (List.mem_append_left _ (List.mem_append_left _ (List.mem_append_left _ (List.mem_append_left _ (List.mem_append_left _ (List.mem_append_left _ (List.mem_append_left _ (List.mem_append_left _ (List.mem_append_left _ (List.mem_append_left _ (List.mem_of_getElem? (i := 50) (l := allW_0) rfl))))))))))))
theorem kw51 : (Cond.fieldLink R_RD 42 "GateStack$Reader" "head" "I" : Cond) ∈ allW := (List.mem_append_left _ (List.mem_append_left _ (List.mem_append_left _ (List.mem_append_left _ (List.mem_append_left _ (List.mem_append_left _ (List.mem_append_left _ (List.mem_append_left _ (List.mem_append_left _ (List.mem_append_left _ (List.mem_append_left _ (List.mem_of_getElem? (i := 51) (l := allW_0) rfl))))))))))))
theorem kw52 : (Cond.fieldLink R_RD 97 "GateStack$Reader" "expressionEnd" "I" : Cond) ∈ allW := (List.mem_append_left _ (List.mem_append_left _ (List.mem_append_left _ (List.mem_append_left _ (List.mem_append_left _ (List.mem_append_left _ (List.mem_append_left _ (List.mem_append_left _ (List.mem_append_left _ (List.mem_append_left _ (List.mem_append_left _ (List.mem_of_getElem? (i := 52) (l := allW_0) rfl))))))))))))
theorem kw53 : (Cond.fieldLink R_RD 112 "GateStack$Reader" "digits" "I" : Cond) ∈ allW := (List.mem_append_left _ (List.mem_append_left _ (List.mem_append_left _ (List.mem_append_left _ (List.mem_append_left _ (List.mem_append_left _ (List.mem_append_left _ (List.mem_append_left _ (List.mem_append_left _ (List.mem_append_left _ (List.mem_append_left _ (List.mem_of_getElem? (i := 53) (l := allW_0) rfl))))))))))))
theorem kw54 : (Cond.fieldLink R_RD 75 "GateStack$Reader" "procedure" "I" : Cond) ∈ allW := (List.mem_append_left _ (List.mem_append_left _ (List.mem_append_left _ (List.mem_append_left _ (List.mem_append_left _ (List.mem_append_left _ (List.mem_append_left _ (List.mem_append_left _ (List.mem_append_left _ (List.mem_append_left _ (List.mem_append_left _ (List.mem_of_getElem? (i := 54) (l := allW_0) rfl))))))))))))
theorem kw55 : (Cond.fieldLink R_RD 78 "GateStack$Reader" "statements" "I" : Cond) ∈ allW := (List.mem_append_left _ (List.mem_append_left _ (List.mem_append_left _ (List.mem_append_left _ (List.mem_append_left _ (List.mem_append_left _ (List.mem_append_left _ (List.mem_append_left _ (List.mem_append_left _ (List.mem_append_left _ (List.mem_append_left _ (List.mem_of_getElem? (i := 55) (l := allW_0) rfl))))))))))))
theorem kw56 : (Cond.laysFinal R_RD "GateStack$Reader" "open" "[I" : Cond) ∈ allW := (List.mem_append_left _ (List.mem_append_left _ (List.mem_append_left _ (List.mem_append_left _ (List.mem_append_left _ (List.mem_append_left _ (List.mem_append_left _ (List.mem_append_left _ (List.mem_append_left _ (List.mem_append_left _ (List.mem_append_left _ (List.mem_of_getElem? (i := 56) (l := allW_0) rfl))))))))))))
theorem kw57 : (Cond.lays R_RD "GateStack$Reader" "depth" "I" : Cond) ∈ allW := (List.mem_append_left _ (List.mem_append_left _ (List.mem_append_left _ (List.mem_append_left _ (List.mem_append_left _ (List.mem_append_left _ (List.mem_append_left _ (List.mem_append_left _ (List.mem_append_left _ (List.mem_append_left _ (List.mem_append_left _ (List.mem_of_getElem? (i := 57) (l := allW_0) rfl))))))))))))
theorem kw58 : (Cond.lays R_RD "GateStack$Reader" "expected" "I" : Cond) ∈ allW := (List.mem_append_left _ (List.mem_append_left _ (List.mem_append_left _ (List.mem_append_left _ (List.mem_append_left _ (List.mem_append_left _ (List.mem_append_left _ (List.mem_append_left _ (List.mem_append_left _ (List.mem_append_left _ (List.mem_append_left _ (List.mem_of_getElem? (i := 58) (l := allW_0) rfl))))))))))))
theorem kw59 : (Cond.lays R_RD "GateStack$Reader" "head" "I" : Cond) ∈ allW := (List.mem_append_left _ (List.mem_append_left _ (List.mem_append_left _ (List.mem_append_left _ (List.mem_append_left _ (List.mem_append_left _ (List.mem_append_left _ (List.mem_append_left _ (List.mem_append_left _ (List.mem_append_left _ (List.mem_append_left _ (List.mem_of_getElem? (i := 59) (l := allW_0) rfl))))))))))))
theorem kw60 : (Cond.lays R_RD "GateStack$Reader" "expressionEnd" "I" : Cond) ∈ allW := (List.mem_append_left _ (List.mem_append_left _ (List.mem_append_left _ (List.mem_append_left _ (List.mem_append_left _ (List.mem_append_left _ (List.mem_append_left _ (List.mem_append_left _ (List.mem_append_left _ (List.mem_append_left _ (List.mem_append_right _ (List.mem_of_getElem? (i := 0) (l := allW_1) rfl))))))))))))
theorem kw61 : (Cond.lays R_RD "GateStack$Reader" "digits" "I" : Cond) ∈ allW := (List.mem_append_left _ (List.mem_append_left _ (List.mem_append_left _ (List.mem_append_left _ (List.mem_append_left _ (List.mem_append_left _ (List.mem_append_left _ (List.mem_append_left _ (List.mem_append_left _ (List.mem_append_left _ (List.mem_append_right _ (List.mem_of_getElem? (i := 1) (l := allW_1) rfl))))))))))))
theorem kw62 : (Cond.lays R_RD "GateStack$Reader" "procedure" "I" : Cond) ∈ allW := (List.mem_append_left _ (List.mem_append_left _ (List.mem_append_left _ (List.mem_append_left _ (List.mem_append_left _ (List.mem_append_left _ (List.mem_append_left _ (List.mem_append_left _ (List.mem_append_left _ (List.mem_append_left _ (List.mem_append_right _ (List.mem_of_getElem? (i := 2) (l := allW_1) rfl))))))))))))
theorem kw63 : (Cond.lays R_RD "GateStack$Reader" "statements" "I" : Cond) ∈ allW := (List.mem_append_left _ (List.mem_append_left _ (List.mem_append_left _ (List.mem_append_left _ (List.mem_append_left _ (List.mem_append_left _ (List.mem_append_left _ (List.mem_append_left _ (List.mem_append_left _ (List.mem_append_left _ (List.mem_append_right _ (List.mem_of_getElem? (i := 3) (l := allW_1) rfl))))))))))))
theorem kw64 : (Cond.classLink R_GS 23 "GateStack$Program" : Cond) ∈ allW := (List.mem_append_left _ (List.mem_append_left _ (List.mem_append_left _ (List.mem_append_left _ (List.mem_append_left _ (List.mem_append_left _ (List.mem_append_left _ (List.mem_append_left _ (List.mem_append_left _ (List.mem_append_left _ (List.mem_append_right _ (List.mem_of_getElem? (i := 4) (l := allW_1) rfl))))))))))))
theorem kw65 : (Cond.instantiable R_PR 3 : Cond) ∈ allW := (List.mem_append_left _ (List.mem_append_left _ (List.mem_append_left _ (List.mem_append_left _ (List.mem_append_left _ (List.mem_append_left _ (List.mem_append_left _ (List.mem_append_left _ (List.mem_append_left _ (List.mem_append_left _ (List.mem_append_right _ (List.mem_of_getElem? (i := 5) (l := allW_1) rfl))))))))))))
theorem kw66 : (Cond.instanceMethod y_PR_init : Cond) ∈ allW := (List.mem_append_left _ (List.mem_append_left _ (List.mem_append_left _ (List.mem_append_left _ (List.mem_append_left _ (List.mem_append_left _ (List.mem_append_left _ (List.mem_append_left _ (List.mem_append_left _ (List.mem_append_left _ (List.mem_append_right _ (List.mem_of_getElem? (i := 6) (l := allW_1) rfl))))))))))))
theorem kw67 : (Cond.code y_PR_init prog_5_method_1_code 1 none : Cond) ∈ allW := (List.mem_append_left _ (List.mem_append_left _ (List.mem_append_left _ (List.mem_append_left _ (List.mem_append_left _ (List.mem_append_left _ (List.mem_append_left _ (List.mem_append_left _ (List.mem_append_left _ (List.mem_append_left _ (List.mem_append_right _ (List.mem_of_getElem? (i := 7) (l := allW_1) rfl))))))))))))
theorem kw68 : (Cond.methodLink R_PR 3 objectInit : Cond) ∈ allW := (List.mem_append_left _ (List.mem_append_left _ (List.mem_append_left _ (List.mem_append_left _ (List.mem_append_left _ (List.mem_append_left _ (List.mem_append_left _ (List.mem_append_left _ (List.mem_append_left _ (List.mem_append_left _ (List.mem_append_right _ (List.mem_of_getElem? (i := 8) (l := allW_1) rfl))))))))))))
theorem kw69 : (Cond.classLink R_PR 9 "GateStack$ModuleText" : Cond) ∈ allW := (List.mem_append_left _ (List.mem_append_left _ (List.mem_append_left _ (List.mem_append_left _ (List.mem_append_left _ (List.mem_append_left _ (List.mem_append_left _ (List.mem_append_left _ (List.mem_append_left _ (List.mem_append_left _ (List.mem_append_right _ (List.mem_of_getElem? (i := 9) (l := allW_1) rfl))))))))))))
theorem kw70 : (Cond.fieldLink R_PR 11 "GateStack$Program" "homes" "[LGateStack$ModuleText;" : Cond) ∈ allW := (List.mem_append_left _ (List.mem_append_left _ (List.mem_append_left _ (List.mem_append_left _ (List.mem_append_left _ (List.mem_append_left _ (List.mem_append_left _ (List.mem_append_left _ (List.mem_append_left _ (List.mem_append_left _ (List.mem_append_right _ (List.mem_of_getElem? (i := 10) (l := allW_1) rfl))))))))))))
theorem kw71 : (Cond.fieldLink R_PR 17 "GateStack$Program" "reached" "[I" : Cond) ∈ allW := (List.mem_append_left _ (List.mem_append_left _ (List.mem_append_left _ (List.mem_append_left _ (List.mem_append_left _ (List.mem_append_left _ (List.mem_append_left _ (List.mem_append_left _ (List.mem_append_left _ (List.mem_append_left _ (List.mem_append_right _ (List.mem_of_getElem? (i := 11) (l := allW_1) rfl))))))))))))
theorem kw72 : (Cond.fieldLink R_PR 24 "GateStack$Program" "defined" "I" : Cond) ∈ allW := (List.mem_append_left _ (List.mem_append_left _ (List.mem_append_left _ (List.mem_append_left _ (List.mem_append_left _ (List.mem_append_left _ (List.mem_append_left _ (List.mem_append_left _ (List.mem_append_left _ (List.mem_append_left _ (List.mem_append_right _ (List.mem_of_getElem? (i := 12) (l := allW_1) rfl))))))))))))
theorem kw73 : (Cond.laysFinal R_PR "GateStack$Program" "homes" "[LGateStack$ModuleText;" : Cond) ∈ allW := (List.mem_append_left _ (List.mem_append_left _ (List.mem_append_left _ (List.mem_append_left _ (List.mem_append_left _ (List.mem_append_left _ (List.mem_append_left _ (List.mem_append_left _ (List.mem_append_left _ (List.mem_append_left _ (List.mem_append_right _ (List.mem_of_getElem? (i := 13) (l := allW_1) rfl))))))))))))
theorem kw74 : (Cond.laysFinal R_PR "GateStack$Program" "reached" "[I" : Cond) ∈ allW := (List.mem_append_left _ (List.mem_append_left _ (List.mem_append_left _ (List.mem_append_left _ (List.mem_append_left _ (List.mem_append_left _ (List.mem_append_left _ (List.mem_append_left _ (List.mem_append_left _ (List.mem_append_left _ (List.mem_append_right _ (List.mem_of_getElem? (i := 14) (l := allW_1) rfl))))))))))))
theorem kw75 : (Cond.lays R_PR "GateStack$Program" "defined" "I" : Cond) ∈ allW := (List.mem_append_left _ (List.mem_append_left _ (List.mem_append_left _ (List.mem_append_left _ (List.mem_append_left _ (List.mem_append_left _ (List.mem_append_left _ (List.mem_append_left _ (List.mem_append_left _ (List.mem_append_left _ (List.mem_append_right _ (List.mem_of_getElem? (i := 15) (l := allW_1) rfl))))))))))))
theorem kw76 : (Cond.classLink R_GS 30 "GateStack$Calculator" : Cond) ∈ allW := (List.mem_append_left _ (List.mem_append_left _ (List.mem_append_left _ (List.mem_append_left _ (List.mem_append_left _ (List.mem_append_left _ (List.mem_append_left _ (List.mem_append_left _ (List.mem_append_left _ (List.mem_append_left _ (List.mem_append_right _ (List.mem_of_getElem? (i := 16) (l := allW_1) rfl))))))))))))
theorem kw77 : (Cond.instantiable R_CA 2 : Cond) ∈ allW := (List.mem_append_left _ (List.mem_append_left _ (List.mem_append_left _ (List.mem_append_left _ (List.mem_append_left _ (List.mem_append_left _ (List.mem_append_left _ (List.mem_append_left _ (List.mem_append_left _ (List.mem_append_left _ (List.mem_append_right _ (List.mem_of_getElem? (i := 17) (l := allW_1) rfl))))))))))))
theorem kw78 : (Cond.instanceMethod y_CA_init : Cond) ∈ allW := (List.mem_append_left _ (List.mem_append_left _ (List.mem_append_left _ (List.mem_append_left _ (List.mem_append_left _ (List.mem_append_left _ (List.mem_append_left _ (List.mem_append_left _ (List.mem_append_left _ (List.mem_append_left _ (List.mem_append_right _ (List.mem_of_getElem? (i := 18) (l := allW_1) rfl))))))))))))
theorem kw79 : (Cond.code y_CA_init prog_2_method_1_code 1 none : Cond) ∈ allW := (List.mem_append_left _ (List.mem_append_left _ (List.mem_append_left _ (List.mem_append_left _ (List.mem_append_left _ (List.mem_append_left _ (List.mem_append_left _ (List.mem_append_left _ (List.mem_append_left _ (List.mem_append_left _ (List.mem_append_right _ (List.mem_of_getElem? (i := 19) (l := allW_1) rfl))))))))))))
theorem kw80 : (Cond.methodLink R_CA 3 objectInit : Cond) ∈ allW := (List.mem_append_left _ (List.mem_append_left _ (List.mem_append_left _ (List.mem_append_left _ (List.mem_append_left _ (List.mem_append_left _ (List.mem_append_left _ (List.mem_append_left _ (List.mem_append_left _ (List.mem_append_left _ (List.mem_append_right _ (List.mem_of_getElem? (i := 20) (l := allW_1) rfl))))))))))))
theorem kw81 : (Cond.fieldLink R_CA 9 "GateStack$Calculator" "variables" "[I" : Cond) ∈ allW := (List.mem_append_left _ (List.mem_append_left _ (List.mem_append_left _ (List.mem_append_left _ (List.mem_append_left _ (List.mem_append_left _ (List.mem_append_left _ (List.mem_append_left _ (List.mem_append_left _ (List.mem_append_left _ (List.mem_append_right _ (List.mem_of_getElem? (i := 21) (l := allW_1) rfl))))))))))))
theorem kw82 : (Cond.fieldLink R_CA 19 "GateStack$Calculator" "cursor" "I" : Cond) ∈ allW := (List.mem_append_left _ (List.mem_append_left _ (List.mem_append_left _ (List.mem_append_left _ (List.mem_append_left _ (List.mem_append_left _ (List.mem_append_left _ (List.mem_append_left _ (List.mem_append_left _ (List.mem_append_left _ (List.mem_append_right _ (List.mem_of_getElem? (i := 22) (l := allW_1) rfl))))))))))))
theorem kw83 : (Cond.laysFinal R_CA "GateStack$Calculator" "variables" "[I" : Cond) ∈ allW := (List.mem_append_left _ (List.mem_append_left _ (List.mem_append_left _ (List.mem_append_left _ (List.mem_append_left _ (List.mem_append_left _ (List.mem_append_left _ (List.mem_append_left _ (List.mem_append_left _ (List.mem_append_left _ (List.mem_append_right _ (List.mem_of_getElem? (i := 23) (l := allW_1) rfl))))))))))))
theorem kw84 : (Cond.lays R_CA "GateStack$Calculator" "cursor" "I" : Cond) ∈ allW := (List.mem_append_left _ (List.mem_append_left _ (List.mem_append_left _ (List.mem_append_left _ (List.mem_append_left _ (List.mem_append_left _ (List.mem_append_left _ (List.mem_append_left _ (List.mem_append_left _ (List.mem_append_left _ (List.mem_append_right _ (List.mem_of_getElem? (i := 24) (l := allW_1) rfl))))))))))))
theorem kw85 : (Cond.classLink R_GS 37 "GateStack$Machine" : Cond) ∈ allW := (List.mem_append_left _ (List.mem_append_left _ (List.mem_append_left _ (List.mem_append_left _ (List.mem_append_left _ (List.mem_append_left _ (List.mem_append_left _ (List.mem_append_left _ (List.mem_append_left _ (List.mem_append_left _ (List.mem_append_right _ (List.mem_of_getElem? (i := 25) (l := allW_1) rfl))))))))))))
theorem kw86 : (Cond.instantiable R_MA 5 : Cond) ∈ allW := (List.mem_append_left _ (List.mem_append_left _ (List.mem_append_left _ (List.mem_append_left _ (List.mem_append_left _ (List.mem_append_left _ (List.mem_append_left _ (List.mem_append_left _ (List.mem_append_left _ (List.mem_append_left _ (List.mem_append_right _ (List.mem_of_getElem? (i := 26) (l := allW_1) rfl))))))))))))
theorem kw87 : (Cond.instanceMethod y_MA_init : Cond) ∈ allW := (List.mem_append_left _ (List.mem_append_left _ (List.mem_append_left _ (List.mem_append_left _ (List.mem_append_left _ (List.mem_append_left _ (List.mem_append_left _ (List.mem_append_left _ (List.mem_append_left _ (List.mem_append_left _ (List.mem_append_right _ (List.mem_of_getElem? (i := 27) (l := allW_1) rfl))))))))))))
theorem kw88 : (Cond.code y_MA_init prog_3_method_1_code 1 none : Cond) ∈ allW := (List.mem_append_left _ (List.mem_append_left _ (List.mem_append_left _ (List.mem_append_left _ (List.mem_append_left _ (List.mem_append_left _ (List.mem_append_left _ (List.mem_append_left _ (List.mem_append_left _ (List.mem_append_left _ (List.mem_append_right _ (List.mem_of_getElem? (i := 28) (l := allW_1) rfl))))))))))))
theorem kw89 : (Cond.methodLink R_MA 3 objectInit : Cond) ∈ allW := (List.mem_append_left _ (List.mem_append_left _ (List.mem_append_left _ (List.mem_append_left _ (List.mem_append_left _ (List.mem_append_left _ (List.mem_append_left _ (List.mem_append_left _ (List.mem_append_left _ (List.mem_append_left _ (List.mem_append_right _ (List.mem_of_getElem? (i := 29) (l := allW_1) rfl))))))))))))
theorem kw90 : (Cond.fieldLink R_MA 9 "GateStack$Machine" "letters" "[I" : Cond) ∈ allW := (List.mem_append_left _ (List.mem_append_left _ (List.mem_append_left _ (List.mem_append_left _ (List.mem_append_left _ (List.mem_append_left _ (List.mem_append_left _ (List.mem_append_left _ (List.mem_append_left _ (List.mem_append_left _ (List.mem_append_right _ (List.mem_of_getElem? (i := 30) (l := allW_1) rfl))))))))))))
theorem kw91 : (Cond.fieldLink R_MA 15 "GateStack$Machine" "places" "[I" : Cond) ∈ allW := (List.mem_append_left _ (List.mem_append_left _ (List.mem_append_left _ (List.mem_append_left _ (List.mem_append_left _ (List.mem_append_left _ (List.mem_append_left _ (List.mem_append_left _ (List.mem_append_left _ (List.mem_append_left _ (List.mem_append_right _ (List.mem_of_getElem? (i := 31) (l := allW_1) rfl))))))))))))
theorem kw92 : (Cond.fieldLink R_MA 18 "GateStack$Machine" "outputs" "[I" : Cond) ∈ allW := (List.mem_append_left _ (List.mem_append_left _ (List.mem_append_left _ (List.mem_append_left _ (List.mem_append_left _ (List.mem_append_left _ (List.mem_append_left _ (List.mem_append_left _ (List.mem_append_left _ (List.mem_append_left _ (List.mem_append_right _ (List.mem_of_getElem? (i := 32) (l := allW_1) rfl))))))))))))
theorem kw93 : (Cond.fieldLink R_MA 21 "GateStack$Machine" "depth" "I" : Cond) ∈ allW := (List.mem_append_left _ (List.mem_append_left _ (List.mem_append_left _ (List.mem_append_left _ (List.mem_append_left _ (List.mem_append_left _ (List.mem_append_left _ (List.mem_append_left _ (List.mem_append_left _ (List.mem_append_left _ (List.mem_append_right _ (List.mem_of_getElem? (i := 33) (l := allW_1) rfl))))))))))))
theorem kw94 : (Cond.fieldLink R_MA 25 "GateStack$Machine" "outputCount" "I" : Cond) ∈ allW := (List.mem_append_left _ (List.mem_append_left _ (List.mem_append_left _ (List.mem_append_left _ (List.mem_append_left _ (List.mem_append_left _ (List.mem_append_left _ (List.mem_append_left _ (List.mem_append_left _ (List.mem_append_left _ (List.mem_append_right _ (List.mem_of_getElem? (i := 34) (l := allW_1) rfl))))))))))))
theorem kw95 : (Cond.laysFinal R_MA "GateStack$Machine" "letters" "[I" : Cond) ∈ allW := (List.mem_append_left _ (List.mem_append_left _ (List.mem_append_left _ (List.mem_append_left _ (List.mem_append_left _ (List.mem_append_left _ (List.mem_append_left _ (List.mem_append_left _ (List.mem_append_left _ (List.mem_append_left _ (List.mem_append_right _ (List.mem_of_getElem? (i := 35) (l := allW_1) rfl))))))))))))
theorem kw96 : (Cond.laysFinal R_MA "GateStack$Machine" "places" "[I" : Cond) ∈ allW := (List.mem_append_left _ (List.mem_append_left _ (List.mem_append_left _ (List.mem_append_left _ (List.mem_append_left _ (List.mem_append_left _ (List.mem_append_left _ (List.mem_append_left _ (List.mem_append_left _ (List.mem_append_left _ (List.mem_append_right _ (List.mem_of_getElem? (i := 36) (l := allW_1) rfl))))))))))))
theorem kw97 : (Cond.laysFinal R_MA "GateStack$Machine" "outputs" "[I" : Cond) ∈ allW := (List.mem_append_left _ (List.mem_append_left _ (List.mem_append_left _ (List.mem_append_left _ (List.mem_append_left _ (List.mem_append_left _ (List.mem_append_left _ (List.mem_append_left _ (List.mem_append_left _ (List.mem_append_left _ (List.mem_append_right _ (List.mem_of_getElem? (i := 37) (l := allW_1) rfl))))))))))))
theorem kw98 : (Cond.lays R_MA "GateStack$Machine" "depth" "I" : Cond) ∈ allW := (List.mem_append_left _ (List.mem_append_left _ (List.mem_append_left _ (List.mem_append_left _ (List.mem_append_left _ (List.mem_append_left _ (List.mem_append_left _ (List.mem_append_left _ (List.mem_append_left _ (List.mem_append_left _ (List.mem_append_right _ (List.mem_of_getElem? (i := 38) (l := allW_1) rfl))))))))))))
theorem kw99 : (Cond.lays R_MA "GateStack$Machine" "outputCount" "I" : Cond) ∈ allW := (List.mem_append_left _ (List.mem_append_left _ (List.mem_append_left _ (List.mem_append_left _ (List.mem_append_left _ (List.mem_append_left _ (List.mem_append_left _ (List.mem_append_left _ (List.mem_append_left _ (List.mem_append_left _ (List.mem_append_right _ (List.mem_of_getElem? (i := 39) (l := allW_1) rfl))))))))))))
theorem kw100 : (Cond.fieldLink R_GS 11 "GateStack" "modules" "[LGateStack$ModuleText;" : Cond) ∈ allW := (List.mem_append_left _ (List.mem_append_left _ (List.mem_append_left _ (List.mem_append_left _ (List.mem_append_left _ (List.mem_append_left _ (List.mem_append_left _ (List.mem_append_left _ (List.mem_append_left _ (List.mem_append_left _ (List.mem_append_right _ (List.mem_of_getElem? (i := 40) (l := allW_1) rfl))))))))))))
theorem kw101 : (Cond.fieldLink R_GS 19 "GateStack" "reader" "LGateStack$Reader;" : Cond) ∈ allW := (List.mem_append_left _ (List.mem_append_left _ (List.mem_append_left _ (List.mem_append_left _ (List.mem_append_left _ (List.mem_append_left _ (List.mem_append_left _ (List.mem_append_left _ (List.mem_append_left _ (List.mem_append_left _ (List.mem_append_right _ (List.mem_of_getElem? (i := 41) (l := allW_1) rfl))))))))))))
theorem kw102 : (Cond.fieldLink R_GS 26 "GateStack" "program" "LGateStack$Program;" : Cond) ∈ allW := (List.mem_append_left _ (List.mem_append_left _ (List.mem_append_left _ (List.mem_append_left _ (List.mem_append_left _ (List.mem_append_left _ (List.mem_append_left _ (List.mem_append_left _ (List.mem_append_left _ (List.mem_append_left _ (List.mem_append_right _ (List.mem_of_getElem? (i := 42) (l := allW_1) rfl))))))))))))
theorem kw103 : (Cond.fieldLink R_GS 33 "GateStack" "calculator" "LGateStack$Calculator;" : Cond) ∈ allW := (List.mem_append_left _ (List.mem_append_left _ (List.mem_append_left _ (List.mem_append_left _ (List.mem_append_left _ (List.mem_append_left _ (List.mem_append_left _ (List.mem_append_left _ (List.mem_append_left _ (List.mem_append_left _ (List.mem_append_right _ (List.mem_of_getElem? (i := 43) (l := allW_1) rfl))))))))))))
theorem kw104 : (Cond.fieldLink R_GS 40 "GateStack" "machine" "LGateStack$Machine;" : Cond) ∈ allW := (List.mem_append_left _ (List.mem_append_left _ (List.mem_append_left _ (List.mem_append_left _ (List.mem_append_left _ (List.mem_append_left _ (List.mem_append_left _ (List.mem_append_left _ (List.mem_append_left _ (List.mem_append_left _ (List.mem_append_right _ (List.mem_of_getElem? (i := 44) (l := allW_1) rfl))))))))))))
theorem kw105 : (Cond.fieldLink R_GS 44 "GateStack" "linked" "Z" : Cond) ∈ allW := (List.mem_append_left _ (List.mem_append_left _ (List.mem_append_left _ (List.mem_append_left _ (List.mem_append_left _ (List.mem_append_left _ (List.mem_append_left _ (List.mem_append_left _ (List.mem_append_left _ (List.mem_append_left _ (List.mem_append_right _ (List.mem_of_getElem? (i := 45) (l := allW_1) rfl))))))))))))
theorem kw106 : (Cond.laysFinal R_GS "GateStack" "modules" "[LGateStack$ModuleText;" : Cond) ∈ allW := (List.mem_append_left _ (List.mem_append_left _ (List.mem_append_left _ (List.mem_append_left _ (List.mem_append_left _ (List.mem_append_left _ (List.mem_append_left _ (List.mem_append_left _ (List.mem_append_left _ (List.mem_append_left _ (List.mem_append_right _ (List.mem_of_getElem? (i := 46) (l := allW_1) rfl))))))))))))
theorem kw107 : (Cond.laysFinal R_GS "GateStack" "reader" "LGateStack$Reader;" : Cond) ∈ allW := (List.mem_append_left _ (List.mem_append_left _ (List.mem_append_left _ (List.mem_append_left _ (List.mem_append_left _ (List.mem_append_left _ (List.mem_append_left _ (List.mem_append_left _ (List.mem_append_left _ (List.mem_append_left _ (List.mem_append_right _ (List.mem_of_getElem? (i := 47) (l := allW_1) rfl))))))))))))
theorem kw108 : (Cond.laysFinal R_GS "GateStack" "program" "LGateStack$Program;" : Cond) ∈ allW := (List.mem_append_left _ (List.mem_append_left _ (List.mem_append_left _ (List.mem_append_left _ (List.mem_append_left _ (List.mem_append_left _ (List.mem_append_left _ (List.mem_append_left _ (List.mem_append_left _ (List.mem_append_left _ (List.mem_append_right _ (List.mem_of_getElem? (i := 48) (l := allW_1) rfl))))))))))))
theorem kw109 : (Cond.laysFinal R_GS "GateStack" "calculator" "LGateStack$Calculator;" : Cond) ∈ allW := (List.mem_append_left _ (List.mem_append_left _ (List.mem_append_left _ (List.mem_append_left _ (List.mem_append_left _ (List.mem_append_left _ (List.mem_append_left _ (List.mem_append_left _ (List.mem_append_left _ (List.mem_append_left _ (List.mem_append_right _ (List.mem_of_getElem? (i := 49) (l := allW_1) rfl))))))))))))
theorem kw110 : (Cond.laysFinal R_GS "GateStack" "machine" "LGateStack$Machine;" : Cond) ∈ allW := (List.mem_append_left _ (List.mem_append_left _ (List.mem_append_left _ (List.mem_append_left _ (List.mem_append_left _ (List.mem_append_left _ (List.mem_append_left _ (List.mem_append_left _ (List.mem_append_left _ (List.mem_append_left _ (List.mem_append_right _ (List.mem_of_getElem? (i := 50) (l := allW_1) rfl))))))))))))
theorem kw111 : (Cond.lays R_GS "GateStack" "linked" "Z" : Cond) ∈ allW := (List.mem_append_left _ (List.mem_append_left _ (List.mem_append_left _ (List.mem_append_left _ (List.mem_append_left _ (List.mem_append_left _ (List.mem_append_left _ (List.mem_append_left _ (List.mem_append_left _ (List.mem_append_left _ (List.mem_append_right _ (List.mem_of_getElem? (i := 51) (l := allW_1) rfl))))))))))))
theorem kw112 : (Cond.methodLink "GateStackLaw" 13 y_GS_sign : Cond) ∈ allW := (List.mem_append_left _ (List.mem_append_left _ (List.mem_append_left _ (List.mem_append_left _ (List.mem_append_left _ (List.mem_append_left _ (List.mem_append_left _ (List.mem_append_left _ (List.mem_append_left _ (List.mem_append_left _ (List.mem_append_right _ (List.mem_of_getElem? (i := 52) (l := allW_1) rfl))))))))))))
theorem kw113 : (Cond.instanceMethod y_GS_sign : Cond) ∈ allW := (List.mem_append_left _ (List.mem_append_left _ (List.mem_append_left _ (List.mem_append_left _ (List.mem_append_left _ (List.mem_append_left _ (List.mem_append_left _ (List.mem_append_left _ (List.mem_append_left _ (List.mem_append_left _ (List.mem_append_right _ (List.mem_of_getElem? (i := 53) (l := allW_1) rfl))))))))))))
theorem kw114 : (Cond.selects R_GS y_GS_sign y_GS_sign : Cond) ∈ allW := (List.mem_append_left _ (List.mem_append_left _ (List.mem_append_left _ (List.mem_append_left _ (List.mem_append_left _ (List.mem_append_left _ (List.mem_append_left _ (List.mem_append_left _ (List.mem_append_left _ (List.mem_append_left _ (List.mem_append_right _ (List.mem_of_getElem? (i := 54) (l := allW_1) rfl))))))))))))
theorem kw115 : (Cond.code y_GS_sign prog_1_method_2_code 3 (some .int) : Cond) ∈ allW := (List.mem_append_left _ (List.mem_append_left _ (List.mem_append_left _ (List.mem_append_left _ (List.mem_append_left _ (List.mem_append_left _ (List.mem_append_left _ (List.mem_append_left _ (List.mem_append_left _ (List.mem_append_left _ (List.mem_append_right _ (List.mem_of_getElem? (i := 55) (l := allW_1) rfl))))))))))))
theorem kw116 : (Cond.methodLink R_GS 48 y_GS_isModule : Cond) ∈ allW := (List.mem_append_left _ (List.mem_append_left _ (List.mem_append_left _ (List.mem_append_left _ (List.mem_append_left _ (List.mem_append_left _ (List.mem_append_left _ (List.mem_append_left _ (List.mem_append_left _ (List.mem_append_left _ (List.mem_append_right _ (List.mem_of_getElem? (i := 56) (l := allW_1) rfl))))))))))))
theorem kw117 : (Cond.static y_GS_isModule : Cond) ∈ allW := (List.mem_append_left _ (List.mem_append_left _ (List.mem_append_left _ (List.mem_append_left _ (List.mem_append_left _ (List.mem_append_left _ (List.mem_append_left _ (List.mem_append_left _ (List.mem_append_left _ (List.mem_append_left _ (List.mem_append_right _ (List.mem_of_getElem? (i := 57) (l := allW_1) rfl))))))))))))
theorem kw118 : (Cond.code y_GS_isModule prog_1_method_17_code 1 (some .boolean) : Cond) ∈ allW := (List.mem_append_left _ (List.mem_append_left _ (List.mem_append_left _ (List.mem_append_left _ (List.mem_append_left _ (List.mem_append_left _ (List.mem_append_left _ (List.mem_append_left _ (List.mem_append_left _ (List.mem_append_left _ (List.mem_append_right _ (List.mem_of_getElem? (i := 58) (l := allW_1) rfl))))))))))))
theorem kw119 : (Cond.methodLink R_GS 52 y_MT_append : Cond) ∈ allW := (List.mem_append_left _ (List.mem_append_left _ (List.mem_append_left _ (List.mem_append_left _ (List.mem_append_left _ (List.mem_append_left _ (List.mem_append_left _ (List.mem_append_left _ (List.mem_append_left _ (List.mem_append_left _ (List.mem_append_right _ (List.mem_of_getElem? (i := 59) (l := allW_1) rfl))))))))))))
theorem kw120 : (Cond.instanceMethod y_MT_append : Cond) ∈ allW := (List.mem_append_left _ (List.mem_append_left _ (List.mem_append_left _ (List.mem_append_left _ (List.mem_append_left _ (List.mem_append_left _ (List.mem_append_left _ (List.mem_append_left _ (List.mem_append_left _ (List.mem_append_right _ (List.mem_of_getElem? (i := 0) (l := allW_2) rfl)))))))))))
theorem kw121 : (Cond.selects R_MT y_MT_append y_MT_append : Cond) ∈ allW := (List.mem_append_left _ (List.mem_append_left _ (List.mem_append_left _ (List.mem_append_left _ (List.mem_append_left _ (List.mem_append_left _ (List.mem_append_left _ (List.mem_append_left _ (List.mem_append_left _ (List.mem_append_right _ (List.mem_of_getElem? (i := 1) (l := allW_2) rfl)))))))))))
theorem kw122 : (Cond.code y_MT_append prog_4_method_2_code 2 (some .boolean) : Cond) ∈ allW := (List.mem_append_left _ (List.mem_append_left _ (List.mem_append_left _ (List.mem_append_left _ (List.mem_append_left _ (List.mem_append_left _ (List.mem_append_left _ (List.mem_append_left _ (List.mem_append_left _ (List.mem_append_right _ (List.mem_of_getElem? (i := 2) (l := allW_2) rfl)))))))))))
theorem kw123 : (Cond.methodLink R_GS 55 y_GS_loosen : Cond) ∈ allW := (List.mem_append_left _ (List.mem_append_left _ (List.mem_append_left _ (List.mem_append_left _ (List.mem_append_left _ (List.mem_append_left _ (List.mem_append_left _ (List.mem_append_left _ (List.mem_append_left _ (List.mem_append_right _ (List.mem_of_getElem? (i := 3) (l := allW_2) rfl)))))))))))
theorem kw124 : (Cond.instanceMethod y_GS_loosen : Cond) ∈ allW := (List.mem_append_left _ (List.mem_append_left _ (List.mem_append_left _ (List.mem_append_left _ (List.mem_append_left _ (List.mem_append_left _ (List.mem_append_left _ (List.mem_append_left _ (List.mem_append_left _ (List.mem_append_right _ (List.mem_of_getElem? (i := 4) (l := allW_2) rfl)))))))))))
theorem kw125 : (Cond.code y_GS_loosen prog_1_method_16_code 1 none : Cond) ∈ allW := (List.mem_append_left _ (List.mem_append_left _ (List.mem_append_left _ (List.mem_append_left _ (List.mem_append_left _ (List.mem_append_left _ (List.mem_append_left _ (List.mem_append_left _ (List.mem_append_left _ (List.mem_append_right _ (List.mem_of_getElem? (i := 5) (l := allW_2) rfl)))))))))))
theorem kw126 : (Cond.methodLink R_GS 104 y_MA_halt : Cond) ∈ allW := (List.mem_append_left _ (List.mem_append_left _ (List.mem_append_left _ (List.mem_append_left _ (List.mem_append_left _ (List.mem_append_left _ (List.mem_append_left _ (List.mem_append_left _ (List.mem_append_left _ (List.mem_append_right _ (List.mem_of_getElem? (i := 6) (l := allW_2) rfl)))))))))))
theorem kw127 : (Cond.instanceMethod y_MA_halt : Cond) ∈ allW := (List.mem_append_left _ (List.mem_append_left _ (List.mem_append_left _ (List.mem_append_left _ (List.mem_append_left _ (List.mem_append_left _ (List.mem_append_left _ (List.mem_append_left _ (List.mem_append_left _ (List.mem_append_right _ (List.mem_of_getElem? (i := 7) (l := allW_2) rfl)))))))))))
theorem kw128 : (Cond.selects R_MA y_MA_halt y_MA_halt : Cond) ∈ allW := (List.mem_append_left _ (List.mem_append_left _ (List.mem_append_left _ (List.mem_append_left _ (List.mem_append_left _ (List.mem_append_left _ (List.mem_append_left _ (List.mem_append_left _ (List.mem_append_left _ (List.mem_append_right _ (List.mem_of_getElem? (i := 8) (l := allW_2) rfl)))))))))))
theorem kw129 : (Cond.code y_MA_halt prog_3_method_9_code 1 none : Cond) ∈ allW := (List.mem_append_left _ (List.mem_append_left _ (List.mem_append_left _ (List.mem_append_left _ (List.mem_append_left _ (List.mem_append_left _ (List.mem_append_left _ (List.mem_append_left _ (List.mem_append_left _ (List.mem_append_right _ (List.mem_of_getElem? (i := 9) (l := allW_2) rfl)))))))))))
theorem kw130 : (Cond.methodLink R_GS 58 y_MT_length : Cond) ∈ allW := (List.mem_append_left _ (List.mem_append_left _ (List.mem_append_left _ (List.mem_append_left _ (List.mem_append_left _ (List.mem_append_left _ (List.mem_append_left _ (List.mem_append_left _ (List.mem_append_left _ (List.mem_append_right _ (List.mem_of_getElem? (i := 10) (l := allW_2) rfl)))))))))))
theorem kw131 : (Cond.instanceMethod y_MT_length : Cond) ∈ allW := (List.mem_append_left _ (List.mem_append_left _ (List.mem_append_left _ (List.mem_append_left _ (List.mem_append_left _ (List.mem_append_left _ (List.mem_append_left _ (List.mem_append_left _ (List.mem_append_left _ (List.mem_append_right _ (List.mem_of_getElem? (i := 11) (l := allW_2) rfl)))))))))))
theorem kw132 : (Cond.selects R_MT y_MT_length y_MT_length : Cond) ∈ allW := (List.mem_append_left _ (List.mem_append_left _ (List.mem_append_left _ (List.mem_append_left _ (List.mem_append_left _ (List.mem_append_left _ (List.mem_append_left _ (List.mem_append_left _ (List.mem_append_left _ (List.mem_append_right _ (List.mem_of_getElem? (i := 12) (l := allW_2) rfl)))))))))))
theorem kw133 : (Cond.code y_MT_length prog_4_method_10_code 1 (some .int) : Cond) ∈ allW := (List.mem_append_left _ (List.mem_append_left _ (List.mem_append_left _ (List.mem_append_left _ (List.mem_append_left _ (List.mem_append_left _ (List.mem_append_left _ (List.mem_append_left _ (List.mem_append_left _ (List.mem_append_right _ (List.mem_of_getElem? (i := 13) (l := allW_2) rfl)))))))))))
theorem kw134 : (Cond.methodLink "GateStackLaw" 18 y_GS_clear : Cond) ∈ allW := (List.mem_append_left _ (List.mem_append_left _ (List.mem_append_left _ (List.mem_append_left _ (List.mem_append_left _ (List.mem_append_left _ (List.mem_append_left _ (List.mem_append_left _ (List.mem_append_left _ (List.mem_append_right _ (List.mem_of_getElem? (i := 14) (l := allW_2) rfl)))))))))))
theorem kw135 : (Cond.instanceMethod y_GS_clear : Cond) ∈ allW := (List.mem_append_left _ (List.mem_append_left _ (List.mem_append_left _ (List.mem_append_left _ (List.mem_append_left _ (List.mem_append_left _ (List.mem_append_left _ (List.mem_append_left _ (List.mem_append_left _ (List.mem_append_right _ (List.mem_of_getElem? (i := 15) (l := allW_2) rfl)))))))))))
theorem kw136 : (Cond.selects R_GS y_GS_clear y_GS_clear : Cond) ∈ allW := (List.mem_append_left _ (List.mem_append_left _ (List.mem_append_left _ (List.mem_append_left _ (List.mem_append_left _ (List.mem_append_left _ (List.mem_append_left _ (List.mem_append_left _ (List.mem_append_left _ (List.mem_append_right _ (List.mem_of_getElem? (i := 16) (l := allW_2) rfl)))))))))))
theorem kw137 : (Cond.code y_GS_clear prog_1_method_3_code 2 (some .int) : Cond) ∈ allW := (List.mem_append_left _ (List.mem_append_left _ (List.mem_append_left _ (List.mem_append_left _ (List.mem_append_left _ (List.mem_append_left _ (List.mem_append_left _ (List.mem_append_left _ (List.mem_append_left _ (List.mem_append_right _ (List.mem_of_getElem? (i := 17) (l := allW_2) rfl)))))))))))
theorem kw138 : (Cond.methodLink R_GS 62 y_MT_empty : Cond) ∈ allW := (List.mem_append_left _ (List.mem_append_left _ (List.mem_append_left _ (List.mem_append_left _ (List.mem_append_left _ (List.mem_append_left _ (List.mem_append_left _ (List.mem_append_left _ (List.mem_append_left _ (List.mem_append_right _ (List.mem_of_getElem? (i := 18) (l := allW_2) rfl)))))))))))
theorem kw139 : (Cond.instanceMethod y_MT_empty : Cond) ∈ allW := (List.mem_append_left _ (List.mem_append_left _ (List.mem_append_left _ (List.mem_append_left _ (List.mem_append_left _ (List.mem_append_left _ (List.mem_append_left _ (List.mem_append_left _ (List.mem_append_left _ (List.mem_append_right _ (List.mem_of_getElem? (i := 19) (l := allW_2) rfl)))))))))))
theorem kw140 : (Cond.selects R_MT y_MT_empty y_MT_empty : Cond) ∈ allW := (List.mem_append_left _ (List.mem_append_left _ (List.mem_append_left _ (List.mem_append_left _ (List.mem_append_left _ (List.mem_append_left _ (List.mem_append_left _ (List.mem_append_left _ (List.mem_append_left _ (List.mem_append_right _ (List.mem_of_getElem? (i := 20) (l := allW_2) rfl)))))))))))
theorem kw141 : (Cond.code y_MT_empty prog_4_method_3_code 1 none : Cond) ∈ allW := (List.mem_append_left _ (List.mem_append_left _ (List.mem_append_left _ (List.mem_append_left _ (List.mem_append_left _ (List.mem_append_left _ (List.mem_append_left _ (List.mem_append_left _ (List.mem_append_left _ (List.mem_append_right _ (List.mem_of_getElem? (i := 21) (l := allW_2) rfl)))))))))))
theorem kw142 : (Cond.methodLink R_MT 38 y_MT_forget : Cond) ∈ allW := (List.mem_append_left _ (List.mem_append_left _ (List.mem_append_left _ (List.mem_append_left _ (List.mem_append_left _ (List.mem_append_left _ (List.mem_append_left _ (List.mem_append_left _ (List.mem_append_left _ (List.mem_append_right _ (List.mem_of_getElem? (i := 22) (l := allW_2) rfl)))))))))))
theorem kw143 : (Cond.instanceMethod y_MT_forget : Cond) ∈ allW := (List.mem_append_left _ (List.mem_append_left _ (List.mem_append_left _ (List.mem_append_left _ (List.mem_append_left _ (List.mem_append_left _ (List.mem_append_left _ (List.mem_append_left _ (List.mem_append_left _ (List.mem_append_right _ (List.mem_of_getElem? (i := 23) (l := allW_2) rfl)))))))))))
theorem kw144 : (Cond.selects R_MT y_MT_forget y_MT_forget : Cond) ∈ allW := (List.mem_append_left _ (List.mem_append_left _ (List.mem_append_left _ (List.mem_append_left _ (List.mem_append_left _ (List.mem_append_left _ (List.mem_append_left _ (List.mem_append_left _ (List.mem_append_left _ (List.mem_append_right _ (List.mem_of_getElem? (i := 24) (l := allW_2) rfl)))))))))))
theorem kw145 : (Cond.code y_MT_forget prog_4_method_4_code 1 none : Cond) ∈ allW := (List.mem_append_left _ (List.mem_append_left _ (List.mem_append_left _ (List.mem_append_left _ (List.mem_append_left _ (List.mem_append_left _ (List.mem_append_left _ (List.mem_append_left _ (List.mem_append_left _ (List.mem_append_right _ (List.mem_of_getElem? (i := 25) (l := allW_2) rfl)))))))))))
theorem kw146 : (Cond.methodLink "GateStackLaw" 23 y_GS_compile : Cond) ∈ allW := (List.mem_append_left _ (List.mem_append_left _ (List.mem_append_left _ (List.mem_append_left _ (List.mem_append_left _ (List.mem_append_left _ (List.mem_append_left _ (List.mem_append_left _ (List.mem_append_left _ (List.mem_append_right _ (List.mem_of_getElem? (i := 26) (l := allW_2) rfl)))))))))))
theorem kw147 : (Cond.instanceMethod y_GS_compile : Cond) ∈ allW := (List.mem_append_left _ (List.mem_append_left _ (List.mem_append_left _ (List.mem_append_left _ (List.mem_append_left _ (List.mem_append_left _ (List.mem_append_left _ (List.mem_append_left _ (List.mem_append_left _ (List.mem_append_right _ (List.mem_of_getElem? (i := 27) (l := allW_2) rfl)))))))))))
theorem kw148 : (Cond.selects R_GS y_GS_compile y_GS_compile : Cond) ∈ allW := (List.mem_append_left _ (List.mem_append_left _ (List.mem_append_left _ (List.mem_append_left _ (List.mem_append_left _ (List.mem_append_left _ (List.mem_append_left _ (List.mem_append_left _ (List.mem_append_left _ (List.mem_append_right _ (List.mem_of_getElem? (i := 28) (l := allW_2) rfl)))))))))))
theorem kw149 : (Cond.code y_GS_compile prog_1_method_4_code 4 (some .int) : Cond) ∈ allW := (List.mem_append_left _ (List.mem_append_left _ (List.mem_append_left _ (List.mem_append_left _ (List.mem_append_left _ (List.mem_append_left _ (List.mem_append_left _ (List.mem_append_left _ (List.mem_append_left _ (List.mem_append_right _ (List.mem_of_getElem? (i := 29) (l := allW_2) rfl)))))))))))
theorem kw150 : (Cond.methodLink R_GS 65 y_RD_faultOf : Cond) ∈ allW := (List.mem_append_left _ (List.mem_append_left _ (List.mem_append_left _ (List.mem_append_left _ (List.mem_append_left _ (List.mem_append_left _ (List.mem_append_left _ (List.mem_append_left _ (List.mem_append_left _ (List.mem_append_right _ (List.mem_of_getElem? (i := 30) (l := allW_2) rfl)))))))))))
theorem kw151 : (Cond.instanceMethod y_RD_faultOf : Cond) ∈ allW := (List.mem_append_left _ (List.mem_append_left _ (List.mem_append_left _ (List.mem_append_left _ (List.mem_append_left _ (List.mem_append_left _ (List.mem_append_left _ (List.mem_append_left _ (List.mem_append_left _ (List.mem_append_right _ (List.mem_of_getElem? (i := 31) (l := allW_2) rfl)))))))))))
theorem kw152 : (Cond.selects R_RD y_RD_faultOf y_RD_faultOf : Cond) ∈ allW := (List.mem_append_left _ (List.mem_append_left _ (List.mem_append_left _ (List.mem_append_left _ (List.mem_append_left _ (List.mem_append_left _ (List.mem_append_left _ (List.mem_append_left _ (List.mem_append_left _ (List.mem_append_right _ (List.mem_of_getElem? (i := 32) (l := allW_2) rfl)))))))))))
theorem kw153 : (Cond.code y_RD_faultOf prog_6_method_2_code 4 (some .int) : Cond) ∈ allW := (List.mem_append_left _ (List.mem_append_left _ (List.mem_append_left _ (List.mem_append_left _ (List.mem_append_left _ (List.mem_append_left _ (List.mem_append_left _ (List.mem_append_left _ (List.mem_append_left _ (List.mem_append_right _ (List.mem_of_getElem? (i := 33) (l := allW_2) rfl)))))))))))
theorem kw154 : (Cond.methodLink R_RD 15 y_MT_forget : Cond) ∈ allW := (List.mem_append_left _ (List.mem_append_left _ (List.mem_append_left _ (List.mem_append_left _ (List.mem_append_left _ (List.mem_append_left _ (List.mem_append_left _ (List.mem_append_left _ (List.mem_append_left _ (List.mem_append_right _ (List.mem_of_getElem? (i := 34) (l := allW_2) rfl)))))))))))
theorem kw155 : (Cond.methodLink R_RD 27 y_MT_length : Cond) ∈ allW := (List.mem_append_left _ (List.mem_append_left _ (List.mem_append_left _ (List.mem_append_left _ (List.mem_append_left _ (List.mem_append_left _ (List.mem_append_left _ (List.mem_append_left _ (List.mem_append_left _ (List.mem_append_right _ (List.mem_of_getElem? (i := 35) (l := allW_2) rfl)))))))))))
theorem kw156 : (Cond.methodLink R_RD 31 y_RD_takes : Cond) ∈ allW := (List.mem_append_left _ (List.mem_append_left _ (List.mem_append_left _ (List.mem_append_left _ (List.mem_append_left _ (List.mem_append_left _ (List.mem_append_left _ (List.mem_append_left _ (List.mem_append_left _ (List.mem_append_right _ (List.mem_of_getElem? (i := 36) (l := allW_2) rfl)))))))))))
theorem kw157 : (Cond.instanceMethod y_RD_takes : Cond) ∈ allW := (List.mem_append_left _ (List.mem_append_left _ (List.mem_append_left _ (List.mem_append_left _ (List.mem_append_left _ (List.mem_append_left _ (List.mem_append_left _ (List.mem_append_left _ (List.mem_append_left _ (List.mem_append_right _ (List.mem_of_getElem? (i := 37) (l := allW_2) rfl)))))))))))
theorem kw158 : (Cond.code y_RD_takes prog_6_method_3_code 4 (some .boolean) : Cond) ∈ allW := (List.mem_append_left _ (List.mem_append_left _ (List.mem_append_left _ (List.mem_append_left _ (List.mem_append_left _ (List.mem_append_left _ (List.mem_append_left _ (List.mem_append_left _ (List.mem_append_left _ (List.mem_append_right _ (List.mem_of_getElem? (i := 38) (l := allW_2) rfl)))))))))))
theorem kw159 : (Cond.methodLink R_RD 35 y_MT_signAt : Cond) ∈ allW := (List.mem_append_left _ (List.mem_append_left _ (List.mem_append_left _ (List.mem_append_left _ (List.mem_append_left _ (List.mem_append_left _ (List.mem_append_left _ (List.mem_append_left _ (List.mem_append_left _ (List.mem_append_right _ (List.mem_of_getElem? (i := 39) (l := allW_2) rfl)))))))))))
theorem kw160 : (Cond.instanceMethod y_MT_signAt : Cond) ∈ allW := (List.mem_append_left _ (List.mem_append_left _ (List.mem_append_left _ (List.mem_append_left _ (List.mem_append_left _ (List.mem_append_left _ (List.mem_append_left _ (List.mem_append_left _ (List.mem_append_left _ (List.mem_append_right _ (List.mem_of_getElem? (i := 40) (l := allW_2) rfl)))))))))))
theorem kw161 : (Cond.selects R_MT y_MT_signAt y_MT_signAt : Cond) ∈ allW := (List.mem_append_left _ (List.mem_append_left _ (List.mem_append_left _ (List.mem_append_left _ (List.mem_append_left _ (List.mem_append_left _ (List.mem_append_left _ (List.mem_append_left _ (List.mem_append_left _ (List.mem_append_right _ (List.mem_of_getElem? (i := 41) (l := allW_2) rfl)))))))))))
theorem kw162 : (Cond.code y_MT_signAt prog_4_method_14_code 2 (some .int) : Cond) ∈ allW := (List.mem_append_left _ (List.mem_append_left _ (List.mem_append_left _ (List.mem_append_left _ (List.mem_append_left _ (List.mem_append_left _ (List.mem_append_left _ (List.mem_append_left _ (List.mem_append_left _ (List.mem_append_right _ (List.mem_of_getElem? (i := 42) (l := allW_2) rfl)))))))))))
theorem kw163 : (Cond.methodLink R_RD 39 y_RD_takesProcedure : Cond) ∈ allW := (List.mem_append_left _ (List.mem_append_left _ (List.mem_append_left _ (List.mem_append_left _ (List.mem_append_left _ (List.mem_append_left _ (List.mem_append_left _ (List.mem_append_left _ (List.mem_append_left _ (List.mem_append_right _ (List.mem_of_getElem? (i := 43) (l := allW_2) rfl)))))))))))
theorem kw164 : (Cond.instanceMethod y_RD_takesProcedure : Cond) ∈ allW := (List.mem_append_left _ (List.mem_append_left _ (List.mem_append_left _ (List.mem_append_left _ (List.mem_append_left _ (List.mem_append_left _ (List.mem_append_left _ (List.mem_append_left _ (List.mem_append_left _ (List.mem_append_right _ (List.mem_of_getElem? (i := 44) (l := allW_2) rfl)))))))))))
theorem kw165 : (Cond.code y_RD_takesProcedure prog_6_method_4_code 4 (some .boolean) : Cond) ∈ allW := (List.mem_append_left _ (List.mem_append_left _ (List.mem_append_left _ (List.mem_append_left _ (List.mem_append_left _ (List.mem_append_left _ (List.mem_append_left _ (List.mem_append_left _ (List.mem_append_left _ (List.mem_append_right _ (List.mem_of_getElem? (i := 45) (l := allW_2) rfl)))))))))))
theorem kw166 : (Cond.static y_GS_isLetter : Cond) ∈ allW := (List.mem_append_left _ (List.mem_append_left _ (List.mem_append_left _ (List.mem_append_left _ (List.mem_append_left _ (List.mem_append_left _ (List.mem_append_left _ (List.mem_append_left _ (List.mem_append_left _ (List.mem_append_right _ (List.mem_of_getElem? (i := 46) (l := allW_2) rfl)))))))))))
theorem kw167 : (Cond.code y_GS_isLetter prog_1_method_20_code 1 (some .boolean) : Cond) ∈ allW := (List.mem_append_left _ (List.mem_append_left _ (List.mem_append_left _ (List.mem_append_left _ (List.mem_append_left _ (List.mem_append_left _ (List.mem_append_left _ (List.mem_append_left _ (List.mem_append_left _ (List.mem_append_right _ (List.mem_of_getElem? (i := 47) (l := allW_2) rfl)))))))))))
theorem kw168 : (Cond.methodLink R_RD 81 y_MT_addProcedure : Cond) ∈ allW := (List.mem_append_left _ (List.mem_append_left _ (List.mem_append_left _ (List.mem_append_left _ (List.mem_append_left _ (List.mem_append_left _ (List.mem_append_left _ (List.mem_append_left _ (List.mem_append_left _ (List.mem_append_right _ (List.mem_of_getElem? (i := 48) (l := allW_2) rfl)))))))))))
theorem kw169 : (Cond.instanceMethod y_MT_addProcedure : Cond) ∈ allW := (List.mem_append_left _ (List.mem_append_left _ (List.mem_append_left _ (List.mem_append_left _ (List.mem_append_left _ (List.mem_append_left _ (List.mem_append_left _ (List.mem_append_left _ (List.mem_append_left _ (List.mem_append_right _ (List.mem_of_getElem? (i := 49) (l := allW_2) rfl)))))))))))
theorem kw170 : (Cond.selects R_MT y_MT_addProcedure y_MT_addProcedure : Cond) ∈ allW := (List.mem_append_left _ (List.mem_append_left _ (List.mem_append_left _ (List.mem_append_left _ (List.mem_append_left _ (List.mem_append_left _ (List.mem_append_left _ (List.mem_append_left _ (List.mem_append_left _ (List.mem_append_right _ (List.mem_of_getElem? (i := 50) (l := allW_2) rfl)))))))))))
theorem kw171 : (Cond.code y_MT_addProcedure prog_4_method_6_code 3 none : Cond) ∈ allW := (List.mem_append_left _ (List.mem_append_left _ (List.mem_append_left _ (List.mem_append_left _ (List.mem_append_left _ (List.mem_append_left _ (List.mem_append_left _ (List.mem_append_left _ (List.mem_append_left _ (List.mem_append_right _ (List.mem_of_getElem? (i := 51) (l := allW_2) rfl)))))))))))
theorem kw172 : (Cond.static y_GS_isLetterNumber : Cond) ∈ allW := (List.mem_append_left _ (List.mem_append_left _ (List.mem_append_left _ (List.mem_append_left _ (List.mem_append_left _ (List.mem_append_left _ (List.mem_append_left _ (List.mem_append_left _ (List.mem_append_left _ (List.mem_append_right _ (List.mem_of_getElem? (i := 52) (l := allW_2) rfl)))))))))))
theorem kw173 : (Cond.code y_GS_isLetterNumber prog_1_method_19_code 1 (some .boolean) : Cond) ∈ allW := (List.mem_append_left _ (List.mem_append_left _ (List.mem_append_left _ (List.mem_append_left _ (List.mem_append_left _ (List.mem_append_left _ (List.mem_append_left _ (List.mem_append_left _ (List.mem_append_left _ (List.mem_append_right _ (List.mem_of_getElem? (i := 53) (l := allW_2) rfl)))))))))))
theorem kw174 : (Cond.static y_GS_hasBit : Cond) ∈ allW := (List.mem_append_left _ (List.mem_append_left _ (List.mem_append_left _ (List.mem_append_left _ (List.mem_append_left _ (List.mem_append_left _ (List.mem_append_left _ (List.mem_append_left _ (List.mem_append_left _ (List.mem_append_right _ (List.mem_of_getElem? (i := 54) (l := allW_2) rfl)))))))))))
theorem kw175 : (Cond.code y_GS_hasBit prog_1_method_24_code 2 (some .boolean) : Cond) ∈ allW := (List.mem_append_left _ (List.mem_append_left _ (List.mem_append_left _ (List.mem_append_left _ (List.mem_append_left _ (List.mem_append_left _ (List.mem_append_left _ (List.mem_append_left _ (List.mem_append_left _ (List.mem_append_right _ (List.mem_of_getElem? (i := 55) (l := allW_2) rfl)))))))))))
theorem kw176 : (Cond.methodLink R_RD 52 y_RD_begins : Cond) ∈ allW := (List.mem_append_left _ (List.mem_append_left _ (List.mem_append_left _ (List.mem_append_left _ (List.mem_append_left _ (List.mem_append_left _ (List.mem_append_left _ (List.mem_append_left _ (List.mem_append_left _ (List.mem_append_right _ (List.mem_of_getElem? (i := 56) (l := allW_2) rfl)))))))))))
theorem kw177 : (Cond.instanceMethod y_RD_begins : Cond) ∈ allW := (List.mem_append_left _ (List.mem_append_left _ (List.mem_append_left _ (List.mem_append_left _ (List.mem_append_left _ (List.mem_append_left _ (List.mem_append_left _ (List.mem_append_left _ (List.mem_append_left _ (List.mem_append_right _ (List.mem_of_getElem? (i := 57) (l := allW_2) rfl)))))))))))
theorem kw178 : (Cond.code y_RD_begins prog_6_method_14_code 3 (some .boolean) : Cond) ∈ allW := (List.mem_append_left _ (List.mem_append_left _ (List.mem_append_left _ (List.mem_append_left _ (List.mem_append_left _ (List.mem_append_left _ (List.mem_append_left _ (List.mem_append_left _ (List.mem_append_left _ (List.mem_append_right _ (List.mem_of_getElem? (i := 58) (l := allW_2) rfl)))))))))))
theorem kw179 : (Cond.methodLink R_RD 55 y_RD_expects : Cond) ∈ allW := (List.mem_append_left _ (List.mem_append_left _ (List.mem_append_left _ (List.mem_append_left _ (List.mem_append_left _ (List.mem_append_left _ (List.mem_append_left _ (List.mem_append_left _ (List.mem_append_left _ (List.mem_append_right _ (List.mem_of_getElem? (i := 59) (l := allW_2) rfl)))))))))))
theorem kw180 : (Cond.instanceMethod y_RD_expects : Cond) ∈ allW := (List.mem_append_left _ (List.mem_append_left _ (List.mem_append_left _ (List.mem_append_left _ (List.mem_append_left _ (List.mem_append_left _ (List.mem_append_left _ (List.mem_append_left _ (List.mem_append_right _ (List.mem_of_getElem? (i := 0) (l := allW_3) rfl))))))))))
theorem kw181 : (Cond.code y_RD_expects prog_6_method_15_code 2 (some .boolean) : Cond) ∈ allW := (List.mem_append_left _ (List.mem_append_left _ (List.mem_append_left _ (List.mem_append_left _ (List.mem_append_left _ (List.mem_append_left _ (List.mem_append_left _ (List.mem_append_left _ (List.mem_append_right _ (List.mem_of_getElem? (i := 1) (l := allW_3) rfl))))))))))
theorem kw182 : (Cond.methodLink R_RD 45 y_RD_opens : Cond) ∈ allW := (List.mem_append_left _ (List.mem_append_left _ (List.mem_append_left _ (List.mem_append_left _ (List.mem_append_left _ (List.mem_append_left _ (List.mem_append_left _ (List.mem_append_left _ (List.mem_append_right _ (List.mem_of_getElem? (i := 2) (l := allW_3) rfl))))))))))
theorem kw183 : (Cond.instanceMethod y_RD_opens : Cond) ∈ allW := (List.mem_append_left _ (List.mem_append_left _ (List.mem_append_left _ (List.mem_append_left _ (List.mem_append_left _ (List.mem_append_left _ (List.mem_append_left _ (List.mem_append_left _ (List.mem_append_right _ (List.mem_of_getElem? (i := 3) (l := allW_3) rfl))))))))))
theorem kw184 : (Cond.code y_RD_opens prog_6_method_13_code 3 (some .boolean) : Cond) ∈ allW := (List.mem_append_left _ (List.mem_append_left _ (List.mem_append_left _ (List.mem_append_left _ (List.mem_append_left _ (List.mem_append_left _ (List.mem_append_left _ (List.mem_append_left _ (List.mem_append_right _ (List.mem_of_getElem? (i := 4) (l := allW_3) rfl))))))))))
theorem kw185 : (Cond.methodLink R_RD 49 y_RD_takesStatement : Cond) ∈ allW := (List.mem_append_left _ (List.mem_append_left _ (List.mem_append_left _ (List.mem_append_left _ (List.mem_append_left _ (List.mem_append_left _ (List.mem_append_left _ (List.mem_append_left _ (List.mem_append_right _ (List.mem_of_getElem? (i := 5) (l := allW_3) rfl))))))))))
theorem kw186 : (Cond.instanceMethod y_RD_takesStatement : Cond) ∈ allW := (List.mem_append_left _ (List.mem_append_left _ (List.mem_append_left _ (List.mem_append_left _ (List.mem_append_left _ (List.mem_append_left _ (List.mem_append_left _ (List.mem_append_left _ (List.mem_append_right _ (List.mem_of_getElem? (i := 6) (l := allW_3) rfl))))))))))
theorem kw187 : (Cond.code y_RD_takesStatement prog_6_method_5_code 5 (some .boolean) : Cond) ∈ allW := (List.mem_append_left _ (List.mem_append_left _ (List.mem_append_left _ (List.mem_append_left _ (List.mem_append_left _ (List.mem_append_left _ (List.mem_append_left _ (List.mem_append_left _ (List.mem_append_right _ (List.mem_of_getElem? (i := 7) (l := allW_3) rfl))))))))))
theorem kw188 : (Cond.methodLink R_RD 85 y_RD_closesBlock : Cond) ∈ allW := (List.mem_append_left _ (List.mem_append_left _ (List.mem_append_left _ (List.mem_append_left _ (List.mem_append_left _ (List.mem_append_left _ (List.mem_append_left _ (List.mem_append_left _ (List.mem_append_right _ (List.mem_of_getElem? (i := 8) (l := allW_3) rfl))))))))))
theorem kw189 : (Cond.instanceMethod y_RD_closesBlock : Cond) ∈ allW := (List.mem_append_left _ (List.mem_append_left _ (List.mem_append_left _ (List.mem_append_left _ (List.mem_append_left _ (List.mem_append_left _ (List.mem_append_left _ (List.mem_append_left _ (List.mem_append_right _ (List.mem_of_getElem? (i := 9) (l := allW_3) rfl))))))))))
theorem kw190 : (Cond.code y_RD_closesBlock prog_6_method_7_code 5 (some .boolean) : Cond) ∈ allW := (List.mem_append_left _ (List.mem_append_left _ (List.mem_append_left _ (List.mem_append_left _ (List.mem_append_left _ (List.mem_append_left _ (List.mem_append_left _ (List.mem_append_left _ (List.mem_append_right _ (List.mem_of_getElem? (i := 10) (l := allW_3) rfl))))))))))
theorem kw191 : (Cond.methodLink R_RD 103 y_MT_addBlock : Cond) ∈ allW := (List.mem_append_left _ (List.mem_append_left _ (List.mem_append_left _ (List.mem_append_left _ (List.mem_append_left _ (List.mem_append_left _ (List.mem_append_left _ (List.mem_append_left _ (List.mem_append_right _ (List.mem_of_getElem? (i := 11) (l := allW_3) rfl))))))))))
theorem kw192 : (Cond.instanceMethod y_MT_addBlock : Cond) ∈ allW := (List.mem_append_left _ (List.mem_append_left _ (List.mem_append_left _ (List.mem_append_left _ (List.mem_append_left _ (List.mem_append_left _ (List.mem_append_left _ (List.mem_append_left _ (List.mem_append_right _ (List.mem_of_getElem? (i := 12) (l := allW_3) rfl))))))))))
theorem kw193 : (Cond.selects R_MT y_MT_addBlock y_MT_addBlock : Cond) ∈ allW := (List.mem_append_left _ (List.mem_append_left _ (List.mem_append_left _ (List.mem_append_left _ (List.mem_append_left _ (List.mem_append_left _ (List.mem_append_left _ (List.mem_append_left _ (List.mem_append_right _ (List.mem_of_getElem? (i := 13) (l := allW_3) rfl))))))))))
theorem kw194 : (Cond.code y_MT_addBlock prog_4_method_9_code 3 none : Cond) ∈ allW := (List.mem_append_left _ (List.mem_append_left _ (List.mem_append_left _ (List.mem_append_left _ (List.mem_append_left _ (List.mem_append_left _ (List.mem_append_left _ (List.mem_append_left _ (List.mem_append_right _ (List.mem_of_getElem? (i := 14) (l := allW_3) rfl))))))))))
theorem kw195 : (Cond.methodLink R_MT 55 y_MT_isPlace : Cond) ∈ allW := (List.mem_append_left _ (List.mem_append_left _ (List.mem_append_left _ (List.mem_append_left _ (List.mem_append_left _ (List.mem_append_left _ (List.mem_append_left _ (List.mem_append_left _ (List.mem_append_right _ (List.mem_of_getElem? (i := 15) (l := allW_3) rfl))))))))))
theorem kw196 : (Cond.instanceMethod y_MT_isPlace : Cond) ∈ allW := (List.mem_append_left _ (List.mem_append_left _ (List.mem_append_left _ (List.mem_append_left _ (List.mem_append_left _ (List.mem_append_left _ (List.mem_append_left _ (List.mem_append_left _ (List.mem_append_right _ (List.mem_of_getElem? (i := 16) (l := allW_3) rfl))))))))))
theorem kw197 : (Cond.code y_MT_isPlace prog_4_method_22_code 2 (some .boolean) : Cond) ∈ allW := (List.mem_append_left _ (List.mem_append_left _ (List.mem_append_left _ (List.mem_append_left _ (List.mem_append_left _ (List.mem_append_left _ (List.mem_append_left _ (List.mem_append_left _ (List.mem_append_right _ (List.mem_of_getElem? (i := 17) (l := allW_3) rfl))))))))))
theorem kw198 : (Cond.methodLink R_RD 88 y_RD_behindFirstSign : Cond) ∈ allW := (List.mem_append_left _ (List.mem_append_left _ (List.mem_append_left _ (List.mem_append_left _ (List.mem_append_left _ (List.mem_append_left _ (List.mem_append_left _ (List.mem_append_left _ (List.mem_append_right _ (List.mem_of_getElem? (i := 18) (l := allW_3) rfl))))))))))
theorem kw199 : (Cond.static y_RD_behindFirstSign : Cond) ∈ allW := (List.mem_append_left _ (List.mem_append_left _ (List.mem_append_left _ (List.mem_append_left _ (List.mem_append_left _ (List.mem_append_left _ (List.mem_append_left _ (List.mem_append_left _ (List.mem_append_right _ (List.mem_of_getElem? (i := 19) (l := allW_3) rfl))))))))))
theorem kw200 : (Cond.code y_RD_behindFirstSign prog_6_method_6_code 1 (some .int) : Cond) ∈ allW := (List.mem_append_left _ (List.mem_append_left _ (List.mem_append_left _ (List.mem_append_left _ (List.mem_append_left _ (List.mem_append_left _ (List.mem_append_left _ (List.mem_append_left _ (List.mem_append_right _ (List.mem_of_getElem? (i := 20) (l := allW_3) rfl))))))))))
theorem kw201 : (Cond.static y_GS_isVariable : Cond) ∈ allW := (List.mem_append_left _ (List.mem_append_left _ (List.mem_append_left _ (List.mem_append_left _ (List.mem_append_left _ (List.mem_append_left _ (List.mem_append_left _ (List.mem_append_left _ (List.mem_append_right _ (List.mem_of_getElem? (i := 21) (l := allW_3) rfl))))))))))
theorem kw202 : (Cond.code y_GS_isVariable prog_1_method_21_code 1 (some .boolean) : Cond) ∈ allW := (List.mem_append_left _ (List.mem_append_left _ (List.mem_append_left _ (List.mem_append_left _ (List.mem_append_left _ (List.mem_append_left _ (List.mem_append_left _ (List.mem_append_left _ (List.mem_append_right _ (List.mem_of_getElem? (i := 22) (l := allW_3) rfl))))))))))
theorem kw203 : (Cond.methodLink R_RD 91 y_MT_addCall : Cond) ∈ allW := (List.mem_append_left _ (List.mem_append_left _ (List.mem_append_left _ (List.mem_append_left _ (List.mem_append_left _ (List.mem_append_left _ (List.mem_append_left _ (List.mem_append_left _ (List.mem_append_right _ (List.mem_of_getElem? (i := 23) (l := allW_3) rfl))))))))))
theorem kw204 : (Cond.instanceMethod y_MT_addCall : Cond) ∈ allW := (List.mem_append_left _ (List.mem_append_left _ (List.mem_append_left _ (List.mem_append_left _ (List.mem_append_left _ (List.mem_append_left _ (List.mem_append_left _ (List.mem_append_left _ (List.mem_append_right _ (List.mem_of_getElem? (i := 24) (l := allW_3) rfl))))))))))
theorem kw205 : (Cond.selects R_MT y_MT_addCall y_MT_addCall : Cond) ∈ allW := (List.mem_append_left _ (List.mem_append_left _ (List.mem_append_left _ (List.mem_append_left _ (List.mem_append_left _ (List.mem_append_left _ (List.mem_append_left _ (List.mem_append_left _ (List.mem_append_right _ (List.mem_of_getElem? (i := 25) (l := allW_3) rfl))))))))))
theorem kw206 : (Cond.code y_MT_addCall prog_4_method_7_code 3 none : Cond) ∈ allW := (List.mem_append_left _ (List.mem_append_left _ (List.mem_append_left _ (List.mem_append_left _ (List.mem_append_left _ (List.mem_append_left _ (List.mem_append_left _ (List.mem_append_left _ (List.mem_append_right _ (List.mem_of_getElem? (i := 26) (l := allW_3) rfl))))))))))
theorem kw207 : (Cond.methodLink R_RD 94 y_MT_addStatement : Cond) ∈ allW := (List.mem_append_left _ (List.mem_append_left _ (List.mem_append_left _ (List.mem_append_left _ (List.mem_append_left _ (List.mem_append_left _ (List.mem_append_left _ (List.mem_append_left _ (List.mem_append_right _ (List.mem_of_getElem? (i := 27) (l := allW_3) rfl))))))))))
theorem kw208 : (Cond.instanceMethod y_MT_addStatement : Cond) ∈ allW := (List.mem_append_left _ (List.mem_append_left _ (List.mem_append_left _ (List.mem_append_left _ (List.mem_append_left _ (List.mem_append_left _ (List.mem_append_left _ (List.mem_append_left _ (List.mem_append_right _ (List.mem_of_getElem? (i := 28) (l := allW_3) rfl))))))))))
theorem kw209 : (Cond.selects R_MT y_MT_addStatement y_MT_addStatement : Cond) ∈ allW := (List.mem_append_left _ (List.mem_append_left _ (List.mem_append_left _ (List.mem_append_left _ (List.mem_append_left _ (List.mem_append_left _ (List.mem_append_left _ (List.mem_append_left _ (List.mem_append_right _ (List.mem_of_getElem? (i := 29) (l := allW_3) rfl))))))))))
theorem kw210 : (Cond.code y_MT_addStatement prog_4_method_8_code 3 none : Cond) ∈ allW := (List.mem_append_left _ (List.mem_append_left _ (List.mem_append_left _ (List.mem_append_left _ (List.mem_append_left _ (List.mem_append_left _ (List.mem_append_left _ (List.mem_append_left _ (List.mem_append_right _ (List.mem_of_getElem? (i := 30) (l := allW_3) rfl))))))))))
theorem kw211 : (Cond.methodLink R_RD 59 y_RD_takesOperand : Cond) ∈ allW := (List.mem_append_left _ (List.mem_append_left _ (List.mem_append_left _ (List.mem_append_left _ (List.mem_append_left _ (List.mem_append_left _ (List.mem_append_left _ (List.mem_append_left _ (List.mem_append_right _ (List.mem_of_getElem? (i := 31) (l := allW_3) rfl))))))))))
theorem kw212 : (Cond.instanceMethod y_RD_takesOperand : Cond) ∈ allW := (List.mem_append_left _ (List.mem_append_left _ (List.mem_append_left _ (List.mem_append_left _ (List.mem_append_left _ (List.mem_append_left _ (List.mem_append_left _ (List.mem_append_left _ (List.mem_append_right _ (List.mem_of_getElem? (i := 32) (l := allW_3) rfl))))))))))
theorem kw213 : (Cond.code y_RD_takesOperand prog_6_method_8_code 4 (some .boolean) : Cond) ∈ allW := (List.mem_append_left _ (List.mem_append_left _ (List.mem_append_left _ (List.mem_append_left _ (List.mem_append_left _ (List.mem_append_left _ (List.mem_append_left _ (List.mem_append_left _ (List.mem_append_right _ (List.mem_of_getElem? (i := 33) (l := allW_3) rfl))))))))))
theorem kw214 : (Cond.static y_GS_isPrefix : Cond) ∈ allW := (List.mem_append_left _ (List.mem_append_left _ (List.mem_append_left _ (List.mem_append_left _ (List.mem_append_left _ (List.mem_append_left _ (List.mem_append_left _ (List.mem_append_left _ (List.mem_append_right _ (List.mem_of_getElem? (i := 34) (l := allW_3) rfl))))))))))
theorem kw215 : (Cond.code y_GS_isPrefix prog_1_method_23_code 1 (some .boolean) : Cond) ∈ allW := (List.mem_append_left _ (List.mem_append_left _ (List.mem_append_left _ (List.mem_append_left _ (List.mem_append_left _ (List.mem_append_left _ (List.mem_append_left _ (List.mem_append_left _ (List.mem_append_right _ (List.mem_of_getElem? (i := 35) (l := allW_3) rfl))))))))))
theorem kw216 : (Cond.methodLink R_RD 109 y_RD_endsOperand : Cond) ∈ allW := (List.mem_append_left _ (List.mem_append_left _ (List.mem_append_left _ (List.mem_append_left _ (List.mem_append_left _ (List.mem_append_left _ (List.mem_append_left _ (List.mem_append_left _ (List.mem_append_right _ (List.mem_of_getElem? (i := 36) (l := allW_3) rfl))))))))))
theorem kw217 : (Cond.instanceMethod y_RD_endsOperand : Cond) ∈ allW := (List.mem_append_left _ (List.mem_append_left _ (List.mem_append_left _ (List.mem_append_left _ (List.mem_append_left _ (List.mem_append_left _ (List.mem_append_left _ (List.mem_append_left _ (List.mem_append_right _ (List.mem_of_getElem? (i := 37) (l := allW_3) rfl))))))))))
theorem kw218 : (Cond.code y_RD_endsOperand prog_6_method_11_code 3 (some .boolean) : Cond) ∈ allW := (List.mem_append_left _ (List.mem_append_left _ (List.mem_append_left _ (List.mem_append_left _ (List.mem_append_left _ (List.mem_append_left _ (List.mem_append_left _ (List.mem_append_left _ (List.mem_append_right _ (List.mem_of_getElem? (i := 38) (l := allW_3) rfl))))))))))
theorem kw219 : (Cond.methodLink R_RD 118 y_RD_lastOpen : Cond) ∈ allW := (List.mem_append_left _ (List.mem_append_left _ (List.mem_append_left _ (List.mem_append_left _ (List.mem_append_left _ (List.mem_append_left _ (List.mem_append_left _ (List.mem_append_left _ (List.mem_append_right _ (List.mem_of_getElem? (i := 39) (l := allW_3) rfl))))))))))
theorem kw220 : (Cond.instanceMethod y_RD_lastOpen : Cond) ∈ allW := (List.mem_append_left _ (List.mem_append_left _ (List.mem_append_left _ (List.mem_append_left _ (List.mem_append_left _ (List.mem_append_left _ (List.mem_append_left _ (List.mem_append_left _ (List.mem_append_right _ (List.mem_of_getElem? (i := 40) (l := allW_3) rfl))))))))))
theorem kw221 : (Cond.code y_RD_lastOpen prog_6_method_12_code 2 (some .int) : Cond) ∈ allW := (List.mem_append_left _ (List.mem_append_left _ (List.mem_append_left _ (List.mem_append_left _ (List.mem_append_left _ (List.mem_append_left _ (List.mem_append_left _ (List.mem_append_left _ (List.mem_append_right _ (List.mem_of_getElem? (i := 41) (l := allW_3) rfl))))))))))
theorem kw222 : (Cond.static y_GS_isDigit : Cond) ∈ allW := (List.mem_append_left _ (List.mem_append_left _ (List.mem_append_left _ (List.mem_append_left _ (List.mem_append_left _ (List.mem_append_left _ (List.mem_append_left _ (List.mem_append_left _ (List.mem_append_right _ (List.mem_of_getElem? (i := 42) (l := allW_3) rfl))))))))))
theorem kw223 : (Cond.code y_GS_isDigit prog_1_method_22_code 1 (some .boolean) : Cond) ∈ allW := (List.mem_append_left _ (List.mem_append_left _ (List.mem_append_left _ (List.mem_append_left _ (List.mem_append_left _ (List.mem_append_left _ (List.mem_append_left _ (List.mem_append_left _ (List.mem_append_right _ (List.mem_of_getElem? (i := 43) (l := allW_3) rfl))))))))))
theorem kw224 : (Cond.methodLink R_RD 65 y_RD_takesDigit : Cond) ∈ allW := (List.mem_append_left _ (List.mem_append_left _ (List.mem_append_left _ (List.mem_append_left _ (List.mem_append_left _ (List.mem_append_left _ (List.mem_append_left _ (List.mem_append_left _ (List.mem_append_right _ (List.mem_of_getElem? (i := 44) (l := allW_3) rfl))))))))))
theorem kw225 : (Cond.instanceMethod y_RD_takesDigit : Cond) ∈ allW := (List.mem_append_left _ (List.mem_append_left _ (List.mem_append_left _ (List.mem_append_left _ (List.mem_append_left _ (List.mem_append_left _ (List.mem_append_left _ (List.mem_append_left _ (List.mem_append_right _ (List.mem_of_getElem? (i := 45) (l := allW_3) rfl))))))))))
theorem kw226 : (Cond.code y_RD_takesDigit prog_6_method_9_code 1 (some .boolean) : Cond) ∈ allW := (List.mem_append_left _ (List.mem_append_left _ (List.mem_append_left _ (List.mem_append_left _ (List.mem_append_left _ (List.mem_append_left _ (List.mem_append_left _ (List.mem_append_left _ (List.mem_append_right _ (List.mem_of_getElem? (i := 46) (l := allW_3) rfl))))))))))
theorem kw227 : (Cond.methodLink R_RD 69 y_RD_takesOperator : Cond) ∈ allW := (List.mem_append_left _ (List.mem_append_left _ (List.mem_append_left _ (List.mem_append_left _ (List.mem_append_left _ (List.mem_append_left _ (List.mem_append_left _ (List.mem_append_left _ (List.mem_append_right _ (List.mem_of_getElem? (i := 47) (l := allW_3) rfl))))))))))
theorem kw228 : (Cond.instanceMethod y_RD_takesOperator : Cond) ∈ allW := (List.mem_append_left _ (List.mem_append_left _ (List.mem_append_left _ (List.mem_append_left _ (List.mem_append_left _ (List.mem_append_left _ (List.mem_append_left _ (List.mem_append_left _ (List.mem_append_right _ (List.mem_of_getElem? (i := 48) (l := allW_3) rfl))))))))))
theorem kw229 : (Cond.code y_RD_takesOperator prog_6_method_10_code 5 (some .boolean) : Cond) ∈ allW := (List.mem_append_left _ (List.mem_append_left _ (List.mem_append_left _ (List.mem_append_left _ (List.mem_append_left _ (List.mem_append_left _ (List.mem_append_left _ (List.mem_append_left _ (List.mem_append_right _ (List.mem_of_getElem? (i := 49) (l := allW_3) rfl))))))))))
theorem kw230 : (Cond.static y_GS_operationOf : Cond) ∈ allW := (List.mem_append_left _ (List.mem_append_left _ (List.mem_append_left _ (List.mem_append_left _ (List.mem_append_left _ (List.mem_append_left _ (List.mem_append_left _ (List.mem_append_left _ (List.mem_append_right _ (List.mem_of_getElem? (i := 50) (l := allW_3) rfl))))))))))
theorem kw231 : (Cond.code y_GS_operationOf prog_1_method_25_code 1 (some .int) : Cond) ∈ allW := (List.mem_append_left _ (List.mem_append_left _ (List.mem_append_left _ (List.mem_append_left _ (List.mem_append_left _ (List.mem_append_left _ (List.mem_append_left _ (List.mem_append_left _ (List.mem_append_right _ (List.mem_of_getElem? (i := 51) (l := allW_3) rfl))))))))))
theorem kw232 : (Cond.methodLink R_GS 69 y_MT_hasTwins : Cond) ∈ allW := (List.mem_append_left _ (List.mem_append_left _ (List.mem_append_left _ (List.mem_append_left _ (List.mem_append_left _ (List.mem_append_left _ (List.mem_append_left _ (List.mem_append_left _ (List.mem_append_right _ (List.mem_of_getElem? (i := 52) (l := allW_3) rfl))))))))))
theorem kw233 : (Cond.instanceMethod y_MT_hasTwins : Cond) ∈ allW := (List.mem_append_left _ (List.mem_append_left _ (List.mem_append_left _ (List.mem_append_left _ (List.mem_append_left _ (List.mem_append_left _ (List.mem_append_left _ (List.mem_append_left _ (List.mem_append_right _ (List.mem_of_getElem? (i := 53) (l := allW_3) rfl))))))))))
theorem kw234 : (Cond.selects R_MT y_MT_hasTwins y_MT_hasTwins : Cond) ∈ allW := (List.mem_append_left _ (List.mem_append_left _ (List.mem_append_left _ (List.mem_append_left _ (List.mem_append_left _ (List.mem_append_left _ (List.mem_append_left _ (List.mem_append_left _ (List.mem_append_right _ (List.mem_of_getElem? (i := 54) (l := allW_3) rfl))))))))))
theorem kw235 : (Cond.code y_MT_hasTwins prog_4_method_12_code 1 (some .boolean) : Cond) ∈ allW := (List.mem_append_left _ (List.mem_append_left _ (List.mem_append_left _ (List.mem_append_left _ (List.mem_append_left _ (List.mem_append_left _ (List.mem_append_left _ (List.mem_append_left _ (List.mem_append_right _ (List.mem_of_getElem? (i := 55) (l := allW_3) rfl))))))))))
theorem kw236 : (Cond.methodLink R_GS 73 y_MT_mark : Cond) ∈ allW := (List.mem_append_left _ (List.mem_append_left _ (List.mem_append_left _ (List.mem_append_left _ (List.mem_append_left _ (List.mem_append_left _ (List.mem_append_left _ (List.mem_append_left _ (List.mem_append_right _ (List.mem_of_getElem? (i := 56) (l := allW_3) rfl))))))))))
theorem kw237 : (Cond.instanceMethod y_MT_mark : Cond) ∈ allW := (List.mem_append_left _ (List.mem_append_left _ (List.mem_append_left _ (List.mem_append_left _ (List.mem_append_left _ (List.mem_append_left _ (List.mem_append_left _ (List.mem_append_left _ (List.mem_append_right _ (List.mem_of_getElem? (i := 57) (l := allW_3) rfl))))))))))
theorem kw238 : (Cond.selects R_MT y_MT_mark y_MT_mark : Cond) ∈ allW := (List.mem_append_left _ (List.mem_append_left _ (List.mem_append_left _ (List.mem_append_left _ (List.mem_append_left _ (List.mem_append_left _ (List.mem_append_left _ (List.mem_append_left _ (List.mem_append_right _ (List.mem_of_getElem? (i := 58) (l := allW_3) rfl))))))))))
theorem kw239 : (Cond.code y_MT_mark prog_4_method_5_code 2 none : Cond) ∈ allW := (List.mem_append_left _ (List.mem_append_left _ (List.mem_append_left _ (List.mem_append_left _ (List.mem_append_left _ (List.mem_append_left _ (List.mem_append_left _ (List.mem_append_left _ (List.mem_append_right _ (List.mem_of_getElem? (i := 59) (l := allW_3) rfl))))))))))
theorem kw240 : (Cond.methodLink R_GS 77 y_MT_defined : Cond) ∈ allW := (List.mem_append_left _ (List.mem_append_left _ (List.mem_append_left _ (List.mem_append_left _ (List.mem_append_left _ (List.mem_append_left _ (List.mem_append_left _ (List.mem_append_right _ (List.mem_of_getElem? (i := 0) (l := allW_4) rfl)))))))))
theorem kw241 : (Cond.instanceMethod y_MT_defined : Cond) ∈ allW := (List.mem_append_left _ (List.mem_append_left _ (List.mem_append_left _ (List.mem_append_left _ (List.mem_append_left _ (List.mem_append_left _ (List.mem_append_left _ (List.mem_append_right _ (List.mem_of_getElem? (i := 1) (l := allW_4) rfl)))))))))
theorem kw242 : (Cond.selects R_MT y_MT_defined y_MT_defined : Cond) ∈ allW := (List.mem_append_left _ (List.mem_append_left _ (List.mem_append_left _ (List.mem_append_left _ (List.mem_append_left _ (List.mem_append_left _ (List.mem_append_left _ (List.mem_append_right _ (List.mem_of_getElem? (i := 2) (l := allW_4) rfl)))))))))
theorem kw243 : (Cond.code y_MT_defined prog_4_method_11_code 1 (some .int) : Cond) ∈ allW := (List.mem_append_left _ (List.mem_append_left _ (List.mem_append_left _ (List.mem_append_left _ (List.mem_append_left _ (List.mem_append_left _ (List.mem_append_left _ (List.mem_append_right _ (List.mem_of_getElem? (i := 3) (l := allW_4) rfl)))))))))
theorem kw244 : (Cond.methodLink R_GS 80 y_JI_bitCount : Cond) ∈ allW := (List.mem_append_left _ (List.mem_append_left _ (List.mem_append_left _ (List.mem_append_left _ (List.mem_append_left _ (List.mem_append_left _ (List.mem_append_left _ (List.mem_append_right _ (List.mem_of_getElem? (i := 4) (l := allW_4) rfl)))))))))
theorem kw245 : (Cond.static y_JI_bitCount : Cond) ∈ allW := (List.mem_append_left _ (List.mem_append_left _ (List.mem_append_left _ (List.mem_append_left _ (List.mem_append_left _ (List.mem_append_left _ (List.mem_append_left _ (List.mem_append_right _ (List.mem_of_getElem? (i := 5) (l := allW_4) rfl)))))))))
theorem kw246 : (Cond.code y_JI_bitCount prog_9_method_49_code 1 (some .int) : Cond) ∈ allW := (List.mem_append_left _ (List.mem_append_left _ (List.mem_append_left _ (List.mem_append_left _ (List.mem_append_left _ (List.mem_append_left _ (List.mem_append_left _ (List.mem_append_right _ (List.mem_of_getElem? (i := 6) (l := allW_4) rfl)))))))))
theorem kw247 : (Cond.constant R_JI 265 1431655765 : Cond) ∈ allW := (List.mem_append_left _ (List.mem_append_left _ (List.mem_append_left _ (List.mem_append_left _ (List.mem_append_left _ (List.mem_append_left _ (List.mem_append_left _ (List.mem_append_right _ (List.mem_of_getElem? (i := 7) (l := allW_4) rfl)))))))))
theorem kw248 : (Cond.constant R_JI 266 858993459 : Cond) ∈ allW := (List.mem_append_left _ (List.mem_append_left _ (List.mem_append_left _ (List.mem_append_left _ (List.mem_append_left _ (List.mem_append_left _ (List.mem_append_left _ (List.mem_append_right _ (List.mem_of_getElem? (i := 8) (l := allW_4) rfl)))))))))
theorem kw249 : (Cond.constant R_JI 267 252645135 : Cond) ∈ allW := (List.mem_append_left _ (List.mem_append_left _ (List.mem_append_left _ (List.mem_append_left _ (List.mem_append_left _ (List.mem_append_left _ (List.mem_append_left _ (List.mem_append_right _ (List.mem_of_getElem? (i := 9) (l := allW_4) rfl)))))))))
theorem kw250 : (Cond.methodLink "GateStackLaw" 27 y_GS_fault : Cond) ∈ allW := (List.mem_append_left _ (List.mem_append_left _ (List.mem_append_left _ (List.mem_append_left _ (List.mem_append_left _ (List.mem_append_left _ (List.mem_append_left _ (List.mem_append_right _ (List.mem_of_getElem? (i := 10) (l := allW_4) rfl)))))))))
theorem kw251 : (Cond.instanceMethod y_GS_fault : Cond) ∈ allW := (List.mem_append_left _ (List.mem_append_left _ (List.mem_append_left _ (List.mem_append_left _ (List.mem_append_left _ (List.mem_append_left _ (List.mem_append_left _ (List.mem_append_right _ (List.mem_of_getElem? (i := 11) (l := allW_4) rfl)))))))))
theorem kw252 : (Cond.selects R_GS y_GS_fault y_GS_fault : Cond) ∈ allW := (List.mem_append_left _ (List.mem_append_left _ (List.mem_append_left _ (List.mem_append_left _ (List.mem_append_left _ (List.mem_append_left _ (List.mem_append_left _ (List.mem_append_right _ (List.mem_of_getElem? (i := 12) (l := allW_4) rfl)))))))))
theorem kw253 : (Cond.code y_GS_fault prog_1_method_5_code 2 (some .int) : Cond) ∈ allW := (List.mem_append_left _ (List.mem_append_left _ (List.mem_append_left _ (List.mem_append_left _ (List.mem_append_left _ (List.mem_append_left _ (List.mem_append_left _ (List.mem_append_right _ (List.mem_of_getElem? (i := 13) (l := allW_4) rfl)))))))))
theorem kw254 : (Cond.methodLink "GateStackLaw" 31 y_GS_link : Cond) ∈ allW := (List.mem_append_left _ (List.mem_append_left _ (List.mem_append_left _ (List.mem_append_left _ (List.mem_append_left _ (List.mem_append_left _ (List.mem_append_left _ (List.mem_append_right _ (List.mem_of_getElem? (i := 14) (l := allW_4) rfl)))))))))
theorem kw255 : (Cond.instanceMethod y_GS_link : Cond) ∈ allW := (List.mem_append_left _ (List.mem_append_left _ (List.mem_append_left _ (List.mem_append_left _ (List.mem_append_left _ (List.mem_append_left _ (List.mem_append_left _ (List.mem_append_right _ (List.mem_of_getElem? (i := 15) (l := allW_4) rfl)))))))))
theorem kw256 : (Cond.selects R_GS y_GS_link y_GS_link : Cond) ∈ allW := (List.mem_append_left _ (List.mem_append_left _ (List.mem_append_left _ (List.mem_append_left _ (List.mem_append_left _ (List.mem_append_left _ (List.mem_append_left _ (List.mem_append_right _ (List.mem_of_getElem? (i := 16) (l := allW_4) rfl)))))))))
theorem kw257 : (Cond.code y_GS_link prog_1_method_6_code 2 (some .int) : Cond) ∈ allW := (List.mem_append_left _ (List.mem_append_left _ (List.mem_append_left _ (List.mem_append_left _ (List.mem_append_left _ (List.mem_append_left _ (List.mem_append_left _ (List.mem_append_right _ (List.mem_of_getElem? (i := 17) (l := allW_4) rfl)))))))))
theorem kw258 : (Cond.methodLink R_GS 86 y_MT_isCompiled : Cond) ∈ allW := (List.mem_append_left _ (List.mem_append_left _ (List.mem_append_left _ (List.mem_append_left _ (List.mem_append_left _ (List.mem_append_left _ (List.mem_append_left _ (List.mem_append_right _ (List.mem_of_getElem? (i := 18) (l := allW_4) rfl)))))))))
theorem kw259 : (Cond.instanceMethod y_MT_isCompiled : Cond) ∈ allW := (List.mem_append_left _ (List.mem_append_left _ (List.mem_append_left _ (List.mem_append_left _ (List.mem_append_left _ (List.mem_append_left _ (List.mem_append_left _ (List.mem_append_right _ (List.mem_of_getElem? (i := 19) (l := allW_4) rfl)))))))))
theorem kw260 : (Cond.selects R_MT y_MT_isCompiled y_MT_isCompiled : Cond) ∈ allW := (List.mem_append_left _ (List.mem_append_left _ (List.mem_append_left _ (List.mem_append_left _ (List.mem_append_left _ (List.mem_append_left _ (List.mem_append_left _ (List.mem_append_right _ (List.mem_of_getElem? (i := 20) (l := allW_4) rfl)))))))))
theorem kw261 : (Cond.code y_MT_isCompiled prog_4_method_13_code 1 (some .boolean) : Cond) ∈ allW := (List.mem_append_left _ (List.mem_append_left _ (List.mem_append_left _ (List.mem_append_left _ (List.mem_append_left _ (List.mem_append_left _ (List.mem_append_left _ (List.mem_append_right _ (List.mem_of_getElem? (i := 21) (l := allW_4) rfl)))))))))
theorem kw262 : (Cond.methodLink R_GS 89 y_PR_join : Cond) ∈ allW := (List.mem_append_left _ (List.mem_append_left _ (List.mem_append_left _ (List.mem_append_left _ (List.mem_append_left _ (List.mem_append_left _ (List.mem_append_left _ (List.mem_append_right _ (List.mem_of_getElem? (i := 22) (l := allW_4) rfl)))))))))
theorem kw263 : (Cond.instanceMethod y_PR_join : Cond) ∈ allW := (List.mem_append_left _ (List.mem_append_left _ (List.mem_append_left _ (List.mem_append_left _ (List.mem_append_left _ (List.mem_append_left _ (List.mem_append_left _ (List.mem_append_right _ (List.mem_of_getElem? (i := 23) (l := allW_4) rfl)))))))))
theorem kw264 : (Cond.selects R_PR y_PR_join y_PR_join : Cond) ∈ allW := (List.mem_append_left _ (List.mem_append_left _ (List.mem_append_left _ (List.mem_append_left _ (List.mem_append_left _ (List.mem_append_left _ (List.mem_append_left _ (List.mem_append_right _ (List.mem_of_getElem? (i := 24) (l := allW_4) rfl)))))))))
theorem kw265 : (Cond.code y_PR_join prog_5_method_2_code 3 (some .int) : Cond) ∈ allW := (List.mem_append_left _ (List.mem_append_left _ (List.mem_append_left _ (List.mem_append_left _ (List.mem_append_left _ (List.mem_append_left _ (List.mem_append_left _ (List.mem_append_right _ (List.mem_of_getElem? (i := 25) (l := allW_4) rfl)))))))))
theorem kw266 : (Cond.methodLink R_PR 21 y_PR_forget : Cond) ∈ allW := (List.mem_append_left _ (List.mem_append_left _ (List.mem_append_left _ (List.mem_append_left _ (List.mem_append_left _ (List.mem_append_left _ (List.mem_append_left _ (List.mem_append_right _ (List.mem_of_getElem? (i := 26) (l := allW_4) rfl)))))))))
theorem kw267 : (Cond.instanceMethod y_PR_forget : Cond) ∈ allW := (List.mem_append_left _ (List.mem_append_left _ (List.mem_append_left _ (List.mem_append_left _ (List.mem_append_left _ (List.mem_append_left _ (List.mem_append_left _ (List.mem_append_right _ (List.mem_of_getElem? (i := 27) (l := allW_4) rfl)))))))))
theorem kw268 : (Cond.code y_PR_forget prog_5_method_4_code 2 none : Cond) ∈ allW := (List.mem_append_left _ (List.mem_append_left _ (List.mem_append_left _ (List.mem_append_left _ (List.mem_append_left _ (List.mem_append_left _ (List.mem_append_left _ (List.mem_append_right _ (List.mem_of_getElem? (i := 28) (l := allW_4) rfl)))))))))
theorem kw269 : (Cond.methodLink R_PR 28 y_MT_defined : Cond) ∈ allW := (List.mem_append_left _ (List.mem_append_left _ (List.mem_append_left _ (List.mem_append_left _ (List.mem_append_left _ (List.mem_append_left _ (List.mem_append_left _ (List.mem_append_right _ (List.mem_of_getElem? (i := 29) (l := allW_4) rfl)))))))))
theorem kw270 : (Cond.methodLink R_PR 31 y_PR_takeOver : Cond) ∈ allW := (List.mem_append_left _ (List.mem_append_left _ (List.mem_append_left _ (List.mem_append_left _ (List.mem_append_left _ (List.mem_append_left _ (List.mem_append_left _ (List.mem_append_right _ (List.mem_of_getElem? (i := 30) (l := allW_4) rfl)))))))))
theorem kw271 : (Cond.instanceMethod y_PR_takeOver : Cond) ∈ allW := (List.mem_append_left _ (List.mem_append_left _ (List.mem_append_left _ (List.mem_append_left _ (List.mem_append_left _ (List.mem_append_left _ (List.mem_append_left _ (List.mem_append_right _ (List.mem_of_getElem? (i := 31) (l := allW_4) rfl)))))))))
theorem kw272 : (Cond.code y_PR_takeOver prog_5_method_5_code 3 none : Cond) ∈ allW := (List.mem_append_left _ (List.mem_append_left _ (List.mem_append_left _ (List.mem_append_left _ (List.mem_append_left _ (List.mem_append_left _ (List.mem_append_left _ (List.mem_append_right _ (List.mem_of_getElem? (i := 32) (l := allW_4) rfl)))))))))
theorem kw273 : (Cond.methodLink R_PR 59 y_MT_callsOf : Cond) ∈ allW := (List.mem_append_left _ (List.mem_append_left _ (List.mem_append_left _ (List.mem_append_left _ (List.mem_append_left _ (List.mem_append_left _ (List.mem_append_left _ (List.mem_append_right _ (List.mem_of_getElem? (i := 33) (l := allW_4) rfl)))))))))
theorem kw274 : (Cond.instanceMethod y_MT_callsOf : Cond) ∈ allW := (List.mem_append_left _ (List.mem_append_left _ (List.mem_append_left _ (List.mem_append_left _ (List.mem_append_left _ (List.mem_append_left _ (List.mem_append_left _ (List.mem_append_right _ (List.mem_of_getElem? (i := 34) (l := allW_4) rfl)))))))))
theorem kw275 : (Cond.selects R_MT y_MT_callsOf y_MT_callsOf : Cond) ∈ allW := (List.mem_append_left _ (List.mem_append_left _ (List.mem_append_left _ (List.mem_append_left _ (List.mem_append_left _ (List.mem_append_left _ (List.mem_append_left _ (List.mem_append_right _ (List.mem_of_getElem? (i := 35) (l := allW_4) rfl)))))))))
theorem kw276 : (Cond.code y_MT_callsOf prog_4_method_16_code 2 (some .int) : Cond) ∈ allW := (List.mem_append_left _ (List.mem_append_left _ (List.mem_append_left _ (List.mem_append_left _ (List.mem_append_left _ (List.mem_append_left _ (List.mem_append_left _ (List.mem_append_right _ (List.mem_of_getElem? (i := 36) (l := allW_4) rfl)))))))))
theorem kw277 : (Cond.methodLink R_PR 35 y_PR_lacksOne : Cond) ∈ allW := (List.mem_append_left _ (List.mem_append_left _ (List.mem_append_left _ (List.mem_append_left _ (List.mem_append_left _ (List.mem_append_left _ (List.mem_append_left _ (List.mem_append_right _ (List.mem_of_getElem? (i := 37) (l := allW_4) rfl)))))))))
theorem kw278 : (Cond.instanceMethod y_PR_lacksOne : Cond) ∈ allW := (List.mem_append_left _ (List.mem_append_left _ (List.mem_append_left _ (List.mem_append_left _ (List.mem_append_left _ (List.mem_append_left _ (List.mem_append_left _ (List.mem_append_right _ (List.mem_of_getElem? (i := 38) (l := allW_4) rfl)))))))))
theorem kw279 : (Cond.code y_PR_lacksOne prog_5_method_6_code 3 (some .boolean) : Cond) ∈ allW := (List.mem_append_left _ (List.mem_append_left _ (List.mem_append_left _ (List.mem_append_left _ (List.mem_append_left _ (List.mem_append_left _ (List.mem_append_left _ (List.mem_append_right _ (List.mem_of_getElem? (i := 39) (l := allW_4) rfl)))))))))
theorem kw280 : (Cond.methodLink R_PR 39 y_PR_followChains : Cond) ∈ allW := (List.mem_append_left _ (List.mem_append_left _ (List.mem_append_left _ (List.mem_append_left _ (List.mem_append_left _ (List.mem_append_left _ (List.mem_append_left _ (List.mem_append_right _ (List.mem_of_getElem? (i := 40) (l := allW_4) rfl)))))))))
theorem kw281 : (Cond.instanceMethod y_PR_followChains : Cond) ∈ allW := (List.mem_append_left _ (List.mem_append_left _ (List.mem_append_left _ (List.mem_append_left _ (List.mem_append_left _ (List.mem_append_left _ (List.mem_append_left _ (List.mem_append_right _ (List.mem_of_getElem? (i := 41) (l := allW_4) rfl)))))))))
theorem kw282 : (Cond.code y_PR_followChains prog_5_method_7_code 3 none : Cond) ∈ allW := (List.mem_append_left _ (List.mem_append_left _ (List.mem_append_left _ (List.mem_append_left _ (List.mem_append_left _ (List.mem_append_left _ (List.mem_append_left _ (List.mem_append_right _ (List.mem_of_getElem? (i := 42) (l := allW_4) rfl)))))))))
theorem kw283 : (Cond.methodLink R_PR 42 y_PR_hasCircle : Cond) ∈ allW := (List.mem_append_left _ (List.mem_append_left _ (List.mem_append_left _ (List.mem_append_left _ (List.mem_append_left _ (List.mem_append_left _ (List.mem_append_left _ (List.mem_append_right _ (List.mem_of_getElem? (i := 43) (l := allW_4) rfl)))))))))
theorem kw284 : (Cond.instanceMethod y_PR_hasCircle : Cond) ∈ allW := (List.mem_append_left _ (List.mem_append_left _ (List.mem_append_left _ (List.mem_append_left _ (List.mem_append_left _ (List.mem_append_left _ (List.mem_append_left _ (List.mem_append_right _ (List.mem_of_getElem? (i := 44) (l := allW_4) rfl)))))))))
theorem kw285 : (Cond.code y_PR_hasCircle prog_5_method_8_code 2 (some .boolean) : Cond) ∈ allW := (List.mem_append_left _ (List.mem_append_left _ (List.mem_append_left _ (List.mem_append_left _ (List.mem_append_left _ (List.mem_append_left _ (List.mem_append_left _ (List.mem_append_right _ (List.mem_of_getElem? (i := 45) (l := allW_4) rfl)))))))))
theorem kw286 : (Cond.methodLink R_PR 45 y_JI_bitCount : Cond) ∈ allW := (List.mem_append_left _ (List.mem_append_left _ (List.mem_append_left _ (List.mem_append_left _ (List.mem_append_left _ (List.mem_append_left _ (List.mem_append_left _ (List.mem_append_right _ (List.mem_of_getElem? (i := 46) (l := allW_4) rfl)))))))))
theorem kw287 : (Cond.methodLink "GateStackLaw" 36 y_GS_start : Cond) ∈ allW := (List.mem_append_left _ (List.mem_append_left _ (List.mem_append_left _ (List.mem_append_left _ (List.mem_append_left _ (List.mem_append_left _ (List.mem_append_left _ (List.mem_append_right _ (List.mem_of_getElem? (i := 47) (l := allW_4) rfl)))))))))
theorem kw288 : (Cond.instanceMethod y_GS_start : Cond) ∈ allW := (List.mem_append_left _ (List.mem_append_left _ (List.mem_append_left _ (List.mem_append_left _ (List.mem_append_left _ (List.mem_append_left _ (List.mem_append_left _ (List.mem_append_right _ (List.mem_of_getElem? (i := 48) (l := allW_4) rfl)))))))))
theorem kw289 : (Cond.selects R_GS y_GS_start y_GS_start : Cond) ∈ allW := (List.mem_append_left _ (List.mem_append_left _ (List.mem_append_left _ (List.mem_append_left _ (List.mem_append_left _ (List.mem_append_left _ (List.mem_append_left _ (List.mem_append_right _ (List.mem_of_getElem? (i := 49) (l := allW_4) rfl)))))))))
theorem kw290 : (Cond.code y_GS_start prog_1_method_7_code 1 (some .int) : Cond) ∈ allW := (List.mem_append_left _ (List.mem_append_left _ (List.mem_append_left _ (List.mem_append_left _ (List.mem_append_left _ (List.mem_append_left _ (List.mem_append_left _ (List.mem_append_right _ (List.mem_of_getElem? (i := 50) (l := allW_4) rfl)))))))))
theorem kw291 : (Cond.methodLink R_GS 93 y_MA_isGoing : Cond) ∈ allW := (List.mem_append_left _ (List.mem_append_left _ (List.mem_append_left _ (List.mem_append_left _ (List.mem_append_left _ (List.mem_append_left _ (List.mem_append_left _ (List.mem_append_right _ (List.mem_of_getElem? (i := 51) (l := allW_4) rfl)))))))))
theorem kw292 : (Cond.instanceMethod y_MA_isGoing : Cond) ∈ allW := (List.mem_append_left _ (List.mem_append_left _ (List.mem_append_left _ (List.mem_append_left _ (List.mem_append_left _ (List.mem_append_left _ (List.mem_append_left _ (List.mem_append_right _ (List.mem_of_getElem? (i := 52) (l := allW_4) rfl)))))))))
theorem kw293 : (Cond.selects R_MA y_MA_isGoing y_MA_isGoing : Cond) ∈ allW := (List.mem_append_left _ (List.mem_append_left _ (List.mem_append_left _ (List.mem_append_left _ (List.mem_append_left _ (List.mem_append_left _ (List.mem_append_left _ (List.mem_append_right _ (List.mem_of_getElem? (i := 53) (l := allW_4) rfl)))))))))
theorem kw294 : (Cond.code y_MA_isGoing prog_3_method_2_code 1 (some .boolean) : Cond) ∈ allW := (List.mem_append_left _ (List.mem_append_left _ (List.mem_append_left _ (List.mem_append_left _ (List.mem_append_left _ (List.mem_append_left _ (List.mem_append_left _ (List.mem_append_right _ (List.mem_of_getElem? (i := 54) (l := allW_4) rfl)))))))))
theorem kw295 : (Cond.methodLink R_GS 96 y_MA_begin : Cond) ∈ allW := (List.mem_append_left _ (List.mem_append_left _ (List.mem_append_left _ (List.mem_append_left _ (List.mem_append_left _ (List.mem_append_left _ (List.mem_append_left _ (List.mem_append_right _ (List.mem_of_getElem? (i := 55) (l := allW_4) rfl)))))))))
theorem kw296 : (Cond.instanceMethod y_MA_begin : Cond) ∈ allW := (List.mem_append_left _ (List.mem_append_left _ (List.mem_append_left _ (List.mem_append_left _ (List.mem_append_left _ (List.mem_append_left _ (List.mem_append_left _ (List.mem_append_right _ (List.mem_of_getElem? (i := 56) (l := allW_4) rfl)))))))))
theorem kw297 : (Cond.selects R_MA y_MA_begin y_MA_begin : Cond) ∈ allW := (List.mem_append_left _ (List.mem_append_left _ (List.mem_append_left _ (List.mem_append_left _ (List.mem_append_left _ (List.mem_append_left _ (List.mem_append_left _ (List.mem_append_right _ (List.mem_of_getElem? (i := 57) (l := allW_4) rfl)))))))))
theorem kw298 : (Cond.code y_MA_begin prog_3_method_10_code 2 none : Cond) ∈ allW := (List.mem_append_left _ (List.mem_append_left _ (List.mem_append_left _ (List.mem_append_left _ (List.mem_append_left _ (List.mem_append_left _ (List.mem_append_left _ (List.mem_append_right _ (List.mem_of_getElem? (i := 58) (l := allW_4) rfl)))))))))
theorem kw299 : (Cond.methodLink R_MA 42 y_MA_enter : Cond) ∈ allW := (List.mem_append_left _ (List.mem_append_left _ (List.mem_append_left _ (List.mem_append_left _ (List.mem_append_left _ (List.mem_append_left _ (List.mem_append_left _ (List.mem_append_right _ (List.mem_of_getElem? (i := 59) (l := allW_4) rfl)))))))))
theorem kw300 : (Cond.instanceMethod y_MA_enter : Cond) ∈ allW := (List.mem_append_left _ (List.mem_append_left _ (List.mem_append_left _ (List.mem_append_left _ (List.mem_append_left _ (List.mem_append_left _ (List.mem_append_right _ (List.mem_of_getElem? (i := 0) (l := allW_5) rfl))))))))
theorem kw301 : (Cond.code y_MA_enter prog_3_method_13_code 4 none : Cond) ∈ allW := (List.mem_append_left _ (List.mem_append_left _ (List.mem_append_left _ (List.mem_append_left _ (List.mem_append_left _ (List.mem_append_left _ (List.mem_append_right _ (List.mem_of_getElem? (i := 1) (l := allW_5) rfl))))))))
theorem kw302 : (Cond.methodLink R_MA 60 y_PR_homeOf : Cond) ∈ allW := (List.mem_append_left _ (List.mem_append_left _ (List.mem_append_left _ (List.mem_append_left _ (List.mem_append_left _ (List.mem_append_left _ (List.mem_append_right _ (List.mem_of_getElem? (i := 2) (l := allW_5) rfl))))))))
theorem kw303 : (Cond.instanceMethod y_PR_homeOf : Cond) ∈ allW := (List.mem_append_left _ (List.mem_append_left _ (List.mem_append_left _ (List.mem_append_left _ (List.mem_append_left _ (List.mem_append_left _ (List.mem_append_right _ (List.mem_of_getElem? (i := 3) (l := allW_5) rfl))))))))
theorem kw304 : (Cond.selects R_PR y_PR_homeOf y_PR_homeOf : Cond) ∈ allW := (List.mem_append_left _ (List.mem_append_left _ (List.mem_append_left _ (List.mem_append_left _ (List.mem_append_left _ (List.mem_append_left _ (List.mem_append_right _ (List.mem_of_getElem? (i := 4) (l := allW_5) rfl))))))))
theorem kw305 : (Cond.code y_PR_homeOf prog_5_method_3_code 2 (some (.object "GateStack$ModuleText")) : Cond) ∈ allW := (List.mem_append_left _ (List.mem_append_left _ (List.mem_append_left _ (List.mem_append_left _ (List.mem_append_left _ (List.mem_append_left _ (List.mem_append_right _ (List.mem_of_getElem? (i := 5) (l := allW_5) rfl))))))))
theorem kw306 : (Cond.methodLink R_MA 66 y_MT_firstPlaceOf : Cond) ∈ allW := (List.mem_append_left _ (List.mem_append_left _ (List.mem_append_left _ (List.mem_append_left _ (List.mem_append_left _ (List.mem_append_left _ (List.mem_append_right _ (List.mem_of_getElem? (i := 6) (l := allW_5) rfl))))))))
theorem kw307 : (Cond.instanceMethod y_MT_firstPlaceOf : Cond) ∈ allW := (List.mem_append_left _ (List.mem_append_left _ (List.mem_append_left _ (List.mem_append_left _ (List.mem_append_left _ (List.mem_append_left _ (List.mem_append_right _ (List.mem_of_getElem? (i := 7) (l := allW_5) rfl))))))))
theorem kw308 : (Cond.selects R_MT y_MT_firstPlaceOf y_MT_firstPlaceOf : Cond) ∈ allW := (List.mem_append_left _ (List.mem_append_left _ (List.mem_append_left _ (List.mem_append_left _ (List.mem_append_left _ (List.mem_append_left _ (List.mem_append_right _ (List.mem_of_getElem? (i := 8) (l := allW_5) rfl))))))))
theorem kw309 : (Cond.code y_MT_firstPlaceOf prog_4_method_17_code 2 (some .int) : Cond) ∈ allW := (List.mem_append_left _ (List.mem_append_left _ (List.mem_append_left _ (List.mem_append_left _ (List.mem_append_left _ (List.mem_append_left _ (List.mem_append_right _ (List.mem_of_getElem? (i := 9) (l := allW_5) rfl))))))))
theorem kw310 : (Cond.methodLink R_MA 46 y_MA_leaveEndedBlocks : Cond) ∈ allW := (List.mem_append_left _ (List.mem_append_left _ (List.mem_append_left _ (List.mem_append_left _ (List.mem_append_left _ (List.mem_append_left _ (List.mem_append_right _ (List.mem_of_getElem? (i := 10) (l := allW_5) rfl))))))))
theorem kw311 : (Cond.instanceMethod y_MA_leaveEndedBlocks : Cond) ∈ allW := (List.mem_append_left _ (List.mem_append_left _ (List.mem_append_left _ (List.mem_append_left _ (List.mem_append_left _ (List.mem_append_left _ (List.mem_append_right _ (List.mem_of_getElem? (i := 11) (l := allW_5) rfl))))))))
theorem kw312 : (Cond.code y_MA_leaveEndedBlocks prog_3_method_16_code 5 none : Cond) ∈ allW := (List.mem_append_left _ (List.mem_append_left _ (List.mem_append_left _ (List.mem_append_left _ (List.mem_append_left _ (List.mem_append_left _ (List.mem_append_right _ (List.mem_of_getElem? (i := 12) (l := allW_5) rfl))))))))
theorem kw313 : (Cond.methodLink R_MA 32 y_MA_currentText : Cond) ∈ allW := (List.mem_append_left _ (List.mem_append_left _ (List.mem_append_left _ (List.mem_append_left _ (List.mem_append_left _ (List.mem_append_left _ (List.mem_append_right _ (List.mem_of_getElem? (i := 13) (l := allW_5) rfl))))))))
theorem kw314 : (Cond.instanceMethod y_MA_currentText : Cond) ∈ allW := (List.mem_append_left _ (List.mem_append_left _ (List.mem_append_left _ (List.mem_append_left _ (List.mem_append_left _ (List.mem_append_left _ (List.mem_append_right _ (List.mem_of_getElem? (i := 14) (l := allW_5) rfl))))))))
theorem kw315 : (Cond.code y_MA_currentText prog_3_method_12_code 2 (some (.object "GateStack$ModuleText")) : Cond) ∈ allW := (List.mem_append_left _ (List.mem_append_left _ (List.mem_append_left _ (List.mem_append_left _ (List.mem_append_left _ (List.mem_append_left _ (List.mem_append_right _ (List.mem_of_getElem? (i := 15) (l := allW_5) rfl))))))))
theorem kw316 : (Cond.methodLink R_MA 50 y_MT_signAt : Cond) ∈ allW := (List.mem_append_left _ (List.mem_append_left _ (List.mem_append_left _ (List.mem_append_left _ (List.mem_append_left _ (List.mem_append_left _ (List.mem_append_right _ (List.mem_of_getElem? (i := 16) (l := allW_5) rfl))))))))
theorem kw317 : (Cond.methodLink R_MA 93 y_MT_endsProcedure : Cond) ∈ allW := (List.mem_append_left _ (List.mem_append_left _ (List.mem_append_left _ (List.mem_append_left _ (List.mem_append_left _ (List.mem_append_left _ (List.mem_append_right _ (List.mem_of_getElem? (i := 17) (l := allW_5) rfl))))))))
theorem kw318 : (Cond.instanceMethod y_MT_endsProcedure : Cond) ∈ allW := (List.mem_append_left _ (List.mem_append_left _ (List.mem_append_left _ (List.mem_append_left _ (List.mem_append_left _ (List.mem_append_left _ (List.mem_append_right _ (List.mem_of_getElem? (i := 18) (l := allW_5) rfl))))))))
theorem kw319 : (Cond.selects R_MT y_MT_endsProcedure y_MT_endsProcedure : Cond) ∈ allW := (List.mem_append_left _ (List.mem_append_left _ (List.mem_append_left _ (List.mem_append_left _ (List.mem_append_left _ (List.mem_append_left _ (List.mem_append_right _ (List.mem_of_getElem? (i := 19) (l := allW_5) rfl))))))))
theorem kw320 : (Cond.code y_MT_endsProcedure prog_4_method_18_code 2 (some .boolean) : Cond) ∈ allW := (List.mem_append_left _ (List.mem_append_left _ (List.mem_append_left _ (List.mem_append_left _ (List.mem_append_left _ (List.mem_append_left _ (List.mem_append_right _ (List.mem_of_getElem? (i := 20) (l := allW_5) rfl))))))))
theorem kw321 : (Cond.methodLink R_MT 58 y_MT_signAt : Cond) ∈ allW := (List.mem_append_left _ (List.mem_append_left _ (List.mem_append_left _ (List.mem_append_left _ (List.mem_append_left _ (List.mem_append_left _ (List.mem_append_right _ (List.mem_of_getElem? (i := 21) (l := allW_5) rfl))))))))
theorem kw322 : (Cond.methodLink R_MA 96 y_MT_behindBlock : Cond) ∈ allW := (List.mem_append_left _ (List.mem_append_left _ (List.mem_append_left _ (List.mem_append_left _ (List.mem_append_left _ (List.mem_append_left _ (List.mem_append_right _ (List.mem_of_getElem? (i := 22) (l := allW_5) rfl))))))))
theorem kw323 : (Cond.instanceMethod y_MT_behindBlock : Cond) ∈ allW := (List.mem_append_left _ (List.mem_append_left _ (List.mem_append_left _ (List.mem_append_left _ (List.mem_append_left _ (List.mem_append_left _ (List.mem_append_right _ (List.mem_of_getElem? (i := 23) (l := allW_5) rfl))))))))
theorem kw324 : (Cond.selects R_MT y_MT_behindBlock y_MT_behindBlock : Cond) ∈ allW := (List.mem_append_left _ (List.mem_append_left _ (List.mem_append_left _ (List.mem_append_left _ (List.mem_append_left _ (List.mem_append_left _ (List.mem_append_right _ (List.mem_of_getElem? (i := 24) (l := allW_5) rfl))))))))
theorem kw325 : (Cond.code y_MT_behindBlock prog_4_method_19_code 3 (some .int) : Cond) ∈ allW := (List.mem_append_left _ (List.mem_append_left _ (List.mem_append_left _ (List.mem_append_left _ (List.mem_append_left _ (List.mem_append_left _ (List.mem_append_right _ (List.mem_of_getElem? (i := 25) (l := allW_5) rfl))))))))
theorem kw326 : (Cond.methodLink R_MT 65 y_MT_behindEndOf : Cond) ∈ allW := (List.mem_append_left _ (List.mem_append_left _ (List.mem_append_left _ (List.mem_append_left _ (List.mem_append_left _ (List.mem_append_left _ (List.mem_append_right _ (List.mem_of_getElem? (i := 26) (l := allW_5) rfl))))))))
theorem kw327 : (Cond.instanceMethod y_MT_behindEndOf : Cond) ∈ allW := (List.mem_append_left _ (List.mem_append_left _ (List.mem_append_left _ (List.mem_append_left _ (List.mem_append_left _ (List.mem_append_left _ (List.mem_append_right _ (List.mem_of_getElem? (i := 27) (l := allW_5) rfl))))))))
theorem kw328 : (Cond.code y_MT_behindEndOf prog_4_method_21_code 2 (some .int) : Cond) ∈ allW := (List.mem_append_left _ (List.mem_append_left _ (List.mem_append_left _ (List.mem_append_left _ (List.mem_append_left _ (List.mem_append_left _ (List.mem_append_right _ (List.mem_of_getElem? (i := 28) (l := allW_5) rfl))))))))
theorem kw329 : (Cond.methodLink "GateStackLaw" 40 y_GS_run : Cond) ∈ allW := (List.mem_append_left _ (List.mem_append_left _ (List.mem_append_left _ (List.mem_append_left _ (List.mem_append_left _ (List.mem_append_left _ (List.mem_append_right _ (List.mem_of_getElem? (i := 29) (l := allW_5) rfl))))))))
theorem kw330 : (Cond.instanceMethod y_GS_run : Cond) ∈ allW := (List.mem_append_left _ (List.mem_append_left _ (List.mem_append_left _ (List.mem_append_left _ (List.mem_append_left _ (List.mem_append_left _ (List.mem_append_right _ (List.mem_of_getElem? (i := 30) (l := allW_5) rfl))))))))
theorem kw331 : (Cond.selects R_GS y_GS_run y_GS_run : Cond) ∈ allW := (List.mem_append_left _ (List.mem_append_left _ (List.mem_append_left _ (List.mem_append_left _ (List.mem_append_left _ (List.mem_append_left _ (List.mem_append_right _ (List.mem_of_getElem? (i := 31) (l := allW_5) rfl))))))))
theorem kw332 : (Cond.code y_GS_run prog_1_method_8_code 3 (some .int) : Cond) ∈ allW := (List.mem_append_left _ (List.mem_append_left _ (List.mem_append_left _ (List.mem_append_left _ (List.mem_append_left _ (List.mem_append_left _ (List.mem_append_right _ (List.mem_of_getElem? (i := 32) (l := allW_5) rfl))))))))
theorem kw333 : (Cond.methodLink R_GS 100 y_MA_step : Cond) ∈ allW := (List.mem_append_left _ (List.mem_append_left _ (List.mem_append_left _ (List.mem_append_left _ (List.mem_append_left _ (List.mem_append_left _ (List.mem_append_right _ (List.mem_of_getElem? (i := 33) (l := allW_5) rfl))))))))
theorem kw334 : (Cond.instanceMethod y_MA_step : Cond) ∈ allW := (List.mem_append_left _ (List.mem_append_left _ (List.mem_append_left _ (List.mem_append_left _ (List.mem_append_left _ (List.mem_append_left _ (List.mem_append_right _ (List.mem_of_getElem? (i := 34) (l := allW_5) rfl))))))))
theorem kw335 : (Cond.selects R_MA y_MA_step y_MA_step : Cond) ∈ allW := (List.mem_append_left _ (List.mem_append_left _ (List.mem_append_left _ (List.mem_append_left _ (List.mem_append_left _ (List.mem_append_left _ (List.mem_append_right _ (List.mem_of_getElem? (i := 35) (l := allW_5) rfl))))))))
theorem kw336 : (Cond.code y_MA_step prog_3_method_11_code 7 none : Cond) ∈ allW := (List.mem_append_left _ (List.mem_append_left _ (List.mem_append_left _ (List.mem_append_left _ (List.mem_append_left _ (List.mem_append_left _ (List.mem_append_right _ (List.mem_of_getElem? (i := 36) (l := allW_5) rfl))))))))
theorem kw337 : (Cond.methodLink R_MA 56 y_MA_placeBehind : Cond) ∈ allW := (List.mem_append_left _ (List.mem_append_left _ (List.mem_append_left _ (List.mem_append_left _ (List.mem_append_left _ (List.mem_append_left _ (List.mem_append_right _ (List.mem_of_getElem? (i := 37) (l := allW_5) rfl))))))))
theorem kw338 : (Cond.instanceMethod y_MA_placeBehind : Cond) ∈ allW := (List.mem_append_left _ (List.mem_append_left _ (List.mem_append_left _ (List.mem_append_left _ (List.mem_append_left _ (List.mem_append_left _ (List.mem_append_right _ (List.mem_of_getElem? (i := 38) (l := allW_5) rfl))))))))
theorem kw339 : (Cond.code y_MA_placeBehind prog_3_method_14_code 8 (some .int) : Cond) ∈ allW := (List.mem_append_left _ (List.mem_append_left _ (List.mem_append_left _ (List.mem_append_left _ (List.mem_append_left _ (List.mem_append_left _ (List.mem_append_right _ (List.mem_of_getElem? (i := 39) (l := allW_5) rfl))))))))
theorem kw340 : (Cond.methodLink R_MA 72 y_CA_valueAt : Cond) ∈ allW := (List.mem_append_left _ (List.mem_append_left _ (List.mem_append_left _ (List.mem_append_left _ (List.mem_append_left _ (List.mem_append_left _ (List.mem_append_right _ (List.mem_of_getElem? (i := 40) (l := allW_5) rfl))))))))
theorem kw341 : (Cond.instanceMethod y_CA_valueAt : Cond) ∈ allW := (List.mem_append_left _ (List.mem_append_left _ (List.mem_append_left _ (List.mem_append_left _ (List.mem_append_left _ (List.mem_append_left _ (List.mem_append_right _ (List.mem_of_getElem? (i := 41) (l := allW_5) rfl))))))))
theorem kw342 : (Cond.selects R_CA y_CA_valueAt y_CA_valueAt : Cond) ∈ allW := (List.mem_append_left _ (List.mem_append_left _ (List.mem_append_left _ (List.mem_append_left _ (List.mem_append_left _ (List.mem_append_left _ (List.mem_append_right _ (List.mem_of_getElem? (i := 42) (l := allW_5) rfl))))))))
theorem kw343 : (Cond.code y_CA_valueAt prog_2_method_4_code 3 (some .int) : Cond) ∈ allW := (List.mem_append_left _ (List.mem_append_left _ (List.mem_append_left _ (List.mem_append_left _ (List.mem_append_left _ (List.mem_append_left _ (List.mem_append_right _ (List.mem_of_getElem? (i := 43) (l := allW_5) rfl))))))))
theorem kw344 : (Cond.methodLink R_CA 23 y_CA_expression : Cond) ∈ allW := (List.mem_append_left _ (List.mem_append_left _ (List.mem_append_left _ (List.mem_append_left _ (List.mem_append_left _ (List.mem_append_left _ (List.mem_append_right _ (List.mem_of_getElem? (i := 44) (l := allW_5) rfl))))))))
theorem kw345 : (Cond.instanceMethod y_CA_expression : Cond) ∈ allW := (List.mem_append_left _ (List.mem_append_left _ (List.mem_append_left _ (List.mem_append_left _ (List.mem_append_left _ (List.mem_append_left _ (List.mem_append_right _ (List.mem_of_getElem? (i := 45) (l := allW_5) rfl))))))))
theorem kw346 : (Cond.code y_CA_expression prog_2_method_6_code 6 (some .int) : Cond) ∈ allW := (List.mem_append_left _ (List.mem_append_left _ (List.mem_append_left _ (List.mem_append_left _ (List.mem_append_left _ (List.mem_append_left _ (List.mem_append_right _ (List.mem_of_getElem? (i := 46) (l := allW_5) rfl))))))))
theorem kw347 : (Cond.methodLink R_CA 27 y_CA_operand : Cond) ∈ allW := (List.mem_append_left _ (List.mem_append_left _ (List.mem_append_left _ (List.mem_append_left _ (List.mem_append_left _ (List.mem_append_left _ (List.mem_append_right _ (List.mem_of_getElem? (i := 47) (l := allW_5) rfl))))))))
theorem kw348 : (Cond.instanceMethod y_CA_operand : Cond) ∈ allW := (List.mem_append_left _ (List.mem_append_left _ (List.mem_append_left _ (List.mem_append_left _ (List.mem_append_left _ (List.mem_append_left _ (List.mem_append_right _ (List.mem_of_getElem? (i := 48) (l := allW_5) rfl))))))))
theorem kw349 : (Cond.code y_CA_operand prog_2_method_7_code 5 (some .int) : Cond) ∈ allW := (List.mem_append_left _ (List.mem_append_left _ (List.mem_append_left _ (List.mem_append_left _ (List.mem_append_left _ (List.mem_append_left _ (List.mem_append_right _ (List.mem_of_getElem? (i := 49) (l := allW_5) rfl))))))))
theorem kw350 : (Cond.methodLink R_CA 30 y_MT_signAt : Cond) ∈ allW := (List.mem_append_left _ (List.mem_append_left _ (List.mem_append_left _ (List.mem_append_left _ (List.mem_append_left _ (List.mem_append_left _ (List.mem_append_right _ (List.mem_of_getElem? (i := 50) (l := allW_5) rfl))))))))
theorem kw351 : (Cond.methodLink R_CA 46 y_CA_number : Cond) ∈ allW := (List.mem_append_left _ (List.mem_append_left _ (List.mem_append_left _ (List.mem_append_left _ (List.mem_append_left _ (List.mem_append_left _ (List.mem_append_right _ (List.mem_of_getElem? (i := 51) (l := allW_5) rfl))))))))
theorem kw352 : (Cond.instanceMethod y_CA_number : Cond) ∈ allW := (List.mem_append_left _ (List.mem_append_left _ (List.mem_append_left _ (List.mem_append_left _ (List.mem_append_left _ (List.mem_append_left _ (List.mem_append_right _ (List.mem_of_getElem? (i := 52) (l := allW_5) rfl))))))))
theorem kw353 : (Cond.code y_CA_number prog_2_method_8_code 4 (some .int) : Cond) ∈ allW := (List.mem_append_left _ (List.mem_append_left _ (List.mem_append_left _ (List.mem_append_left _ (List.mem_append_left _ (List.mem_append_left _ (List.mem_append_right _ (List.mem_of_getElem? (i := 53) (l := allW_5) rfl))))))))
theorem kw354 : (Cond.static y_GS_worked : Cond) ∈ allW := (List.mem_append_left _ (List.mem_append_left _ (List.mem_append_left _ (List.mem_append_left _ (List.mem_append_left _ (List.mem_append_left _ (List.mem_append_right _ (List.mem_of_getElem? (i := 54) (l := allW_5) rfl))))))))
theorem kw355 : (Cond.code y_GS_worked prog_1_method_26_code 3 (some .int) : Cond) ∈ allW := (List.mem_append_left _ (List.mem_append_left _ (List.mem_append_left _ (List.mem_append_left _ (List.mem_append_left _ (List.mem_append_left _ (List.mem_append_right _ (List.mem_of_getElem? (i := 55) (l := allW_5) rfl))))))))
theorem kw356 : (Cond.methodLink R_MA 78 y_CA_cursor : Cond) ∈ allW := (List.mem_append_left _ (List.mem_append_left _ (List.mem_append_left _ (List.mem_append_left _ (List.mem_append_left _ (List.mem_append_left _ (List.mem_append_right _ (List.mem_of_getElem? (i := 56) (l := allW_5) rfl))))))))
theorem kw357 : (Cond.instanceMethod y_CA_cursor : Cond) ∈ allW := (List.mem_append_left _ (List.mem_append_left _ (List.mem_append_left _ (List.mem_append_left _ (List.mem_append_left _ (List.mem_append_left _ (List.mem_append_right _ (List.mem_of_getElem? (i := 57) (l := allW_5) rfl))))))))
theorem kw358 : (Cond.selects R_CA y_CA_cursor y_CA_cursor : Cond) ∈ allW := (List.mem_append_left _ (List.mem_append_left _ (List.mem_append_left _ (List.mem_append_left _ (List.mem_append_left _ (List.mem_append_left _ (List.mem_append_right _ (List.mem_of_getElem? (i := 58) (l := allW_5) rfl))))))))
theorem kw359 : (Cond.code y_CA_cursor prog_2_method_5_code 1 (some .int) : Cond) ∈ allW := (List.mem_append_left _ (List.mem_append_left _ (List.mem_append_left _ (List.mem_append_left _ (List.mem_append_left _ (List.mem_append_left _ (List.mem_append_right _ (List.mem_of_getElem? (i := 59) (l := allW_5) rfl))))))))
theorem kw360 : (Cond.methodLink R_MA 82 y_CA_assign : Cond) ∈ allW := (List.mem_append_left _ (List.mem_append_left _ (List.mem_append_left _ (List.mem_append_left _ (List.mem_append_left _ (List.mem_append_right _ (List.mem_of_getElem? (i := 0) (l := allW_6) rfl)))))))
theorem kw361 : (Cond.instanceMethod y_CA_assign : Cond) ∈ allW := (List.mem_append_left _ (List.mem_append_left _ (List.mem_append_left _ (List.mem_append_left _ (List.mem_append_left _ (List.mem_append_right _ (List.mem_of_getElem? (i := 1) (l := allW_6) rfl)))))))
theorem kw362 : (Cond.selects R_CA y_CA_assign y_CA_assign : Cond) ∈ allW := (List.mem_append_left _ (List.mem_append_left _ (List.mem_append_left _ (List.mem_append_left _ (List.mem_append_left _ (List.mem_append_right _ (List.mem_of_getElem? (i := 2) (l := allW_6) rfl)))))))
theorem kw363 : (Cond.code y_CA_assign prog_2_method_2_code 3 (some .boolean) : Cond) ∈ allW := (List.mem_append_left _ (List.mem_append_left _ (List.mem_append_left _ (List.mem_append_left _ (List.mem_append_left _ (List.mem_append_right _ (List.mem_of_getElem? (i := 3) (l := allW_6) rfl)))))))
theorem kw364 : (Cond.static y_GS_isVariableNumber : Cond) ∈ allW := (List.mem_append_left _ (List.mem_append_left _ (List.mem_append_left _ (List.mem_append_left _ (List.mem_append_left _ (List.mem_append_right _ (List.mem_of_getElem? (i := 4) (l := allW_6) rfl)))))))
theorem kw365 : (Cond.code y_GS_isVariableNumber prog_1_method_18_code 1 (some .boolean) : Cond) ∈ allW := (List.mem_append_left _ (List.mem_append_left _ (List.mem_append_left _ (List.mem_append_left _ (List.mem_append_left _ (List.mem_append_right _ (List.mem_of_getElem? (i := 5) (l := allW_6) rfl)))))))
theorem kw366 : (Cond.methodLink R_MA 86 y_MA_keep : Cond) ∈ allW := (List.mem_append_left _ (List.mem_append_left _ (List.mem_append_left _ (List.mem_append_left _ (List.mem_append_left _ (List.mem_append_right _ (List.mem_of_getElem? (i := 6) (l := allW_6) rfl)))))))
theorem kw367 : (Cond.instanceMethod y_MA_keep : Cond) ∈ allW := (List.mem_append_left _ (List.mem_append_left _ (List.mem_append_left _ (List.mem_append_left _ (List.mem_append_left _ (List.mem_append_right _ (List.mem_of_getElem? (i := 7) (l := allW_6) rfl)))))))
theorem kw368 : (Cond.code y_MA_keep prog_3_method_15_code 2 none : Cond) ∈ allW := (List.mem_append_left _ (List.mem_append_left _ (List.mem_append_left _ (List.mem_append_left _ (List.mem_append_left _ (List.mem_append_right _ (List.mem_of_getElem? (i := 8) (l := allW_6) rfl)))))))
theorem kw369 : (Cond.methodLink R_MA 90 y_MT_placeIfZero : Cond) ∈ allW := (List.mem_append_left _ (List.mem_append_left _ (List.mem_append_left _ (List.mem_append_left _ (List.mem_append_left _ (List.mem_append_right _ (List.mem_of_getElem? (i := 9) (l := allW_6) rfl)))))))
theorem kw370 : (Cond.instanceMethod y_MT_placeIfZero : Cond) ∈ allW := (List.mem_append_left _ (List.mem_append_left _ (List.mem_append_left _ (List.mem_append_left _ (List.mem_append_left _ (List.mem_append_right _ (List.mem_of_getElem? (i := 10) (l := allW_6) rfl)))))))
theorem kw371 : (Cond.selects R_MT y_MT_placeIfZero y_MT_placeIfZero : Cond) ∈ allW := (List.mem_append_left _ (List.mem_append_left _ (List.mem_append_left _ (List.mem_append_left _ (List.mem_append_left _ (List.mem_append_right _ (List.mem_of_getElem? (i := 11) (l := allW_6) rfl)))))))
theorem kw372 : (Cond.code y_MT_placeIfZero prog_4_method_20_code 3 (some .int) : Cond) ∈ allW := (List.mem_append_left _ (List.mem_append_left _ (List.mem_append_left _ (List.mem_append_left _ (List.mem_append_left _ (List.mem_append_right _ (List.mem_of_getElem? (i := 12) (l := allW_6) rfl)))))))
theorem kw373 : (Cond.methodLink "GateStackLaw" 44 y_GS_stop : Cond) ∈ allW := (List.mem_append_left _ (List.mem_append_left _ (List.mem_append_left _ (List.mem_append_left _ (List.mem_append_left _ (List.mem_append_right _ (List.mem_of_getElem? (i := 13) (l := allW_6) rfl)))))))
theorem kw374 : (Cond.instanceMethod y_GS_stop : Cond) ∈ allW := (List.mem_append_left _ (List.mem_append_left _ (List.mem_append_left _ (List.mem_append_left _ (List.mem_append_left _ (List.mem_append_right _ (List.mem_of_getElem? (i := 14) (l := allW_6) rfl)))))))
theorem kw375 : (Cond.selects R_GS y_GS_stop y_GS_stop : Cond) ∈ allW := (List.mem_append_left _ (List.mem_append_left _ (List.mem_append_left _ (List.mem_append_left _ (List.mem_append_left _ (List.mem_append_right _ (List.mem_of_getElem? (i := 15) (l := allW_6) rfl)))))))
theorem kw376 : (Cond.code y_GS_stop prog_1_method_9_code 1 (some .int) : Cond) ∈ allW := (List.mem_append_left _ (List.mem_append_left _ (List.mem_append_left _ (List.mem_append_left _ (List.mem_append_left _ (List.mem_append_right _ (List.mem_of_getElem? (i := 16) (l := allW_6) rfl)))))))
theorem kw377 : (Cond.methodLink "GateStackLaw" 48 y_GS_set : Cond) ∈ allW := (List.mem_append_left _ (List.mem_append_left _ (List.mem_append_left _ (List.mem_append_left _ (List.mem_append_left _ (List.mem_append_right _ (List.mem_of_getElem? (i := 17) (l := allW_6) rfl)))))))
theorem kw378 : (Cond.instanceMethod y_GS_set : Cond) ∈ allW := (List.mem_append_left _ (List.mem_append_left _ (List.mem_append_left _ (List.mem_append_left _ (List.mem_append_left _ (List.mem_append_right _ (List.mem_of_getElem? (i := 18) (l := allW_6) rfl)))))))
theorem kw379 : (Cond.selects R_GS y_GS_set y_GS_set : Cond) ∈ allW := (List.mem_append_left _ (List.mem_append_left _ (List.mem_append_left _ (List.mem_append_left _ (List.mem_append_left _ (List.mem_append_right _ (List.mem_of_getElem? (i := 19) (l := allW_6) rfl)))))))
theorem kw380 : (Cond.code y_GS_set prog_1_method_10_code 3 (some .int) : Cond) ∈ allW := (List.mem_append_left _ (List.mem_append_left _ (List.mem_append_left _ (List.mem_append_left _ (List.mem_append_left _ (List.mem_append_right _ (List.mem_of_getElem? (i := 20) (l := allW_6) rfl)))))))
theorem kw381 : (Cond.methodLink R_GS 107 y_CA_assign : Cond) ∈ allW := (List.mem_append_left _ (List.mem_append_left _ (List.mem_append_left _ (List.mem_append_left _ (List.mem_append_left _ (List.mem_append_right _ (List.mem_of_getElem? (i := 21) (l := allW_6) rfl)))))))
theorem kw382 : (Cond.methodLink "GateStackLaw" 52 y_GS_get : Cond) ∈ allW := (List.mem_append_left _ (List.mem_append_left _ (List.mem_append_left _ (List.mem_append_left _ (List.mem_append_left _ (List.mem_append_right _ (List.mem_of_getElem? (i := 22) (l := allW_6) rfl)))))))
theorem kw383 : (Cond.instanceMethod y_GS_get : Cond) ∈ allW := (List.mem_append_left _ (List.mem_append_left _ (List.mem_append_left _ (List.mem_append_left _ (List.mem_append_left _ (List.mem_append_right _ (List.mem_of_getElem? (i := 23) (l := allW_6) rfl)))))))
theorem kw384 : (Cond.selects R_GS y_GS_get y_GS_get : Cond) ∈ allW := (List.mem_append_left _ (List.mem_append_left _ (List.mem_append_left _ (List.mem_append_left _ (List.mem_append_left _ (List.mem_append_right _ (List.mem_of_getElem? (i := 24) (l := allW_6) rfl)))))))
theorem kw385 : (Cond.code y_GS_get prog_1_method_11_code 2 (some .long) : Cond) ∈ allW := (List.mem_append_left _ (List.mem_append_left _ (List.mem_append_left _ (List.mem_append_left _ (List.mem_append_left _ (List.mem_append_right _ (List.mem_of_getElem? (i := 25) (l := allW_6) rfl)))))))
theorem kw386 : (Cond.methodLink R_GS 111 y_GS_isVariableNumber : Cond) ∈ allW := (List.mem_append_left _ (List.mem_append_left _ (List.mem_append_left _ (List.mem_append_left _ (List.mem_append_left _ (List.mem_append_right _ (List.mem_of_getElem? (i := 26) (l := allW_6) rfl)))))))
theorem kw387 : (Cond.methodLink R_GS 114 y_CA_variable : Cond) ∈ allW := (List.mem_append_left _ (List.mem_append_left _ (List.mem_append_left _ (List.mem_append_left _ (List.mem_append_left _ (List.mem_append_right _ (List.mem_of_getElem? (i := 27) (l := allW_6) rfl)))))))
theorem kw388 : (Cond.instanceMethod y_CA_variable : Cond) ∈ allW := (List.mem_append_left _ (List.mem_append_left _ (List.mem_append_left _ (List.mem_append_left _ (List.mem_append_left _ (List.mem_append_right _ (List.mem_of_getElem? (i := 28) (l := allW_6) rfl)))))))
theorem kw389 : (Cond.selects R_CA y_CA_variable y_CA_variable : Cond) ∈ allW := (List.mem_append_left _ (List.mem_append_left _ (List.mem_append_left _ (List.mem_append_left _ (List.mem_append_left _ (List.mem_append_right _ (List.mem_of_getElem? (i := 29) (l := allW_6) rfl)))))))
theorem kw390 : (Cond.code y_CA_variable prog_2_method_3_code 2 (some .int) : Cond) ∈ allW := (List.mem_append_left _ (List.mem_append_left _ (List.mem_append_left _ (List.mem_append_left _ (List.mem_append_left _ (List.mem_append_right _ (List.mem_of_getElem? (i := 30) (l := allW_6) rfl)))))))
theorem kw391 : (Cond.constantLong R_GS 117 (-1000000000000) : Cond) ∈ allW := (List.mem_append_left _ (List.mem_append_left _ (List.mem_append_left _ (List.mem_append_left _ (List.mem_append_left _ (List.mem_append_right _ (List.mem_of_getElem? (i := 31) (l := allW_6) rfl)))))))
theorem kw392 : (Cond.methodLink "GateStackLaw" 57 y_GS_output : Cond) ∈ allW := (List.mem_append_left _ (List.mem_append_left _ (List.mem_append_left _ (List.mem_append_left _ (List.mem_append_left _ (List.mem_append_right _ (List.mem_of_getElem? (i := 32) (l := allW_6) rfl)))))))
theorem kw393 : (Cond.instanceMethod y_GS_output : Cond) ∈ allW := (List.mem_append_left _ (List.mem_append_left _ (List.mem_append_left _ (List.mem_append_left _ (List.mem_append_left _ (List.mem_append_right _ (List.mem_of_getElem? (i := 33) (l := allW_6) rfl)))))))
theorem kw394 : (Cond.selects R_GS y_GS_output y_GS_output : Cond) ∈ allW := (List.mem_append_left _ (List.mem_append_left _ (List.mem_append_left _ (List.mem_append_left _ (List.mem_append_left _ (List.mem_append_right _ (List.mem_of_getElem? (i := 34) (l := allW_6) rfl)))))))
theorem kw395 : (Cond.code y_GS_output prog_1_method_12_code 2 (some .long) : Cond) ∈ allW := (List.mem_append_left _ (List.mem_append_left _ (List.mem_append_left _ (List.mem_append_left _ (List.mem_append_left _ (List.mem_append_right _ (List.mem_of_getElem? (i := 35) (l := allW_6) rfl)))))))
theorem kw396 : (Cond.methodLink R_GS 119 y_MA_hasKept : Cond) ∈ allW := (List.mem_append_left _ (List.mem_append_left _ (List.mem_append_left _ (List.mem_append_left _ (List.mem_append_left _ (List.mem_append_right _ (List.mem_of_getElem? (i := 36) (l := allW_6) rfl)))))))
theorem kw397 : (Cond.instanceMethod y_MA_hasKept : Cond) ∈ allW := (List.mem_append_left _ (List.mem_append_left _ (List.mem_append_left _ (List.mem_append_left _ (List.mem_append_left _ (List.mem_append_right _ (List.mem_of_getElem? (i := 37) (l := allW_6) rfl)))))))
theorem kw398 : (Cond.selects R_MA y_MA_hasKept y_MA_hasKept : Cond) ∈ allW := (List.mem_append_left _ (List.mem_append_left _ (List.mem_append_left _ (List.mem_append_left _ (List.mem_append_left _ (List.mem_append_right _ (List.mem_of_getElem? (i := 38) (l := allW_6) rfl)))))))
theorem kw399 : (Cond.code y_MA_hasKept prog_3_method_5_code 2 (some .boolean) : Cond) ∈ allW := (List.mem_append_left _ (List.mem_append_left _ (List.mem_append_left _ (List.mem_append_left _ (List.mem_append_left _ (List.mem_append_right _ (List.mem_of_getElem? (i := 39) (l := allW_6) rfl)))))))
theorem kw400 : (Cond.methodLink R_GS 122 y_MA_kept : Cond) ∈ allW := (List.mem_append_left _ (List.mem_append_left _ (List.mem_append_left _ (List.mem_append_left _ (List.mem_append_left _ (List.mem_append_right _ (List.mem_of_getElem? (i := 40) (l := allW_6) rfl)))))))
theorem kw401 : (Cond.instanceMethod y_MA_kept : Cond) ∈ allW := (List.mem_append_left _ (List.mem_append_left _ (List.mem_append_left _ (List.mem_append_left _ (List.mem_append_left _ (List.mem_append_right _ (List.mem_of_getElem? (i := 41) (l := allW_6) rfl)))))))
theorem kw402 : (Cond.selects R_MA y_MA_kept y_MA_kept : Cond) ∈ allW := (List.mem_append_left _ (List.mem_append_left _ (List.mem_append_left _ (List.mem_append_left _ (List.mem_append_left _ (List.mem_append_right _ (List.mem_of_getElem? (i := 42) (l := allW_6) rfl)))))))
theorem kw403 : (Cond.code y_MA_kept prog_3_method_6_code 2 (some .int) : Cond) ∈ allW := (List.mem_append_left _ (List.mem_append_left _ (List.mem_append_left _ (List.mem_append_left _ (List.mem_append_left _ (List.mem_append_right _ (List.mem_of_getElem? (i := 43) (l := allW_6) rfl)))))))
theorem kw404 : (Cond.methodLink R_MA 28 y_MA_hasKept : Cond) ∈ allW := (List.mem_append_left _ (List.mem_append_left _ (List.mem_append_left _ (List.mem_append_left _ (List.mem_append_left _ (List.mem_append_right _ (List.mem_of_getElem? (i := 44) (l := allW_6) rfl)))))))
theorem kw405 : (Cond.methodLink "GateStackLaw" 61 y_GS_at : Cond) ∈ allW := (List.mem_append_left _ (List.mem_append_left _ (List.mem_append_left _ (List.mem_append_left _ (List.mem_append_left _ (List.mem_append_right _ (List.mem_of_getElem? (i := 45) (l := allW_6) rfl)))))))
theorem kw406 : (Cond.instanceMethod y_GS_at : Cond) ∈ allW := (List.mem_append_left _ (List.mem_append_left _ (List.mem_append_left _ (List.mem_append_left _ (List.mem_append_left _ (List.mem_append_right _ (List.mem_of_getElem? (i := 46) (l := allW_6) rfl)))))))
theorem kw407 : (Cond.selects R_GS y_GS_at y_GS_at : Cond) ∈ allW := (List.mem_append_left _ (List.mem_append_left _ (List.mem_append_left _ (List.mem_append_left _ (List.mem_append_left _ (List.mem_append_right _ (List.mem_of_getElem? (i := 47) (l := allW_6) rfl)))))))
theorem kw408 : (Cond.code y_GS_at prog_1_method_13_code 2 (some .int) : Cond) ∈ allW := (List.mem_append_left _ (List.mem_append_left _ (List.mem_append_left _ (List.mem_append_left _ (List.mem_append_left _ (List.mem_append_right _ (List.mem_of_getElem? (i := 48) (l := allW_6) rfl)))))))
theorem kw409 : (Cond.methodLink R_GS 125 y_MA_letterCode : Cond) ∈ allW := (List.mem_append_left _ (List.mem_append_left _ (List.mem_append_left _ (List.mem_append_left _ (List.mem_append_left _ (List.mem_append_right _ (List.mem_of_getElem? (i := 49) (l := allW_6) rfl)))))))
theorem kw410 : (Cond.instanceMethod y_MA_letterCode : Cond) ∈ allW := (List.mem_append_left _ (List.mem_append_left _ (List.mem_append_left _ (List.mem_append_left _ (List.mem_append_left _ (List.mem_append_right _ (List.mem_of_getElem? (i := 50) (l := allW_6) rfl)))))))
theorem kw411 : (Cond.selects R_MA y_MA_letterCode y_MA_letterCode : Cond) ∈ allW := (List.mem_append_left _ (List.mem_append_left _ (List.mem_append_left _ (List.mem_append_left _ (List.mem_append_left _ (List.mem_append_right _ (List.mem_of_getElem? (i := 51) (l := allW_6) rfl)))))))
theorem kw412 : (Cond.code y_MA_letterCode prog_3_method_7_code 1 (some .int) : Cond) ∈ allW := (List.mem_append_left _ (List.mem_append_left _ (List.mem_append_left _ (List.mem_append_left _ (List.mem_append_left _ (List.mem_append_right _ (List.mem_of_getElem? (i := 52) (l := allW_6) rfl)))))))
theorem kw413 : (Cond.methodLink R_GS 128 y_MA_statementNumber : Cond) ∈ allW := (List.mem_append_left _ (List.mem_append_left _ (List.mem_append_left _ (List.mem_append_left _ (List.mem_append_left _ (List.mem_append_right _ (List.mem_of_getElem? (i := 53) (l := allW_6) rfl)))))))
theorem kw414 : (Cond.instanceMethod y_MA_statementNumber : Cond) ∈ allW := (List.mem_append_left _ (List.mem_append_left _ (List.mem_append_left _ (List.mem_append_left _ (List.mem_append_left _ (List.mem_append_right _ (List.mem_of_getElem? (i := 54) (l := allW_6) rfl)))))))
theorem kw415 : (Cond.selects R_MA y_MA_statementNumber y_MA_statementNumber : Cond) ∈ allW := (List.mem_append_left _ (List.mem_append_left _ (List.mem_append_left _ (List.mem_append_left _ (List.mem_append_left _ (List.mem_append_right _ (List.mem_of_getElem? (i := 55) (l := allW_6) rfl)))))))
theorem kw416 : (Cond.code y_MA_statementNumber prog_3_method_8_code 3 (some .int) : Cond) ∈ allW := (List.mem_append_left _ (List.mem_append_left _ (List.mem_append_left _ (List.mem_append_left _ (List.mem_append_left _ (List.mem_append_right _ (List.mem_of_getElem? (i := 56) (l := allW_6) rfl)))))))
theorem kw417 : (Cond.methodLink R_MA 36 y_MT_numberAt : Cond) ∈ allW := (List.mem_append_left _ (List.mem_append_left _ (List.mem_append_left _ (List.mem_append_left _ (List.mem_append_left _ (List.mem_append_right _ (List.mem_of_getElem? (i := 57) (l := allW_6) rfl)))))))
theorem kw418 : (Cond.instanceMethod y_MT_numberAt : Cond) ∈ allW := (List.mem_append_left _ (List.mem_append_left _ (List.mem_append_left _ (List.mem_append_left _ (List.mem_append_left _ (List.mem_append_right _ (List.mem_of_getElem? (i := 58) (l := allW_6) rfl)))))))
theorem kw419 : (Cond.selects R_MT y_MT_numberAt y_MT_numberAt : Cond) ∈ allW := (List.mem_append_left _ (List.mem_append_left _ (List.mem_append_left _ (List.mem_append_left _ (List.mem_append_left _ (List.mem_append_right _ (List.mem_of_getElem? (i := 59) (l := allW_6) rfl)))))))
theorem kw420 : (Cond.code y_MT_numberAt prog_4_method_15_code 2 (some .int) : Cond) ∈ allW := (List.mem_append_left _ (List.mem_append_left _ (List.mem_append_left _ (List.mem_append_left _ (List.mem_append_right _ (List.mem_of_getElem? (i := 0) (l := allW_7) rfl))))))
theorem kw421 : (Cond.methodLink R_GS 132 y_MA_depth : Cond) ∈ allW := (List.mem_append_left _ (List.mem_append_left _ (List.mem_append_left _ (List.mem_append_left _ (List.mem_append_right _ (List.mem_of_getElem? (i := 1) (l := allW_7) rfl))))))
theorem kw422 : (Cond.instanceMethod y_MA_depth : Cond) ∈ allW := (List.mem_append_left _ (List.mem_append_left _ (List.mem_append_left _ (List.mem_append_left _ (List.mem_append_right _ (List.mem_of_getElem? (i := 2) (l := allW_7) rfl))))))
theorem kw423 : (Cond.selects R_MA y_MA_depth y_MA_depth : Cond) ∈ allW := (List.mem_append_left _ (List.mem_append_left _ (List.mem_append_left _ (List.mem_append_left _ (List.mem_append_right _ (List.mem_of_getElem? (i := 3) (l := allW_7) rfl))))))
theorem kw424 : (Cond.code y_MA_depth prog_3_method_3_code 1 (some .int) : Cond) ∈ allW := (List.mem_append_left _ (List.mem_append_left _ (List.mem_append_left _ (List.mem_append_left _ (List.mem_append_right _ (List.mem_of_getElem? (i := 4) (l := allW_7) rfl))))))
theorem kw425 : (Cond.methodLink R_GS 135 y_MA_outputCount : Cond) ∈ allW := (List.mem_append_left _ (List.mem_append_left _ (List.mem_append_left _ (List.mem_append_left _ (List.mem_append_right _ (List.mem_of_getElem? (i := 5) (l := allW_7) rfl))))))
theorem kw426 : (Cond.instanceMethod y_MA_outputCount : Cond) ∈ allW := (List.mem_append_left _ (List.mem_append_left _ (List.mem_append_left _ (List.mem_append_left _ (List.mem_append_right _ (List.mem_of_getElem? (i := 6) (l := allW_7) rfl))))))
theorem kw427 : (Cond.selects R_MA y_MA_outputCount y_MA_outputCount : Cond) ∈ allW := (List.mem_append_left _ (List.mem_append_left _ (List.mem_append_left _ (List.mem_append_left _ (List.mem_append_right _ (List.mem_of_getElem? (i := 7) (l := allW_7) rfl))))))
theorem kw428 : (Cond.code y_MA_outputCount prog_3_method_4_code 1 (some .int) : Cond) ∈ allW := (List.mem_append_left _ (List.mem_append_left _ (List.mem_append_left _ (List.mem_append_left _ (List.mem_append_right _ (List.mem_of_getElem? (i := 8) (l := allW_7) rfl))))))
theorem kw429 : (Cond.methodLink "GateStackLaw" 65 y_GS_operate : Cond) ∈ allW := (List.mem_append_left _ (List.mem_append_left _ (List.mem_append_left _ (List.mem_append_left _ (List.mem_append_right _ (List.mem_of_getElem? (i := 9) (l := allW_7) rfl))))))
theorem kw430 : (Cond.instanceMethod y_GS_operate : Cond) ∈ allW := (List.mem_append_left _ (List.mem_append_left _ (List.mem_append_left _ (List.mem_append_left _ (List.mem_append_right _ (List.mem_of_getElem? (i := 10) (l := allW_7) rfl))))))
theorem kw431 : (Cond.selects R_GS y_GS_operate y_GS_operate : Cond) ∈ allW := (List.mem_append_left _ (List.mem_append_left _ (List.mem_append_left _ (List.mem_append_left _ (List.mem_append_right _ (List.mem_of_getElem? (i := 11) (l := allW_7) rfl))))))
theorem kw432 : (Cond.code y_GS_operate prog_1_method_14_code 4 (some .long) : Cond) ∈ allW := (List.mem_append_left _ (List.mem_append_left _ (List.mem_append_left _ (List.mem_append_left _ (List.mem_append_right _ (List.mem_of_getElem? (i := 12) (l := allW_7) rfl))))))
theorem kw433 : (Cond.methodLink R_GS 138 y_GS_worked : Cond) ∈ allW := (List.mem_append_left _ (List.mem_append_left _ (List.mem_append_left _ (List.mem_append_left _ (List.mem_append_right _ (List.mem_of_getElem? (i := 13) (l := allW_7) rfl))))))
theorem kw434 : (Cond.methodLink "GateStackLaw" 70 y_GS_state : Cond) ∈ allW := (List.mem_append_left _ (List.mem_append_left _ (List.mem_append_left _ (List.mem_append_left _ (List.mem_append_right _ (List.mem_of_getElem? (i := 14) (l := allW_7) rfl))))))
theorem kw435 : (Cond.instanceMethod y_GS_state : Cond) ∈ allW := (List.mem_append_left _ (List.mem_append_left _ (List.mem_append_left _ (List.mem_append_left _ (List.mem_append_right _ (List.mem_of_getElem? (i := 15) (l := allW_7) rfl))))))
theorem kw436 : (Cond.selects R_GS y_GS_state y_GS_state : Cond) ∈ allW := (List.mem_append_left _ (List.mem_append_left _ (List.mem_append_left _ (List.mem_append_left _ (List.mem_append_right _ (List.mem_of_getElem? (i := 16) (l := allW_7) rfl))))))
theorem kw437 : (Cond.code y_GS_state prog_1_method_15_code 3 (some .int) : Cond) ∈ allW := (List.mem_append_left _ (List.mem_append_left _ (List.mem_append_left _ (List.mem_append_left _ (List.mem_append_right _ (List.mem_of_getElem? (i := 17) (l := allW_7) rfl))))))
theorem kw438 : (Cond.classLink "GateStackLaw" 10 "GateStackModel" : Cond) ∈ allW := (List.mem_append_left _ (List.mem_append_left _ (List.mem_append_left _ (List.mem_append_left _ (List.mem_append_right _ (List.mem_of_getElem? (i := 18) (l := allW_7) rfl))))))
theorem kw439 : (Cond.instantiable R_GM 30 : Cond) ∈ allW := (List.mem_append_left _ (List.mem_append_left _ (List.mem_append_left _ (List.mem_append_left _ (List.mem_append_right _ (List.mem_of_getElem? (i := 19) (l := allW_7) rfl))))))
theorem kw440 : (Cond.methodLink "GateStackLaw" 12 y_GM_init : Cond) ∈ allW := (List.mem_append_left _ (List.mem_append_left _ (List.mem_append_left _ (List.mem_append_left _ (List.mem_append_right _ (List.mem_of_getElem? (i := 20) (l := allW_7) rfl))))))
theorem kw441 : (Cond.instanceMethod y_GM_init : Cond) ∈ allW := (List.mem_append_left _ (List.mem_append_left _ (List.mem_append_left _ (List.mem_append_left _ (List.mem_append_right _ (List.mem_of_getElem? (i := 21) (l := allW_7) rfl))))))
theorem kw442 : (Cond.code y_GM_init prog_8_method_1_code 2 none : Cond) ∈ allW := (List.mem_append_left _ (List.mem_append_left _ (List.mem_append_left _ (List.mem_append_left _ (List.mem_append_right _ (List.mem_of_getElem? (i := 22) (l := allW_7) rfl))))))
theorem kw443 : (Cond.methodLink R_GM 1 objectInit : Cond) ∈ allW := (List.mem_append_left _ (List.mem_append_left _ (List.mem_append_left _ (List.mem_append_left _ (List.mem_append_right _ (List.mem_of_getElem? (i := 23) (l := allW_7) rfl))))))
theorem kw444 : (Cond.fieldLink R_GM 7 "GateStackModel" "text" "[I" : Cond) ∈ allW := (List.mem_append_left _ (List.mem_append_left _ (List.mem_append_left _ (List.mem_append_left _ (List.mem_append_right _ (List.mem_of_getElem? (i := 24) (l := allW_7) rfl))))))
theorem kw445 : (Cond.fieldLink R_GM 13 "GateStackModel" "length" "[I" : Cond) ∈ allW := (List.mem_append_left _ (List.mem_append_left _ (List.mem_append_left _ (List.mem_append_left _ (List.mem_append_right _ (List.mem_of_getElem? (i := 25) (l := allW_7) rfl))))))
theorem kw446 : (Cond.fieldLink R_GM 16 "GateStackModel" "compiled" "[Z" : Cond) ∈ allW := (List.mem_append_left _ (List.mem_append_left _ (List.mem_append_left _ (List.mem_append_left _ (List.mem_append_right _ (List.mem_of_getElem? (i := 26) (l := allW_7) rfl))))))
theorem kw447 : (Cond.fieldLink R_GM 66 "GateStackModel" "linked" "Z" : Cond) ∈ allW := (List.mem_append_left _ (List.mem_append_left _ (List.mem_append_left _ (List.mem_append_left _ (List.mem_append_right _ (List.mem_of_getElem? (i := 27) (l := allW_7) rfl))))))
theorem kw448 : (Cond.fieldLink R_GM 20 "GateStackModel" "open" "[I" : Cond) ∈ allW := (List.mem_append_left _ (List.mem_append_left _ (List.mem_append_left _ (List.mem_append_left _ (List.mem_append_right _ (List.mem_of_getElem? (i := 28) (l := allW_7) rfl))))))
theorem kw449 : (Cond.fieldLink R_GM 80 "GateStackModel" "opened" "I" : Cond) ∈ allW := (List.mem_append_left _ (List.mem_append_left _ (List.mem_append_left _ (List.mem_append_left _ (List.mem_append_right _ (List.mem_of_getElem? (i := 29) (l := allW_7) rfl))))))
theorem kw450 : (Cond.fieldLink R_GM 84 "GateStackModel" "state" "I" : Cond) ∈ allW := (List.mem_append_left _ (List.mem_append_left _ (List.mem_append_left _ (List.mem_append_left _ (List.mem_append_right _ (List.mem_of_getElem? (i := 30) (l := allW_7) rfl))))))
theorem kw451 : (Cond.fieldLink R_GM 90 "GateStackModel" "kind" "I" : Cond) ∈ allW := (List.mem_append_left _ (List.mem_append_left _ (List.mem_append_left _ (List.mem_append_left _ (List.mem_append_right _ (List.mem_of_getElem? (i := 31) (l := allW_7) rfl))))))
theorem kw452 : (Cond.fieldLink R_GM 104 "GateStackModel" "digits" "I" : Cond) ∈ allW := (List.mem_append_left _ (List.mem_append_left _ (List.mem_append_left _ (List.mem_append_left _ (List.mem_append_right _ (List.mem_of_getElem? (i := 32) (l := allW_7) rfl))))))
theorem kw453 : (Cond.fieldLink R_GM 87 "GateStackModel" "second" "Z" : Cond) ∈ allW := (List.mem_append_left _ (List.mem_append_left _ (List.mem_append_left _ (List.mem_append_left _ (List.mem_append_right _ (List.mem_of_getElem? (i := 33) (l := allW_7) rfl))))))
theorem kw454 : (Cond.fieldLink R_GM 23 "GateStackModel" "partner" "[I" : Cond) ∈ allW := (List.mem_append_left _ (List.mem_append_left _ (List.mem_append_left _ (List.mem_append_left _ (List.mem_append_right _ (List.mem_of_getElem? (i := 34) (l := allW_7) rfl))))))
theorem kw455 : (Cond.fieldLink R_GM 26 "GateStackModel" "owner" "[I" : Cond) ∈ allW := (List.mem_append_left _ (List.mem_append_left _ (List.mem_append_left _ (List.mem_append_left _ (List.mem_append_right _ (List.mem_of_getElem? (i := 35) (l := allW_7) rfl))))))
theorem kw456 : (Cond.fieldLink R_GM 29 "GateStackModel" "kindAt" "[I" : Cond) ∈ allW := (List.mem_append_left _ (List.mem_append_left _ (List.mem_append_left _ (List.mem_append_left _ (List.mem_append_right _ (List.mem_of_getElem? (i := 36) (l := allW_7) rfl))))))
theorem kw457 : (Cond.fieldLink R_GM 32 "GateStackModel" "numberAt" "[I" : Cond) ∈ allW := (List.mem_append_left _ (List.mem_append_left _ (List.mem_append_left _ (List.mem_append_left _ (List.mem_append_right _ (List.mem_of_getElem? (i := 37) (l := allW_7) rfl))))))
theorem kw458 : (Cond.fieldLink R_GM 35 "GateStackModel" "letterAt" "[I" : Cond) ∈ allW := (List.mem_append_left _ (List.mem_append_left _ (List.mem_append_left _ (List.mem_append_left _ (List.mem_append_right _ (List.mem_of_getElem? (i := 38) (l := allW_7) rfl))))))
theorem kw459 : (Cond.fieldLink R_GM 38 "GateStackModel" "body" "[I" : Cond) ∈ allW := (List.mem_append_left _ (List.mem_append_left _ (List.mem_append_left _ (List.mem_append_left _ (List.mem_append_right _ (List.mem_of_getElem? (i := 39) (l := allW_7) rfl))))))
theorem kw460 : (Cond.fieldLink R_GM 41 "GateStackModel" "calls" "[I" : Cond) ∈ allW := (List.mem_append_left _ (List.mem_append_left _ (List.mem_append_left _ (List.mem_append_left _ (List.mem_append_right _ (List.mem_of_getElem? (i := 40) (l := allW_7) rfl))))))
theorem kw461 : (Cond.fieldLink R_GM 44 "GateStackModel" "variable" "[I" : Cond) ∈ allW := (List.mem_append_left _ (List.mem_append_left _ (List.mem_append_left _ (List.mem_append_left _ (List.mem_append_right _ (List.mem_of_getElem? (i := 41) (l := allW_7) rfl))))))
theorem kw462 : (Cond.fieldLink R_GM 47 "GateStackModel" "outputs" "[J" : Cond) ∈ allW := (List.mem_append_left _ (List.mem_append_left _ (List.mem_append_left _ (List.mem_append_left _ (List.mem_append_right _ (List.mem_of_getElem? (i := 42) (l := allW_7) rfl))))))
theorem kw463 : (Cond.fieldLink R_GM 159 "GateStackModel" "outputCount" "I" : Cond) ∈ allW := (List.mem_append_left _ (List.mem_append_left _ (List.mem_append_left _ (List.mem_append_left _ (List.mem_append_right _ (List.mem_of_getElem? (i := 43) (l := allW_7) rfl))))))
theorem kw464 : (Cond.fieldLink R_GM 70 "GateStackModel" "going" "Z" : Cond) ∈ allW := (List.mem_append_left _ (List.mem_append_left _ (List.mem_append_left _ (List.mem_append_left _ (List.mem_append_right _ (List.mem_of_getElem? (i := 44) (l := allW_7) rfl))))))
theorem kw465 : (Cond.fieldLink R_GM 153 "GateStackModel" "place" "I" : Cond) ∈ allW := (List.mem_append_left _ (List.mem_append_left _ (List.mem_append_left _ (List.mem_append_left _ (List.mem_append_right _ (List.mem_of_getElem? (i := 45) (l := allW_7) rfl))))))
theorem kw466 : (Cond.fieldLink R_GM 51 "GateStackModel" "behind" "[I" : Cond) ∈ allW := (List.mem_append_left _ (List.mem_append_left _ (List.mem_append_left _ (List.mem_append_left _ (List.mem_append_right _ (List.mem_of_getElem? (i := 46) (l := allW_7) rfl))))))
theorem kw467 : (Cond.fieldLink R_GM 156 "GateStackModel" "depth" "I" : Cond) ∈ allW := (List.mem_append_left _ (List.mem_append_left _ (List.mem_append_left _ (List.mem_append_left _ (List.mem_append_right _ (List.mem_of_getElem? (i := 47) (l := allW_7) rfl))))))
theorem kw468 : (Cond.fieldLink R_GM 54 "GateStackModel" "value" "[I" : Cond) ∈ allW := (List.mem_append_left _ (List.mem_append_left _ (List.mem_append_left _ (List.mem_append_left _ (List.mem_append_right _ (List.mem_of_getElem? (i := 48) (l := allW_7) rfl))))))
theorem kw469 : (Cond.fieldLink R_GM 57 "GateStackModel" "operator" "[I" : Cond) ∈ allW := (List.mem_append_left _ (List.mem_append_left _ (List.mem_append_left _ (List.mem_append_left _ (List.mem_append_right _ (List.mem_of_getElem? (i := 49) (l := allW_7) rfl))))))
theorem kw470 : (Cond.fieldLink R_GM 60 "GateStackModel" "base" "[I" : Cond) ∈ allW := (List.mem_append_left _ (List.mem_append_left _ (List.mem_append_left _ (List.mem_append_left _ (List.mem_append_right _ (List.mem_of_getElem? (i := 50) (l := allW_7) rfl))))))
theorem kw471 : (Cond.fieldLink R_GM 63 "GateStackModel" "before" "[I" : Cond) ∈ allW := (List.mem_append_left _ (List.mem_append_left _ (List.mem_append_left _ (List.mem_append_left _ (List.mem_append_right _ (List.mem_of_getElem? (i := 51) (l := allW_7) rfl))))))
theorem kw472 : (Cond.fieldLink R_GM 139 "GateStackModel" "signs" "I" : Cond) ∈ allW := (List.mem_append_left _ (List.mem_append_left _ (List.mem_append_left _ (List.mem_append_left _ (List.mem_append_right _ (List.mem_of_getElem? (i := 52) (l := allW_7) rfl))))))
theorem kw473 : (Cond.fieldLink R_GM 150 "GateStackModel" "end" "I" : Cond) ∈ allW := (List.mem_append_left _ (List.mem_append_left _ (List.mem_append_left _ (List.mem_append_left _ (List.mem_append_right _ (List.mem_of_getElem? (i := 53) (l := allW_7) rfl))))))
theorem kw474 : (Cond.laysFinal R_GM "GateStackModel" "text" "[I" : Cond) ∈ allW := (List.mem_append_left _ (List.mem_append_left _ (List.mem_append_left _ (List.mem_append_left _ (List.mem_append_right _ (List.mem_of_getElem? (i := 54) (l := allW_7) rfl))))))
theorem kw475 : (Cond.laysFinal R_GM "GateStackModel" "length" "[I" : Cond) ∈ allW := (List.mem_append_left _ (List.mem_append_left _ (List.mem_append_left _ (List.mem_append_left _ (List.mem_append_right _ (List.mem_of_getElem? (i := 55) (l := allW_7) rfl))))))
theorem kw476 : (Cond.laysFinal R_GM "GateStackModel" "compiled" "[Z" : Cond) ∈ allW := (List.mem_append_left _ (List.mem_append_left _ (List.mem_append_left _ (List.mem_append_left _ (List.mem_append_right _ (List.mem_of_getElem? (i := 56) (l := allW_7) rfl))))))
theorem kw477 : (Cond.lays R_GM "GateStackModel" "linked" "Z" : Cond) ∈ allW := (List.mem_append_left _ (List.mem_append_left _ (List.mem_append_left _ (List.mem_append_left _ (List.mem_append_right _ (List.mem_of_getElem? (i := 57) (l := allW_7) rfl))))))
theorem kw478 : (Cond.laysFinal R_GM "GateStackModel" "open" "[I" : Cond) ∈ allW := (List.mem_append_left _ (List.mem_append_left _ (List.mem_append_left _ (List.mem_append_left _ (List.mem_append_right _ (List.mem_of_getElem? (i := 58) (l := allW_7) rfl))))))
theorem kw479 : (Cond.lays R_GM "GateStackModel" "opened" "I" : Cond) ∈ allW := (List.mem_append_left _ (List.mem_append_left _ (List.mem_append_left _ (List.mem_append_left _ (List.mem_append_right _ (List.mem_of_getElem? (i := 59) (l := allW_7) rfl))))))
theorem kw480 : (Cond.lays R_GM "GateStackModel" "state" "I" : Cond) ∈ allW := (List.mem_append_left _ (List.mem_append_left _ (List.mem_append_left _ (List.mem_append_right _ (List.mem_of_getElem? (i := 0) (l := allW_8) rfl)))))
theorem kw481 : (Cond.lays R_GM "GateStackModel" "kind" "I" : Cond) ∈ allW := (List.mem_append_left _ (List.mem_append_left _ (List.mem_append_left _ (List.mem_append_right _ (List.mem_of_getElem? (i := 1) (l := allW_8) rfl)))))
theorem kw482 : (Cond.lays R_GM "GateStackModel" "digits" "I" : Cond) ∈ allW := (List.mem_append_left _ (List.mem_append_left _ (List.mem_append_left _ (List.mem_append_right _ (List.mem_of_getElem? (i := 2) (l := allW_8) rfl)))))
theorem kw483 : (Cond.lays R_GM "GateStackModel" "second" "Z" : Cond) ∈ allW := (List.mem_append_left _ (List.mem_append_left _ (List.mem_append_left _ (List.mem_append_right _ (List.mem_of_getElem? (i := 3) (l := allW_8) rfl)))))
theorem kw484 : (Cond.laysFinal R_GM "GateStackModel" "partner" "[I" : Cond) ∈ allW := (List.mem_append_left _ (List.mem_append_left _ (List.mem_append_left _ (List.mem_append_right _ (List.mem_of_getElem? (i := 4) (l := allW_8) rfl)))))
theorem kw485 : (Cond.laysFinal R_GM "GateStackModel" "owner" "[I" : Cond) ∈ allW := (List.mem_append_left _ (List.mem_append_left _ (List.mem_append_left _ (List.mem_append_right _ (List.mem_of_getElem? (i := 5) (l := allW_8) rfl)))))
theorem kw486 : (Cond.laysFinal R_GM "GateStackModel" "kindAt" "[I" : Cond) ∈ allW := (List.mem_append_left _ (List.mem_append_left _ (List.mem_append_left _ (List.mem_append_right _ (List.mem_of_getElem? (i := 6) (l := allW_8) rfl)))))
theorem kw487 : (Cond.laysFinal R_GM "GateStackModel" "numberAt" "[I" : Cond) ∈ allW := (List.mem_append_left _ (List.mem_append_left _ (List.mem_append_left _ (List.mem_append_right _ (List.mem_of_getElem? (i := 7) (l := allW_8) rfl)))))
theorem kw488 : (Cond.laysFinal R_GM "GateStackModel" "letterAt" "[I" : Cond) ∈ allW := (List.mem_append_left _ (List.mem_append_left _ (List.mem_append_left _ (List.mem_append_right _ (List.mem_of_getElem? (i := 8) (l := allW_8) rfl)))))
theorem kw489 : (Cond.laysFinal R_GM "GateStackModel" "body" "[I" : Cond) ∈ allW := (List.mem_append_left _ (List.mem_append_left _ (List.mem_append_left _ (List.mem_append_right _ (List.mem_of_getElem? (i := 9) (l := allW_8) rfl)))))
theorem kw490 : (Cond.laysFinal R_GM "GateStackModel" "calls" "[I" : Cond) ∈ allW := (List.mem_append_left _ (List.mem_append_left _ (List.mem_append_left _ (List.mem_append_right _ (List.mem_of_getElem? (i := 10) (l := allW_8) rfl)))))
theorem kw491 : (Cond.laysFinal R_GM "GateStackModel" "variable" "[I" : Cond) ∈ allW := (List.mem_append_left _ (List.mem_append_left _ (List.mem_append_left _ (List.mem_append_right _ (List.mem_of_getElem? (i := 11) (l := allW_8) rfl)))))
theorem kw492 : (Cond.laysFinal R_GM "GateStackModel" "outputs" "[J" : Cond) ∈ allW := (List.mem_append_left _ (List.mem_append_left _ (List.mem_append_left _ (List.mem_append_right _ (List.mem_of_getElem? (i := 12) (l := allW_8) rfl)))))
theorem kw493 : (Cond.lays R_GM "GateStackModel" "outputCount" "I" : Cond) ∈ allW := (List.mem_append_left _ (List.mem_append_left _ (List.mem_append_left _ (List.mem_append_right _ (List.mem_of_getElem? (i := 13) (l := allW_8) rfl)))))
theorem kw494 : (Cond.lays R_GM "GateStackModel" "going" "Z" : Cond) ∈ allW := (List.mem_append_left _ (List.mem_append_left _ (List.mem_append_left _ (List.mem_append_right _ (List.mem_of_getElem? (i := 14) (l := allW_8) rfl)))))
theorem kw495 : (Cond.lays R_GM "GateStackModel" "place" "I" : Cond) ∈ allW := (List.mem_append_left _ (List.mem_append_left _ (List.mem_append_left _ (List.mem_append_right _ (List.mem_of_getElem? (i := 15) (l := allW_8) rfl)))))
theorem kw496 : (Cond.laysFinal R_GM "GateStackModel" "behind" "[I" : Cond) ∈ allW := (List.mem_append_left _ (List.mem_append_left _ (List.mem_append_left _ (List.mem_append_right _ (List.mem_of_getElem? (i := 16) (l := allW_8) rfl)))))
theorem kw497 : (Cond.lays R_GM "GateStackModel" "depth" "I" : Cond) ∈ allW := (List.mem_append_left _ (List.mem_append_left _ (List.mem_append_left _ (List.mem_append_right _ (List.mem_of_getElem? (i := 17) (l := allW_8) rfl)))))
theorem kw498 : (Cond.laysFinal R_GM "GateStackModel" "value" "[I" : Cond) ∈ allW := (List.mem_append_left _ (List.mem_append_left _ (List.mem_append_left _ (List.mem_append_right _ (List.mem_of_getElem? (i := 18) (l := allW_8) rfl)))))
theorem kw499 : (Cond.laysFinal R_GM "GateStackModel" "operator" "[I" : Cond) ∈ allW := (List.mem_append_left _ (List.mem_append_left _ (List.mem_append_left _ (List.mem_append_right _ (List.mem_of_getElem? (i := 19) (l := allW_8) rfl)))))
theorem kw500 : (Cond.laysFinal R_GM "GateStackModel" "base" "[I" : Cond) ∈ allW := (List.mem_append_left _ (List.mem_append_left _ (List.mem_append_left _ (List.mem_append_right _ (List.mem_of_getElem? (i := 20) (l := allW_8) rfl)))))
theorem kw501 : (Cond.laysFinal R_GM "GateStackModel" "before" "[I" : Cond) ∈ allW := (List.mem_append_left _ (List.mem_append_left _ (List.mem_append_left _ (List.mem_append_right _ (List.mem_of_getElem? (i := 21) (l := allW_8) rfl)))))
theorem kw502 : (Cond.lays R_GM "GateStackModel" "signs" "I" : Cond) ∈ allW := (List.mem_append_left _ (List.mem_append_left _ (List.mem_append_left _ (List.mem_append_right _ (List.mem_of_getElem? (i := 22) (l := allW_8) rfl)))))
theorem kw503 : (Cond.lays R_GM "GateStackModel" "end" "I" : Cond) ∈ allW := (List.mem_append_left _ (List.mem_append_left _ (List.mem_append_left _ (List.mem_append_right _ (List.mem_of_getElem? (i := 23) (l := allW_8) rfl)))))
theorem kw504 : (Cond.arrayClass .boolean : Cond) ∈ allW := (List.mem_append_left _ (List.mem_append_left _ (List.mem_append_left _ (List.mem_append_right _ (List.mem_of_getElem? (i := 24) (l := allW_8) rfl)))))
theorem kw505 : (Cond.arrayClass .long : Cond) ∈ allW := (List.mem_append_left _ (List.mem_append_left _ (List.mem_append_left _ (List.mem_append_right _ (List.mem_of_getElem? (i := 25) (l := allW_8) rfl)))))
theorem kw506 : (Cond.methodLink "GateStackLaw" 17 y_GM_sign : Cond) ∈ allW := (List.mem_append_left _ (List.mem_append_left _ (List.mem_append_left _ (List.mem_append_right _ (List.mem_of_getElem? (i := 26) (l := allW_8) rfl)))))
theorem kw507 : (Cond.instanceMethod y_GM_sign : Cond) ∈ allW := (List.mem_append_left _ (List.mem_append_left _ (List.mem_append_left _ (List.mem_append_right _ (List.mem_of_getElem? (i := 27) (l := allW_8) rfl)))))
theorem kw508 : (Cond.selects R_GM y_GM_sign y_GM_sign : Cond) ∈ allW := (List.mem_append_left _ (List.mem_append_left _ (List.mem_append_left _ (List.mem_append_right _ (List.mem_of_getElem? (i := 28) (l := allW_8) rfl)))))
theorem kw509 : (Cond.code y_GM_sign prog_8_method_4_code 3 (some .int) : Cond) ∈ allW := (List.mem_append_left _ (List.mem_append_left _ (List.mem_append_left _ (List.mem_append_right _ (List.mem_of_getElem? (i := 29) (l := allW_8) rfl)))))
theorem kw510 : (Cond.methodLink R_GM 73 y_GM_in : Cond) ∈ allW := (List.mem_append_left _ (List.mem_append_left _ (List.mem_append_left _ (List.mem_append_right _ (List.mem_of_getElem? (i := 30) (l := allW_8) rfl)))))
theorem kw511 : (Cond.static y_GM_in : Cond) ∈ allW := (List.mem_append_left _ (List.mem_append_left _ (List.mem_append_left _ (List.mem_append_right _ (List.mem_of_getElem? (i := 31) (l := allW_8) rfl)))))
theorem kw512 : (Cond.code y_GM_in prog_8_method_2_code 3 (some .boolean) : Cond) ∈ allW := (List.mem_append_left _ (List.mem_append_left _ (List.mem_append_left _ (List.mem_append_right _ (List.mem_of_getElem? (i := 32) (l := allW_8) rfl)))))
theorem kw513 : (Cond.methodLink R_GM 77 y_GM_unlink : Cond) ∈ allW := (List.mem_append_left _ (List.mem_append_left _ (List.mem_append_left _ (List.mem_append_right _ (List.mem_of_getElem? (i := 33) (l := allW_8) rfl)))))
theorem kw514 : (Cond.instanceMethod y_GM_unlink : Cond) ∈ allW := (List.mem_append_left _ (List.mem_append_left _ (List.mem_append_left _ (List.mem_append_right _ (List.mem_of_getElem? (i := 34) (l := allW_8) rfl)))))
theorem kw515 : (Cond.code y_GM_unlink prog_8_method_3_code 1 none : Cond) ∈ allW := (List.mem_append_left _ (List.mem_append_left _ (List.mem_append_left _ (List.mem_append_right _ (List.mem_of_getElem? (i := 35) (l := allW_8) rfl)))))
theorem kw516 : (Cond.methodLink "GateStackLaw" 22 y_GM_clear : Cond) ∈ allW := (List.mem_append_left _ (List.mem_append_left _ (List.mem_append_left _ (List.mem_append_right _ (List.mem_of_getElem? (i := 36) (l := allW_8) rfl)))))
theorem kw517 : (Cond.instanceMethod y_GM_clear : Cond) ∈ allW := (List.mem_append_left _ (List.mem_append_left _ (List.mem_append_left _ (List.mem_append_right _ (List.mem_of_getElem? (i := 37) (l := allW_8) rfl)))))
theorem kw518 : (Cond.selects R_GM y_GM_clear y_GM_clear : Cond) ∈ allW := (List.mem_append_left _ (List.mem_append_left _ (List.mem_append_left _ (List.mem_append_right _ (List.mem_of_getElem? (i := 38) (l := allW_8) rfl)))))
theorem kw519 : (Cond.code y_GM_clear prog_8_method_5_code 2 (some .int) : Cond) ∈ allW := (List.mem_append_left _ (List.mem_append_left _ (List.mem_append_left _ (List.mem_append_right _ (List.mem_of_getElem? (i := 39) (l := allW_8) rfl)))))
theorem kw520 : (Cond.methodLink "GateStackLaw" 30 y_GM_fault : Cond) ∈ allW := (List.mem_append_left _ (List.mem_append_left _ (List.mem_append_left _ (List.mem_append_right _ (List.mem_of_getElem? (i := 40) (l := allW_8) rfl)))))
theorem kw521 : (Cond.instanceMethod y_GM_fault : Cond) ∈ allW := (List.mem_append_left _ (List.mem_append_left _ (List.mem_append_left _ (List.mem_append_right _ (List.mem_of_getElem? (i := 41) (l := allW_8) rfl)))))
theorem kw522 : (Cond.selects R_GM y_GM_fault y_GM_fault : Cond) ∈ allW := (List.mem_append_left _ (List.mem_append_left _ (List.mem_append_left _ (List.mem_append_right _ (List.mem_of_getElem? (i := 42) (l := allW_8) rfl)))))
theorem kw523 : (Cond.code y_GM_fault prog_8_method_15_code 3 (some .int) : Cond) ∈ allW := (List.mem_append_left _ (List.mem_append_left _ (List.mem_append_left _ (List.mem_append_right _ (List.mem_of_getElem? (i := 43) (l := allW_8) rfl)))))
theorem kw524 : (Cond.methodLink R_GM 122 y_GM_stands : Cond) ∈ allW := (List.mem_append_left _ (List.mem_append_left _ (List.mem_append_left _ (List.mem_append_right _ (List.mem_of_getElem? (i := 44) (l := allW_8) rfl)))))
theorem kw525 : (Cond.instanceMethod y_GM_stands : Cond) ∈ allW := (List.mem_append_left _ (List.mem_append_left _ (List.mem_append_left _ (List.mem_append_right _ (List.mem_of_getElem? (i := 45) (l := allW_8) rfl)))))
theorem kw526 : (Cond.code y_GM_stands prog_8_method_14_code 3 (some .boolean) : Cond) ∈ allW := (List.mem_append_left _ (List.mem_append_left _ (List.mem_append_left _ (List.mem_append_right _ (List.mem_of_getElem? (i := 46) (l := allW_8) rfl)))))
theorem kw527 : (Cond.methodLink R_GM 93 y_GM_isLetter : Cond) ∈ allW := (List.mem_append_left _ (List.mem_append_left _ (List.mem_append_left _ (List.mem_append_right _ (List.mem_of_getElem? (i := 47) (l := allW_8) rfl)))))
theorem kw528 : (Cond.static y_GM_isLetter : Cond) ∈ allW := (List.mem_append_left _ (List.mem_append_left _ (List.mem_append_left _ (List.mem_append_right _ (List.mem_of_getElem? (i := 48) (l := allW_8) rfl)))))
theorem kw529 : (Cond.code y_GM_isLetter prog_8_method_7_code 1 (some .boolean) : Cond) ∈ allW := (List.mem_append_left _ (List.mem_append_left _ (List.mem_append_left _ (List.mem_append_right _ (List.mem_of_getElem? (i := 49) (l := allW_8) rfl)))))
theorem kw530 : (Cond.methodLink R_GM 100 y_GM_push : Cond) ∈ allW := (List.mem_append_left _ (List.mem_append_left _ (List.mem_append_left _ (List.mem_append_right _ (List.mem_of_getElem? (i := 50) (l := allW_8) rfl)))))
theorem kw531 : (Cond.instanceMethod y_GM_push : Cond) ∈ allW := (List.mem_append_left _ (List.mem_append_left _ (List.mem_append_left _ (List.mem_append_right _ (List.mem_of_getElem? (i := 51) (l := allW_8) rfl)))))
theorem kw532 : (Cond.code y_GM_push prog_8_method_9_code 3 (some .boolean) : Cond) ∈ allW := (List.mem_append_left _ (List.mem_append_left _ (List.mem_append_left _ (List.mem_append_right _ (List.mem_of_getElem? (i := 52) (l := allW_8) rfl)))))
theorem kw533 : (Cond.methodLink R_GM 113 y_GM_atStatement : Cond) ∈ allW := (List.mem_append_left _ (List.mem_append_left _ (List.mem_append_left _ (List.mem_append_right _ (List.mem_of_getElem? (i := 53) (l := allW_8) rfl)))))
theorem kw534 : (Cond.instanceMethod y_GM_atStatement : Cond) ∈ allW := (List.mem_append_left _ (List.mem_append_left _ (List.mem_append_left _ (List.mem_append_right _ (List.mem_of_getElem? (i := 54) (l := allW_8) rfl)))))
theorem kw535 : (Cond.code y_GM_atStatement prog_8_method_11_code 3 (some .boolean) : Cond) ∈ allW := (List.mem_append_left _ (List.mem_append_left _ (List.mem_append_left _ (List.mem_append_right _ (List.mem_of_getElem? (i := 55) (l := allW_8) rfl)))))
theorem kw536 : (Cond.methodLink R_GM 97 y_GM_isVariable : Cond) ∈ allW := (List.mem_append_left _ (List.mem_append_left _ (List.mem_append_left _ (List.mem_append_right _ (List.mem_of_getElem? (i := 56) (l := allW_8) rfl)))))
theorem kw537 : (Cond.static y_GM_isVariable : Cond) ∈ allW := (List.mem_append_left _ (List.mem_append_left _ (List.mem_append_left _ (List.mem_append_right _ (List.mem_of_getElem? (i := 57) (l := allW_8) rfl)))))
theorem kw538 : (Cond.code y_GM_isVariable prog_8_method_6_code 1 (some .boolean) : Cond) ∈ allW := (List.mem_append_left _ (List.mem_append_left _ (List.mem_append_left _ (List.mem_append_right _ (List.mem_of_getElem? (i := 58) (l := allW_8) rfl)))))
theorem kw539 : (Cond.methodLink R_GM 116 y_GM_atOperand : Cond) ∈ allW := (List.mem_append_left _ (List.mem_append_left _ (List.mem_append_left _ (List.mem_append_right _ (List.mem_of_getElem? (i := 59) (l := allW_8) rfl)))))
theorem kw540 : (Cond.instanceMethod y_GM_atOperand : Cond) ∈ allW := (List.mem_append_left _ (List.mem_append_left _ (List.mem_append_right _ (List.mem_of_getElem? (i := 0) (l := allW_9) rfl))))
theorem kw541 : (Cond.code y_GM_atOperand prog_8_method_12_code 3 (some .boolean) : Cond) ∈ allW := (List.mem_append_left _ (List.mem_append_left _ (List.mem_append_right _ (List.mem_of_getElem? (i := 1) (l := allW_9) rfl))))
theorem kw542 : (Cond.methodLink R_GM 107 y_GM_operandEnds : Cond) ∈ allW := (List.mem_append_left _ (List.mem_append_left _ (List.mem_append_right _ (List.mem_of_getElem? (i := 2) (l := allW_9) rfl))))
theorem kw543 : (Cond.instanceMethod y_GM_operandEnds : Cond) ∈ allW := (List.mem_append_left _ (List.mem_append_left _ (List.mem_append_right _ (List.mem_of_getElem? (i := 3) (l := allW_9) rfl))))
theorem kw544 : (Cond.code y_GM_operandEnds prog_8_method_10_code 1 none : Cond) ∈ allW := (List.mem_append_left _ (List.mem_append_left _ (List.mem_append_right _ (List.mem_of_getElem? (i := 4) (l := allW_9) rfl))))
theorem kw545 : (Cond.methodLink R_GM 119 y_GM_afterOperand : Cond) ∈ allW := (List.mem_append_left _ (List.mem_append_left _ (List.mem_append_right _ (List.mem_of_getElem? (i := 5) (l := allW_9) rfl))))
theorem kw546 : (Cond.instanceMethod y_GM_afterOperand : Cond) ∈ allW := (List.mem_append_left _ (List.mem_append_left _ (List.mem_append_right _ (List.mem_of_getElem? (i := 6) (l := allW_9) rfl))))
theorem kw547 : (Cond.code y_GM_afterOperand prog_8_method_13_code 3 (some .boolean) : Cond) ∈ allW := (List.mem_append_left _ (List.mem_append_left _ (List.mem_append_right _ (List.mem_of_getElem? (i := 7) (l := allW_9) rfl))))
theorem kw548 : (Cond.methodLink R_GM 110 y_GM_isOperator : Cond) ∈ allW := (List.mem_append_left _ (List.mem_append_left _ (List.mem_append_right _ (List.mem_of_getElem? (i := 8) (l := allW_9) rfl))))
theorem kw549 : (Cond.static y_GM_isOperator : Cond) ∈ allW := (List.mem_append_left _ (List.mem_append_left _ (List.mem_append_right _ (List.mem_of_getElem? (i := 9) (l := allW_9) rfl))))
theorem kw550 : (Cond.code y_GM_isOperator prog_8_method_8_code 1 (some .boolean) : Cond) ∈ allW := (List.mem_append_left _ (List.mem_append_left _ (List.mem_append_right _ (List.mem_of_getElem? (i := 10) (l := allW_9) rfl))))
theorem kw551 : (Cond.methodLink "GateStackLaw" 26 y_GM_compile : Cond) ∈ allW := (List.mem_append_left _ (List.mem_append_left _ (List.mem_append_right _ (List.mem_of_getElem? (i := 11) (l := allW_9) rfl))))
theorem kw552 : (Cond.instanceMethod y_GM_compile : Cond) ∈ allW := (List.mem_append_left _ (List.mem_append_left _ (List.mem_append_right _ (List.mem_of_getElem? (i := 12) (l := allW_9) rfl))))
theorem kw553 : (Cond.selects R_GM y_GM_compile y_GM_compile : Cond) ∈ allW := (List.mem_append_left _ (List.mem_append_left _ (List.mem_append_right _ (List.mem_of_getElem? (i := 13) (l := allW_9) rfl))))
theorem kw554 : (Cond.code y_GM_compile prog_8_method_18_code 2 (some .int) : Cond) ∈ allW := (List.mem_append_left _ (List.mem_append_left _ (List.mem_append_right _ (List.mem_of_getElem? (i := 14) (l := allW_9) rfl))))
theorem kw555 : (Cond.methodLink R_GM 125 y_GM_fault : Cond) ∈ allW := (List.mem_append_left _ (List.mem_append_left _ (List.mem_append_right _ (List.mem_of_getElem? (i := 15) (l := allW_9) rfl))))
theorem kw556 : (Cond.methodLink R_GM 129 y_GM_twice : Cond) ∈ allW := (List.mem_append_left _ (List.mem_append_left _ (List.mem_append_right _ (List.mem_of_getElem? (i := 16) (l := allW_9) rfl))))
theorem kw557 : (Cond.instanceMethod y_GM_twice : Cond) ∈ allW := (List.mem_append_left _ (List.mem_append_left _ (List.mem_append_right _ (List.mem_of_getElem? (i := 17) (l := allW_9) rfl))))
theorem kw558 : (Cond.code y_GM_twice prog_8_method_17_code 6 (some .boolean) : Cond) ∈ allW := (List.mem_append_left _ (List.mem_append_left _ (List.mem_append_right _ (List.mem_of_getElem? (i := 18) (l := allW_9) rfl))))
theorem kw559 : (Cond.methodLink R_GM 132 y_GM_map : Cond) ∈ allW := (List.mem_append_left _ (List.mem_append_left _ (List.mem_append_right _ (List.mem_of_getElem? (i := 19) (l := allW_9) rfl))))
theorem kw560 : (Cond.instanceMethod y_GM_map : Cond) ∈ allW := (List.mem_append_left _ (List.mem_append_left _ (List.mem_append_right _ (List.mem_of_getElem? (i := 20) (l := allW_9) rfl))))
theorem kw561 : (Cond.code y_GM_map prog_8_method_16_code 11 (some .int) : Cond) ∈ allW := (List.mem_append_left _ (List.mem_append_left _ (List.mem_append_right _ (List.mem_of_getElem? (i := 21) (l := allW_9) rfl))))
theorem kw562 : (Cond.methodLink "GateStackLaw" 35 y_GM_link : Cond) ∈ allW := (List.mem_append_left _ (List.mem_append_left _ (List.mem_append_right _ (List.mem_of_getElem? (i := 22) (l := allW_9) rfl))))
theorem kw563 : (Cond.instanceMethod y_GM_link : Cond) ∈ allW := (List.mem_append_left _ (List.mem_append_left _ (List.mem_append_right _ (List.mem_of_getElem? (i := 23) (l := allW_9) rfl))))
theorem kw564 : (Cond.selects R_GM y_GM_link y_GM_link : Cond) ∈ allW := (List.mem_append_left _ (List.mem_append_left _ (List.mem_append_right _ (List.mem_of_getElem? (i := 24) (l := allW_9) rfl))))
theorem kw565 : (Cond.code y_GM_link prog_8_method_20_code 7 (some .int) : Cond) ∈ allW := (List.mem_append_left _ (List.mem_append_left _ (List.mem_append_right _ (List.mem_of_getElem? (i := 25) (l := allW_9) rfl))))
theorem kw566 : (Cond.methodLink R_GM 135 y_GM_gather : Cond) ∈ allW := (List.mem_append_left _ (List.mem_append_left _ (List.mem_append_right _ (List.mem_of_getElem? (i := 26) (l := allW_9) rfl))))
theorem kw567 : (Cond.instanceMethod y_GM_gather : Cond) ∈ allW := (List.mem_append_left _ (List.mem_append_left _ (List.mem_append_right _ (List.mem_of_getElem? (i := 27) (l := allW_9) rfl))))
theorem kw568 : (Cond.code y_GM_gather prog_8_method_19_code 7 (some .boolean) : Cond) ∈ allW := (List.mem_append_left _ (List.mem_append_left _ (List.mem_append_right _ (List.mem_of_getElem? (i := 28) (l := allW_9) rfl))))
theorem kw569 : (Cond.methodLink "GateStackLaw" 39 y_GM_start : Cond) ∈ allW := (List.mem_append_left _ (List.mem_append_left _ (List.mem_append_right _ (List.mem_of_getElem? (i := 29) (l := allW_9) rfl))))
theorem kw570 : (Cond.instanceMethod y_GM_start : Cond) ∈ allW := (List.mem_append_left _ (List.mem_append_left _ (List.mem_append_right _ (List.mem_of_getElem? (i := 30) (l := allW_9) rfl))))
theorem kw571 : (Cond.selects R_GM y_GM_start y_GM_start : Cond) ∈ allW := (List.mem_append_left _ (List.mem_append_left _ (List.mem_append_right _ (List.mem_of_getElem? (i := 31) (l := allW_9) rfl))))
theorem kw572 : (Cond.code y_GM_start prog_8_method_25_code 1 (some .int) : Cond) ∈ allW := (List.mem_append_left _ (List.mem_append_left _ (List.mem_append_right _ (List.mem_of_getElem? (i := 32) (l := allW_9) rfl))))
theorem kw573 : (Cond.methodLink R_GM 162 y_GM_settle : Cond) ∈ allW := (List.mem_append_left _ (List.mem_append_left _ (List.mem_append_right _ (List.mem_of_getElem? (i := 33) (l := allW_9) rfl))))
theorem kw574 : (Cond.instanceMethod y_GM_settle : Cond) ∈ allW := (List.mem_append_left _ (List.mem_append_left _ (List.mem_append_right _ (List.mem_of_getElem? (i := 34) (l := allW_9) rfl))))
theorem kw575 : (Cond.code y_GM_settle prog_8_method_24_code 3 none : Cond) ∈ allW := (List.mem_append_left _ (List.mem_append_left _ (List.mem_append_right _ (List.mem_of_getElem? (i := 35) (l := allW_9) rfl))))
theorem kw576 : (Cond.methodLink "GateStackLaw" 43 y_GM_run : Cond) ∈ allW := (List.mem_append_left _ (List.mem_append_left _ (List.mem_append_right _ (List.mem_of_getElem? (i := 36) (l := allW_9) rfl))))
theorem kw577 : (Cond.instanceMethod y_GM_run : Cond) ∈ allW := (List.mem_append_left _ (List.mem_append_left _ (List.mem_append_right _ (List.mem_of_getElem? (i := 37) (l := allW_9) rfl))))
theorem kw578 : (Cond.selects R_GM y_GM_run y_GM_run : Cond) ∈ allW := (List.mem_append_left _ (List.mem_append_left _ (List.mem_append_right _ (List.mem_of_getElem? (i := 38) (l := allW_9) rfl))))
theorem kw579 : (Cond.code y_GM_run prog_8_method_28_code 3 (some .int) : Cond) ∈ allW := (List.mem_append_left _ (List.mem_append_left _ (List.mem_append_right _ (List.mem_of_getElem? (i := 39) (l := allW_9) rfl))))
theorem kw580 : (Cond.methodLink R_GM 172 y_GM_step : Cond) ∈ allW := (List.mem_append_left _ (List.mem_append_left _ (List.mem_append_right _ (List.mem_of_getElem? (i := 40) (l := allW_9) rfl))))
theorem kw581 : (Cond.instanceMethod y_GM_step : Cond) ∈ allW := (List.mem_append_left _ (List.mem_append_left _ (List.mem_append_right _ (List.mem_of_getElem? (i := 41) (l := allW_9) rfl))))
theorem kw582 : (Cond.code y_GM_step prog_8_method_27_code 3 none : Cond) ∈ allW := (List.mem_append_left _ (List.mem_append_left _ (List.mem_append_right _ (List.mem_of_getElem? (i := 42) (l := allW_9) rfl))))
theorem kw583 : (Cond.methodLink R_GM 168 y_GM_branch : Cond) ∈ allW := (List.mem_append_left _ (List.mem_append_left _ (List.mem_append_right _ (List.mem_of_getElem? (i := 43) (l := allW_9) rfl))))
theorem kw584 : (Cond.instanceMethod y_GM_branch : Cond) ∈ allW := (List.mem_append_left _ (List.mem_append_left _ (List.mem_append_right _ (List.mem_of_getElem? (i := 44) (l := allW_9) rfl))))
theorem kw585 : (Cond.code y_GM_branch prog_8_method_26_code 5 none : Cond) ∈ allW := (List.mem_append_left _ (List.mem_append_left _ (List.mem_append_right _ (List.mem_of_getElem? (i := 45) (l := allW_9) rfl))))
theorem kw586 : (Cond.methodLink R_GM 165 y_GM_work : Cond) ∈ allW := (List.mem_append_left _ (List.mem_append_left _ (List.mem_append_right _ (List.mem_of_getElem? (i := 46) (l := allW_9) rfl))))
theorem kw587 : (Cond.instanceMethod y_GM_work : Cond) ∈ allW := (List.mem_append_left _ (List.mem_append_left _ (List.mem_append_right _ (List.mem_of_getElem? (i := 47) (l := allW_9) rfl))))
theorem kw588 : (Cond.code y_GM_work prog_8_method_23_code 7 (some .int) : Cond) ∈ allW := (List.mem_append_left _ (List.mem_append_left _ (List.mem_append_right _ (List.mem_of_getElem? (i := 48) (l := allW_9) rfl))))
theorem kw589 : (Cond.methodLink R_GM 146 y_GM_operand : Cond) ∈ allW := (List.mem_append_left _ (List.mem_append_left _ (List.mem_append_right _ (List.mem_of_getElem? (i := 49) (l := allW_9) rfl))))
theorem kw590 : (Cond.instanceMethod y_GM_operand : Cond) ∈ allW := (List.mem_append_left _ (List.mem_append_left _ (List.mem_append_right _ (List.mem_of_getElem? (i := 50) (l := allW_9) rfl))))
theorem kw591 : (Cond.code y_GM_operand prog_8_method_22_code 4 none : Cond) ∈ allW := (List.mem_append_left _ (List.mem_append_left _ (List.mem_append_right _ (List.mem_of_getElem? (i := 51) (l := allW_9) rfl))))
theorem kw592 : (Cond.methodLink R_GM 142 y_GM_apply : Cond) ∈ allW := (List.mem_append_left _ (List.mem_append_left _ (List.mem_append_right _ (List.mem_of_getElem? (i := 52) (l := allW_9) rfl))))
theorem kw593 : (Cond.static y_GM_apply : Cond) ∈ allW := (List.mem_append_left _ (List.mem_append_left _ (List.mem_append_right _ (List.mem_of_getElem? (i := 53) (l := allW_9) rfl))))
theorem kw594 : (Cond.code y_GM_apply prog_8_method_21_code 3 (some .int) : Cond) ∈ allW := (List.mem_append_left _ (List.mem_append_left _ (List.mem_append_right _ (List.mem_of_getElem? (i := 54) (l := allW_9) rfl))))
theorem kw595 : (Cond.methodLink "GateStackLaw" 47 y_GM_stop : Cond) ∈ allW := (List.mem_append_left _ (List.mem_append_left _ (List.mem_append_right _ (List.mem_of_getElem? (i := 55) (l := allW_9) rfl))))
theorem kw596 : (Cond.instanceMethod y_GM_stop : Cond) ∈ allW := (List.mem_append_left _ (List.mem_append_left _ (List.mem_append_right _ (List.mem_of_getElem? (i := 56) (l := allW_9) rfl))))
theorem kw597 : (Cond.selects R_GM y_GM_stop y_GM_stop : Cond) ∈ allW := (List.mem_append_left _ (List.mem_append_left _ (List.mem_append_right _ (List.mem_of_getElem? (i := 57) (l := allW_9) rfl))))
theorem kw598 : (Cond.code y_GM_stop prog_8_method_29_code 1 (some .int) : Cond) ∈ allW := (List.mem_append_left _ (List.mem_append_left _ (List.mem_append_right _ (List.mem_of_getElem? (i := 58) (l := allW_9) rfl))))
theorem kw599 : (Cond.methodLink "GateStackLaw" 51 y_GM_set : Cond) ∈ allW := (List.mem_append_left _ (List.mem_append_left _ (List.mem_append_right _ (List.mem_of_getElem? (i := 59) (l := allW_9) rfl))))
theorem kw600 : (Cond.instanceMethod y_GM_set : Cond) ∈ allW := (List.mem_append_left _ (List.mem_append_right _ (List.mem_of_getElem? (i := 0) (l := allW_10) rfl)))
theorem kw601 : (Cond.selects R_GM y_GM_set y_GM_set : Cond) ∈ allW := (List.mem_append_left _ (List.mem_append_right _ (List.mem_of_getElem? (i := 1) (l := allW_10) rfl)))
theorem kw602 : (Cond.code y_GM_set prog_8_method_30_code 3 (some .int) : Cond) ∈ allW := (List.mem_append_left _ (List.mem_append_right _ (List.mem_of_getElem? (i := 2) (l := allW_10) rfl)))
theorem kw603 : (Cond.methodLink "GateStackLaw" 56 y_GM_get : Cond) ∈ allW := (List.mem_append_left _ (List.mem_append_right _ (List.mem_of_getElem? (i := 3) (l := allW_10) rfl)))
theorem kw604 : (Cond.instanceMethod y_GM_get : Cond) ∈ allW := (List.mem_append_left _ (List.mem_append_right _ (List.mem_of_getElem? (i := 4) (l := allW_10) rfl)))
theorem kw605 : (Cond.selects R_GM y_GM_get y_GM_get : Cond) ∈ allW := (List.mem_append_left _ (List.mem_append_right _ (List.mem_of_getElem? (i := 5) (l := allW_10) rfl)))
theorem kw606 : (Cond.code y_GM_get prog_8_method_31_code 2 (some .long) : Cond) ∈ allW := (List.mem_append_left _ (List.mem_append_right _ (List.mem_of_getElem? (i := 6) (l := allW_10) rfl)))
theorem kw607 : (Cond.constantLong R_GM 175 (-1000000000000) : Cond) ∈ allW := (List.mem_append_left _ (List.mem_append_right _ (List.mem_of_getElem? (i := 7) (l := allW_10) rfl)))
theorem kw608 : (Cond.methodLink "GateStackLaw" 60 y_GM_output : Cond) ∈ allW := (List.mem_append_left _ (List.mem_append_right _ (List.mem_of_getElem? (i := 8) (l := allW_10) rfl)))
theorem kw609 : (Cond.instanceMethod y_GM_output : Cond) ∈ allW := (List.mem_append_left _ (List.mem_append_right _ (List.mem_of_getElem? (i := 9) (l := allW_10) rfl)))
theorem kw610 : (Cond.selects R_GM y_GM_output y_GM_output : Cond) ∈ allW := (List.mem_append_left _ (List.mem_append_right _ (List.mem_of_getElem? (i := 10) (l := allW_10) rfl)))
theorem kw611 : (Cond.code y_GM_output prog_8_method_32_code 2 (some .long) : Cond) ∈ allW := (List.mem_append_left _ (List.mem_append_right _ (List.mem_of_getElem? (i := 11) (l := allW_10) rfl)))
theorem kw612 : (Cond.methodLink "GateStackLaw" 64 y_GM_at : Cond) ∈ allW := (List.mem_append_left _ (List.mem_append_right _ (List.mem_of_getElem? (i := 12) (l := allW_10) rfl)))
theorem kw613 : (Cond.instanceMethod y_GM_at : Cond) ∈ allW := (List.mem_append_left _ (List.mem_append_right _ (List.mem_of_getElem? (i := 13) (l := allW_10) rfl)))
theorem kw614 : (Cond.selects R_GM y_GM_at y_GM_at : Cond) ∈ allW := (List.mem_append_left _ (List.mem_append_right _ (List.mem_of_getElem? (i := 14) (l := allW_10) rfl)))
theorem kw615 : (Cond.code y_GM_at prog_8_method_33_code 2 (some .int) : Cond) ∈ allW := (List.mem_append_left _ (List.mem_append_right _ (List.mem_of_getElem? (i := 15) (l := allW_10) rfl)))
theorem kw616 : (Cond.methodLink "GateStackLaw" 69 y_GM_operate : Cond) ∈ allW := (List.mem_append_left _ (List.mem_append_right _ (List.mem_of_getElem? (i := 16) (l := allW_10) rfl)))
theorem kw617 : (Cond.instanceMethod y_GM_operate : Cond) ∈ allW := (List.mem_append_left _ (List.mem_append_right _ (List.mem_of_getElem? (i := 17) (l := allW_10) rfl)))
theorem kw618 : (Cond.selects R_GM y_GM_operate y_GM_operate : Cond) ∈ allW := (List.mem_append_left _ (List.mem_append_right _ (List.mem_of_getElem? (i := 18) (l := allW_10) rfl)))
theorem kw619 : (Cond.code y_GM_operate prog_8_method_34_code 5 (some .long) : Cond) ∈ allW := (List.mem_append_left _ (List.mem_append_right _ (List.mem_of_getElem? (i := 19) (l := allW_10) rfl)))
theorem kw620 : (Cond.methodLink "GateStackLaw" 73 y_GM_state : Cond) ∈ allW := (List.mem_append_left _ (List.mem_append_right _ (List.mem_of_getElem? (i := 20) (l := allW_10) rfl)))
theorem kw621 : (Cond.instanceMethod y_GM_state : Cond) ∈ allW := (List.mem_append_left _ (List.mem_append_right _ (List.mem_of_getElem? (i := 21) (l := allW_10) rfl)))
theorem kw622 : (Cond.selects R_GM y_GM_state y_GM_state : Cond) ∈ allW := (List.mem_append_left _ (List.mem_append_right _ (List.mem_of_getElem? (i := 22) (l := allW_10) rfl)))
theorem kw623 : (Cond.code y_GM_state prog_8_method_35_code 3 (some .int) : Cond) ∈ allW := (List.mem_append_left _ (List.mem_append_right _ (List.mem_of_getElem? (i := 23) (l := allW_10) rfl)))
theorem kw624 : (Cond.selects R_GS y_GS_loosen y_GS_loosen : Cond) ∈ allW := (List.mem_append_left _ (List.mem_append_right _ (List.mem_of_getElem? (i := 24) (l := allW_10) rfl)))
theorem kw625 : (Cond.selects R_RD y_RD_takes y_RD_takes : Cond) ∈ allW := (List.mem_append_left _ (List.mem_append_right _ (List.mem_of_getElem? (i := 25) (l := allW_10) rfl)))
theorem kw626 : (Cond.selects R_RD y_RD_takesProcedure y_RD_takesProcedure : Cond) ∈ allW := (List.mem_append_left _ (List.mem_append_right _ (List.mem_of_getElem? (i := 26) (l := allW_10) rfl)))
theorem kw627 : (Cond.selects R_RD y_RD_begins y_RD_begins : Cond) ∈ allW := (List.mem_append_left _ (List.mem_append_right _ (List.mem_of_getElem? (i := 27) (l := allW_10) rfl)))
theorem kw628 : (Cond.selects R_RD y_RD_expects y_RD_expects : Cond) ∈ allW := (List.mem_append_left _ (List.mem_append_right _ (List.mem_of_getElem? (i := 28) (l := allW_10) rfl)))
theorem kw629 : (Cond.selects R_RD y_RD_opens y_RD_opens : Cond) ∈ allW := (List.mem_append_left _ (List.mem_append_right _ (List.mem_of_getElem? (i := 29) (l := allW_10) rfl)))
theorem kw630 : (Cond.selects R_RD y_RD_takesStatement y_RD_takesStatement : Cond) ∈ allW := (List.mem_append_left _ (List.mem_append_right _ (List.mem_of_getElem? (i := 30) (l := allW_10) rfl)))
theorem kw631 : (Cond.selects R_RD y_RD_closesBlock y_RD_closesBlock : Cond) ∈ allW := (List.mem_append_left _ (List.mem_append_right _ (List.mem_of_getElem? (i := 31) (l := allW_10) rfl)))
theorem kw632 : (Cond.selects R_MT y_MT_isPlace y_MT_isPlace : Cond) ∈ allW := (List.mem_append_left _ (List.mem_append_right _ (List.mem_of_getElem? (i := 32) (l := allW_10) rfl)))
theorem kw633 : (Cond.selects R_RD y_RD_takesOperand y_RD_takesOperand : Cond) ∈ allW := (List.mem_append_left _ (List.mem_append_right _ (List.mem_of_getElem? (i := 33) (l := allW_10) rfl)))
theorem kw634 : (Cond.selects R_RD y_RD_endsOperand y_RD_endsOperand : Cond) ∈ allW := (List.mem_append_left _ (List.mem_append_right _ (List.mem_of_getElem? (i := 34) (l := allW_10) rfl)))
theorem kw635 : (Cond.selects R_RD y_RD_lastOpen y_RD_lastOpen : Cond) ∈ allW := (List.mem_append_left _ (List.mem_append_right _ (List.mem_of_getElem? (i := 35) (l := allW_10) rfl)))
theorem kw636 : (Cond.selects R_RD y_RD_takesDigit y_RD_takesDigit : Cond) ∈ allW := (List.mem_append_left _ (List.mem_append_right _ (List.mem_of_getElem? (i := 36) (l := allW_10) rfl)))
theorem kw637 : (Cond.selects R_RD y_RD_takesOperator y_RD_takesOperator : Cond) ∈ allW := (List.mem_append_left _ (List.mem_append_right _ (List.mem_of_getElem? (i := 37) (l := allW_10) rfl)))
theorem kw638 : (Cond.selects R_PR y_PR_forget y_PR_forget : Cond) ∈ allW := (List.mem_append_left _ (List.mem_append_right _ (List.mem_of_getElem? (i := 38) (l := allW_10) rfl)))
theorem kw639 : (Cond.selects R_PR y_PR_takeOver y_PR_takeOver : Cond) ∈ allW := (List.mem_append_left _ (List.mem_append_right _ (List.mem_of_getElem? (i := 39) (l := allW_10) rfl)))
theorem kw640 : (Cond.selects R_PR y_PR_lacksOne y_PR_lacksOne : Cond) ∈ allW := (List.mem_append_left _ (List.mem_append_right _ (List.mem_of_getElem? (i := 40) (l := allW_10) rfl)))
theorem kw641 : (Cond.selects R_PR y_PR_followChains y_PR_followChains : Cond) ∈ allW := (List.mem_append_left _ (List.mem_append_right _ (List.mem_of_getElem? (i := 41) (l := allW_10) rfl)))
theorem kw642 : (Cond.selects R_PR y_PR_hasCircle y_PR_hasCircle : Cond) ∈ allW := (List.mem_append_left _ (List.mem_append_right _ (List.mem_of_getElem? (i := 42) (l := allW_10) rfl)))
theorem kw643 : (Cond.selects R_MA y_MA_enter y_MA_enter : Cond) ∈ allW := (List.mem_append_left _ (List.mem_append_right _ (List.mem_of_getElem? (i := 43) (l := allW_10) rfl)))
theorem kw644 : (Cond.selects R_MA y_MA_leaveEndedBlocks y_MA_leaveEndedBlocks : Cond) ∈ allW := (List.mem_append_left _ (List.mem_append_right _ (List.mem_of_getElem? (i := 44) (l := allW_10) rfl)))
theorem kw645 : (Cond.selects R_MA y_MA_currentText y_MA_currentText : Cond) ∈ allW := (List.mem_append_left _ (List.mem_append_right _ (List.mem_of_getElem? (i := 45) (l := allW_10) rfl)))
theorem kw646 : (Cond.selects R_MT y_MT_behindEndOf y_MT_behindEndOf : Cond) ∈ allW := (List.mem_append_left _ (List.mem_append_right _ (List.mem_of_getElem? (i := 46) (l := allW_10) rfl)))
theorem kw647 : (Cond.selects R_MA y_MA_placeBehind y_MA_placeBehind : Cond) ∈ allW := (List.mem_append_left _ (List.mem_append_right _ (List.mem_of_getElem? (i := 47) (l := allW_10) rfl)))
theorem kw648 : (Cond.selects R_CA y_CA_expression y_CA_expression : Cond) ∈ allW := (List.mem_append_left _ (List.mem_append_right _ (List.mem_of_getElem? (i := 48) (l := allW_10) rfl)))
theorem kw649 : (Cond.selects R_CA y_CA_operand y_CA_operand : Cond) ∈ allW := (List.mem_append_left _ (List.mem_append_right _ (List.mem_of_getElem? (i := 49) (l := allW_10) rfl)))
theorem kw650 : (Cond.selects R_CA y_CA_number y_CA_number : Cond) ∈ allW := (List.mem_append_left _ (List.mem_append_right _ (List.mem_of_getElem? (i := 50) (l := allW_10) rfl)))
theorem kw651 : (Cond.selects R_MA y_MA_keep y_MA_keep : Cond) ∈ allW := (List.mem_append_left _ (List.mem_append_right _ (List.mem_of_getElem? (i := 51) (l := allW_10) rfl)))
theorem kw652 : (Cond.selects R_GM y_GM_unlink y_GM_unlink : Cond) ∈ allW := (List.mem_append_left _ (List.mem_append_right _ (List.mem_of_getElem? (i := 52) (l := allW_10) rfl)))
theorem kw653 : (Cond.selects R_GM y_GM_stands y_GM_stands : Cond) ∈ allW := (List.mem_append_left _ (List.mem_append_right _ (List.mem_of_getElem? (i := 53) (l := allW_10) rfl)))
theorem kw654 : (Cond.selects R_GM y_GM_push y_GM_push : Cond) ∈ allW := (List.mem_append_left _ (List.mem_append_right _ (List.mem_of_getElem? (i := 54) (l := allW_10) rfl)))
theorem kw655 : (Cond.selects R_GM y_GM_atStatement y_GM_atStatement : Cond) ∈ allW := (List.mem_append_left _ (List.mem_append_right _ (List.mem_of_getElem? (i := 55) (l := allW_10) rfl)))
theorem kw656 : (Cond.selects R_GM y_GM_atOperand y_GM_atOperand : Cond) ∈ allW := (List.mem_append_left _ (List.mem_append_right _ (List.mem_of_getElem? (i := 56) (l := allW_10) rfl)))
theorem kw657 : (Cond.selects R_GM y_GM_operandEnds y_GM_operandEnds : Cond) ∈ allW := (List.mem_append_left _ (List.mem_append_right _ (List.mem_of_getElem? (i := 57) (l := allW_10) rfl)))
theorem kw658 : (Cond.selects R_GM y_GM_afterOperand y_GM_afterOperand : Cond) ∈ allW := (List.mem_append_left _ (List.mem_append_right _ (List.mem_of_getElem? (i := 58) (l := allW_10) rfl)))
theorem kw659 : (Cond.selects R_GM y_GM_twice y_GM_twice : Cond) ∈ allW := (List.mem_append_left _ (List.mem_append_right _ (List.mem_of_getElem? (i := 59) (l := allW_10) rfl)))
theorem kw660 : (Cond.selects R_GM y_GM_map y_GM_map : Cond) ∈ allW := (List.mem_append_right _ (List.mem_of_getElem? (i := 0) (l := allW_11) rfl))
theorem kw661 : (Cond.selects R_GM y_GM_gather y_GM_gather : Cond) ∈ allW := (List.mem_append_right _ (List.mem_of_getElem? (i := 1) (l := allW_11) rfl))
theorem kw662 : (Cond.selects R_GM y_GM_settle y_GM_settle : Cond) ∈ allW := (List.mem_append_right _ (List.mem_of_getElem? (i := 2) (l := allW_11) rfl))
theorem kw663 : (Cond.selects R_GM y_GM_step y_GM_step : Cond) ∈ allW := (List.mem_append_right _ (List.mem_of_getElem? (i := 3) (l := allW_11) rfl))
theorem kw664 : (Cond.selects R_GM y_GM_branch y_GM_branch : Cond) ∈ allW := (List.mem_append_right _ (List.mem_of_getElem? (i := 4) (l := allW_11) rfl))
theorem kw665 : (Cond.selects R_GM y_GM_work y_GM_work : Cond) ∈ allW := (List.mem_append_right _ (List.mem_of_getElem? (i := 5) (l := allW_11) rfl))
theorem kw666 : (Cond.selects R_GM y_GM_operand y_GM_operand : Cond) ∈ allW := (List.mem_append_right _ (List.mem_of_getElem? (i := 6) (l := allW_11) rfl))
theorem aG_0 : allW_0.all goodWord = true := by decide +kernel
theorem aG_1 : allW_1.all goodWord = true := by decide +kernel
theorem aG_2 : allW_2.all goodWord = true := by decide +kernel
theorem aG_3 : allW_3.all goodWord = true := by decide +kernel
theorem aG_4 : allW_4.all goodWord = true := by decide +kernel
theorem aG_5 : allW_5.all goodWord = true := by decide +kernel
theorem aG_6 : allW_6.all goodWord = true := by decide +kernel
theorem aG_7 : allW_7.all goodWord = true := by decide +kernel
theorem aG_8 : allW_8.all goodWord = true := by decide +kernel
theorem aG_9 : allW_9.all goodWord = true := by decide +kernel
theorem aG_10 : allW_10.all goodWord = true := by decide +kernel
theorem aG_11 : allW_11.all goodWord = true := by decide +kernel
theorem allG : ∀ w ∈ allW, goodWord w = true := by
  intro w h
  simp only [allW, List.mem_append] at h
  rcases h with ((((((((((h | h) | h) | h) | h) | h) | h) | h) | h) | h) | h) | h
  · exact List.all_eq_true.mp aG_0 w h
  · exact List.all_eq_true.mp aG_1 w h
  · exact List.all_eq_true.mp aG_2 w h
  · exact List.all_eq_true.mp aG_3 w h
  · exact List.all_eq_true.mp aG_4 w h
  · exact List.all_eq_true.mp aG_5 w h
  · exact List.all_eq_true.mp aG_6 w h
  · exact List.all_eq_true.mp aG_7 w h
  · exact List.all_eq_true.mp aG_8 w h
  · exact List.all_eq_true.mp aG_9 w h
  · exact List.all_eq_true.mp aG_10 w h
  · exact List.all_eq_true.mp aG_11 w h
theorem gM {c1 : Cond} {ws : List Cond} (h : ∀ w ∈ ws, w ∈ allW) : GoodIn (c1 :: allW) ws := fun w hw => ⟨List.mem_cons_of_mem _ (h w hw), good_of_word (allG w (h w hw))⟩
theorem gc {w : Cond} (h : w ∈ allW) : ∀ x ∈ w :: allW, x ∈ allW := fun x hx => by
  rcases List.mem_cons.mp hx with rfl | q
  · exact h
  · exact q
theorem gW {c1 : Cond} {y : MethodName} {b : ByteArray} {n : Nat} {r : Option FieldType} (h : Cond.code y b n r ∈ allW) : GoodIn (c1 :: allW) (.code y b n r :: allW) := gM (gc h)
theorem gV {c1 : Cond} {own C : String} {idx : Nat} {y : MethodName} {b : ByteArray} {n : Nat} {r : Option FieldType} (h1 : Cond.methodLink own idx y ∈ allW) (h2 : Cond.instanceMethod y ∈ allW) (h3 : Cond.selects C y y ∈ allW) (h4 : Cond.initialized C ∈ allW) (h5 : Cond.code y b n r ∈ allW) : GoodIn (c1 :: allW) (wsV own idx C y (.code y b n r :: allW)) := gM (fun w hw => by
  unfold wsV at hw
  rcases List.mem_append.mp hw with q | q
  · simp only [List.mem_cons, List.not_mem_nil, or_false] at q
    rcases q with rfl | rfl | rfl | rfl
    · exact h1
    · exact h2
    · exact h3
    · exact h4
  · exact gc h5 w q)
theorem gS {c1 : Cond} {own : String} {idx : Nat} {y : MethodName} {b : ByteArray} {n : Nat} {r : Option FieldType} (h1 : Cond.methodLink own idx y ∈ allW) (h2 : Cond.static y ∈ allW) (h4 : Cond.initialized own ∈ allW) (h5 : Cond.code y b n r ∈ allW) : GoodIn (c1 :: allW) (wsS own idx y (.code y b n r :: allW)) := gM (fun w hw => by
  unfold wsS at hw
  rcases List.mem_append.mp hw with q | q
  · simp only [List.mem_cons, List.not_mem_nil, or_false] at q
    rcases q with rfl | rfl | rfl
    · exact h1
    · exact h2
    · exact h4
  · exact gc h5 w q)
theorem gSS {c1 : Cond} {own : String} {idx : Nat} {y : MethodName} {b : ByteArray} {n : Nat} {r : Option FieldType} (h1 : Cond.methodLink own idx y ∈ allW) (h2 : Cond.static y ∈ allW) (h4 : Cond.initialized y.cls ∈ allW) (h5 : Cond.code y b n r ∈ allW) : GoodIn (c1 :: allW) (va_wsS own idx y (.code y b n r :: allW)) := gM (fun w hw => by
  unfold va_wsS at hw
  rcases List.mem_append.mp hw with q | q
  · simp only [List.mem_cons, List.not_mem_nil, or_false] at q
    rcases q with rfl | rfl | rfl
    · exact h1
    · exact h2
    · exact h4
  · exact gc h5 w q)
theorem in_GS : ∀ w ∈ u_ws R_GS T_GS 6, w ∈ allW := by decide +kernel
theorem in_MT : ∀ w ∈ u_ws R_MT T_MT 10, w ∈ allW := by decide +kernel
theorem in_RD : ∀ w ∈ u_ws R_RD T_RD 8, w ∈ allW := by decide +kernel
theorem in_PR : ∀ w ∈ u_ws R_PR T_PR 3, w ∈ allW := by decide +kernel
theorem in_CA : ∀ w ∈ u_ws R_CA T_CA 2, w ∈ allW := by decide +kernel
theorem in_MA : ∀ w ∈ u_ws R_MA T_MA 5, w ∈ allW := by decide +kernel
theorem in_GM : ∀ w ∈ u_ws R_GM T_GM 30, w ∈ allW := by decide +kernel
abbrev ws_GS_init : List Cond := .code y_GS_init b_GS_init 2 none :: allW
abbrev ws_GS_sign : List Cond := .code y_GS_sign b_GS_sign 3 (some .int) :: allW
abbrev ws_GS_clear : List Cond := .code y_GS_clear b_GS_clear 2 (some .int) :: allW
abbrev ws_GS_compile : List Cond := .code y_GS_compile b_GS_compile 4 (some .int) :: allW
abbrev ws_GS_fault : List Cond := .code y_GS_fault b_GS_fault 2 (some .int) :: allW
abbrev ws_GS_link : List Cond := .code y_GS_link b_GS_link 2 (some .int) :: allW
abbrev ws_GS_start : List Cond := .code y_GS_start b_GS_start 1 (some .int) :: allW
abbrev ws_GS_run : List Cond := .code y_GS_run b_GS_run 3 (some .int) :: allW
abbrev ws_GS_stop : List Cond := .code y_GS_stop b_GS_stop 1 (some .int) :: allW
abbrev ws_GS_set : List Cond := .code y_GS_set b_GS_set 3 (some .int) :: allW
abbrev ws_GS_get : List Cond := .code y_GS_get b_GS_get 2 (some .long) :: allW
abbrev ws_GS_output : List Cond := .code y_GS_output b_GS_output 2 (some .long) :: allW
abbrev ws_GS_at : List Cond := .code y_GS_at b_GS_at 2 (some .int) :: allW
abbrev ws_GS_operate : List Cond := .code y_GS_operate b_GS_operate 4 (some .long) :: allW
abbrev ws_GS_state : List Cond := .code y_GS_state b_GS_state 3 (some .int) :: allW
abbrev ws_GS_loosen : List Cond := .code y_GS_loosen b_GS_loosen 1 none :: allW
abbrev ws_GS_isModule : List Cond := .code y_GS_isModule b_GS_isModule 1 (some .boolean) :: allW
abbrev ws_GS_isVariableNumber : List Cond := .code y_GS_isVariableNumber b_GS_isVariableNumber 1 (some .boolean) :: allW
abbrev ws_GS_isLetterNumber : List Cond := .code y_GS_isLetterNumber b_GS_isLetterNumber 1 (some .boolean) :: allW
abbrev ws_GS_isLetter : List Cond := .code y_GS_isLetter b_GS_isLetter 1 (some .boolean) :: allW
abbrev ws_GS_isVariable : List Cond := .code y_GS_isVariable b_GS_isVariable 1 (some .boolean) :: allW
abbrev ws_GS_isDigit : List Cond := .code y_GS_isDigit b_GS_isDigit 1 (some .boolean) :: allW
abbrev ws_GS_isPrefix : List Cond := .code y_GS_isPrefix b_GS_isPrefix 1 (some .boolean) :: allW
abbrev ws_GS_hasBit : List Cond := .code y_GS_hasBit b_GS_hasBit 2 (some .boolean) :: allW
abbrev ws_GS_operationOf : List Cond := .code y_GS_operationOf b_GS_operationOf 1 (some .int) :: allW
abbrev ws_GS_worked : List Cond := .code y_GS_worked b_GS_worked 3 (some .int) :: allW
abbrev ws_GM_init : List Cond := .code y_GM_init b_GM_init 2 none :: allW
abbrev ws_GM_in : List Cond := .code y_GM_in b_GM_in 3 (some .boolean) :: allW
abbrev ws_GM_unlink : List Cond := .code y_GM_unlink b_GM_unlink 1 none :: allW
abbrev ws_GM_sign : List Cond := .code y_GM_sign b_GM_sign 3 (some .int) :: allW
abbrev ws_GM_clear : List Cond := .code y_GM_clear b_GM_clear 2 (some .int) :: allW
abbrev ws_GM_isVariable : List Cond := .code y_GM_isVariable b_GM_isVariable 1 (some .boolean) :: allW
abbrev ws_GM_isLetter : List Cond := .code y_GM_isLetter b_GM_isLetter 1 (some .boolean) :: allW
abbrev ws_GM_isOperator : List Cond := .code y_GM_isOperator b_GM_isOperator 1 (some .boolean) :: allW
abbrev ws_GM_push : List Cond := .code y_GM_push b_GM_push 3 (some .boolean) :: allW
abbrev ws_GM_operandEnds : List Cond := .code y_GM_operandEnds b_GM_operandEnds 1 none :: allW
abbrev ws_GM_atStatement : List Cond := .code y_GM_atStatement b_GM_atStatement 3 (some .boolean) :: allW
abbrev ws_GM_atOperand : List Cond := .code y_GM_atOperand b_GM_atOperand 3 (some .boolean) :: allW
abbrev ws_GM_afterOperand : List Cond := .code y_GM_afterOperand b_GM_afterOperand 3 (some .boolean) :: allW
abbrev ws_GM_stands : List Cond := .code y_GM_stands b_GM_stands 3 (some .boolean) :: allW
abbrev ws_GM_fault : List Cond := .code y_GM_fault b_GM_fault 3 (some .int) :: allW
abbrev ws_GM_map : List Cond := .code y_GM_map b_GM_map 11 (some .int) :: allW
abbrev ws_GM_twice : List Cond := .code y_GM_twice b_GM_twice 6 (some .boolean) :: allW
abbrev ws_GM_compile : List Cond := .code y_GM_compile b_GM_compile 2 (some .int) :: allW
abbrev ws_GM_gather : List Cond := .code y_GM_gather b_GM_gather 7 (some .boolean) :: allW
abbrev ws_GM_link : List Cond := .code y_GM_link b_GM_link 7 (some .int) :: allW
abbrev ws_GM_apply : List Cond := .code y_GM_apply b_GM_apply 3 (some .int) :: allW
abbrev ws_GM_operand : List Cond := .code y_GM_operand b_GM_operand 4 none :: allW
abbrev ws_GM_work : List Cond := .code y_GM_work b_GM_work 7 (some .int) :: allW
abbrev ws_GM_settle : List Cond := .code y_GM_settle b_GM_settle 3 none :: allW
abbrev ws_GM_start : List Cond := .code y_GM_start b_GM_start 1 (some .int) :: allW
abbrev ws_GM_branch : List Cond := .code y_GM_branch b_GM_branch 5 none :: allW
abbrev ws_GM_step : List Cond := .code y_GM_step b_GM_step 3 none :: allW
abbrev ws_GM_run : List Cond := .code y_GM_run b_GM_run 3 (some .int) :: allW
abbrev ws_GM_stop : List Cond := .code y_GM_stop b_GM_stop 1 (some .int) :: allW
abbrev ws_GM_set : List Cond := .code y_GM_set b_GM_set 3 (some .int) :: allW
abbrev ws_GM_get : List Cond := .code y_GM_get b_GM_get 2 (some .long) :: allW
abbrev ws_GM_output : List Cond := .code y_GM_output b_GM_output 2 (some .long) :: allW
abbrev ws_GM_at : List Cond := .code y_GM_at b_GM_at 2 (some .int) :: allW
abbrev ws_GM_operate : List Cond := .code y_GM_operate b_GM_operate 5 (some .long) :: allW
abbrev ws_GM_state : List Cond := .code y_GM_state b_GM_state 3 (some .int) :: allW
abbrev ws_CA_init : List Cond := .code y_CA_init b_CA_init 1 none :: allW
abbrev ws_CA_assign : List Cond := .code y_CA_assign b_CA_assign 3 (some .boolean) :: allW
abbrev ws_CA_variable : List Cond := .code y_CA_variable b_CA_variable 2 (some .int) :: allW
abbrev ws_CA_valueAt : List Cond := .code y_CA_valueAt b_CA_valueAt 3 (some .int) :: allW
abbrev ws_CA_cursor : List Cond := .code y_CA_cursor b_CA_cursor 1 (some .int) :: allW
abbrev ws_CA_expression : List Cond := .code y_CA_expression b_CA_expression 6 (some .int) :: allW
abbrev ws_CA_operand : List Cond := .code y_CA_operand b_CA_operand 5 (some .int) :: allW
abbrev ws_CA_number : List Cond := .code y_CA_number b_CA_number 4 (some .int) :: allW
abbrev ws_MA_init : List Cond := .code y_MA_init b_MA_init 1 none :: allW
abbrev ws_MA_isGoing : List Cond := .code y_MA_isGoing b_MA_isGoing 1 (some .boolean) :: allW
abbrev ws_MA_depth : List Cond := .code y_MA_depth b_MA_depth 1 (some .int) :: allW
abbrev ws_MA_outputCount : List Cond := .code y_MA_outputCount b_MA_outputCount 1 (some .int) :: allW
abbrev ws_MA_hasKept : List Cond := .code y_MA_hasKept b_MA_hasKept 2 (some .boolean) :: allW
abbrev ws_MA_kept : List Cond := .code y_MA_kept b_MA_kept 2 (some .int) :: allW
abbrev ws_MA_letterCode : List Cond := .code y_MA_letterCode b_MA_letterCode 1 (some .int) :: allW
abbrev ws_MA_statementNumber : List Cond := .code y_MA_statementNumber b_MA_statementNumber 3 (some .int) :: allW
abbrev ws_MA_halt : List Cond := .code y_MA_halt b_MA_halt 1 none :: allW
abbrev ws_MA_begin : List Cond := .code y_MA_begin b_MA_begin 2 none :: allW
abbrev ws_MA_step : List Cond := .code y_MA_step b_MA_step 7 none :: allW
abbrev ws_MA_currentText : List Cond := .code y_MA_currentText b_MA_currentText 2 (some (.object "GateStack$ModuleText")) :: allW
abbrev ws_MA_enter : List Cond := .code y_MA_enter b_MA_enter 4 none :: allW
abbrev ws_MA_placeBehind : List Cond := .code y_MA_placeBehind b_MA_placeBehind 8 (some .int) :: allW
abbrev ws_MA_keep : List Cond := .code y_MA_keep b_MA_keep 2 none :: allW
abbrev ws_MA_leaveEndedBlocks : List Cond := .code y_MA_leaveEndedBlocks b_MA_leaveEndedBlocks 5 none :: allW
abbrev ws_MT_init : List Cond := .code y_MT_init b_MT_init 1 none :: allW
abbrev ws_MT_append : List Cond := .code y_MT_append b_MT_append 2 (some .boolean) :: allW
abbrev ws_MT_empty : List Cond := .code y_MT_empty b_MT_empty 1 none :: allW
abbrev ws_MT_forget : List Cond := .code y_MT_forget b_MT_forget 1 none :: allW
abbrev ws_MT_mark : List Cond := .code y_MT_mark b_MT_mark 2 none :: allW
abbrev ws_MT_addProcedure : List Cond := .code y_MT_addProcedure b_MT_addProcedure 3 none :: allW
abbrev ws_MT_addCall : List Cond := .code y_MT_addCall b_MT_addCall 3 none :: allW
abbrev ws_MT_addStatement : List Cond := .code y_MT_addStatement b_MT_addStatement 3 none :: allW
abbrev ws_MT_addBlock : List Cond := .code y_MT_addBlock b_MT_addBlock 3 none :: allW
abbrev ws_MT_length : List Cond := .code y_MT_length b_MT_length 1 (some .int) :: allW
abbrev ws_MT_defined : List Cond := .code y_MT_defined b_MT_defined 1 (some .int) :: allW
abbrev ws_MT_hasTwins : List Cond := .code y_MT_hasTwins b_MT_hasTwins 1 (some .boolean) :: allW
abbrev ws_MT_isCompiled : List Cond := .code y_MT_isCompiled b_MT_isCompiled 1 (some .boolean) :: allW
abbrev ws_MT_signAt : List Cond := .code y_MT_signAt b_MT_signAt 2 (some .int) :: allW
abbrev ws_MT_numberAt : List Cond := .code y_MT_numberAt b_MT_numberAt 2 (some .int) :: allW
abbrev ws_MT_callsOf : List Cond := .code y_MT_callsOf b_MT_callsOf 2 (some .int) :: allW
abbrev ws_MT_firstPlaceOf : List Cond := .code y_MT_firstPlaceOf b_MT_firstPlaceOf 2 (some .int) :: allW
abbrev ws_MT_endsProcedure : List Cond := .code y_MT_endsProcedure b_MT_endsProcedure 2 (some .boolean) :: allW
abbrev ws_MT_behindBlock : List Cond := .code y_MT_behindBlock b_MT_behindBlock 3 (some .int) :: allW
abbrev ws_MT_placeIfZero : List Cond := .code y_MT_placeIfZero b_MT_placeIfZero 3 (some .int) :: allW
abbrev ws_MT_behindEndOf : List Cond := .code y_MT_behindEndOf b_MT_behindEndOf 2 (some .int) :: allW
abbrev ws_MT_isPlace : List Cond := .code y_MT_isPlace b_MT_isPlace 2 (some .boolean) :: allW
abbrev ws_PR_init : List Cond := .code y_PR_init b_PR_init 1 none :: allW
abbrev ws_PR_join : List Cond := .code y_PR_join b_PR_join 3 (some .int) :: allW
abbrev ws_PR_homeOf : List Cond := .code y_PR_homeOf b_PR_homeOf 2 (some (.object "GateStack$ModuleText")) :: allW
abbrev ws_PR_forget : List Cond := .code y_PR_forget b_PR_forget 2 none :: allW
abbrev ws_PR_takeOver : List Cond := .code y_PR_takeOver b_PR_takeOver 3 none :: allW
abbrev ws_PR_lacksOne : List Cond := .code y_PR_lacksOne b_PR_lacksOne 3 (some .boolean) :: allW
abbrev ws_PR_followChains : List Cond := .code y_PR_followChains b_PR_followChains 3 none :: allW
abbrev ws_PR_hasCircle : List Cond := .code y_PR_hasCircle b_PR_hasCircle 2 (some .boolean) :: allW
abbrev ws_RD_init : List Cond := .code y_RD_init b_RD_init 1 none :: allW
abbrev ws_RD_faultOf : List Cond := .code y_RD_faultOf b_RD_faultOf 4 (some .int) :: allW
abbrev ws_RD_takes : List Cond := .code y_RD_takes b_RD_takes 4 (some .boolean) :: allW
abbrev ws_RD_takesProcedure : List Cond := .code y_RD_takesProcedure b_RD_takesProcedure 4 (some .boolean) :: allW
abbrev ws_RD_takesStatement : List Cond := .code y_RD_takesStatement b_RD_takesStatement 5 (some .boolean) :: allW
abbrev ws_RD_behindFirstSign : List Cond := .code y_RD_behindFirstSign b_RD_behindFirstSign 1 (some .int) :: allW
abbrev ws_RD_closesBlock : List Cond := .code y_RD_closesBlock b_RD_closesBlock 5 (some .boolean) :: allW
abbrev ws_RD_takesOperand : List Cond := .code y_RD_takesOperand b_RD_takesOperand 4 (some .boolean) :: allW
abbrev ws_RD_takesDigit : List Cond := .code y_RD_takesDigit b_RD_takesDigit 1 (some .boolean) :: allW
abbrev ws_RD_takesOperator : List Cond := .code y_RD_takesOperator b_RD_takesOperator 5 (some .boolean) :: allW
abbrev ws_RD_endsOperand : List Cond := .code y_RD_endsOperand b_RD_endsOperand 3 (some .boolean) :: allW
abbrev ws_RD_lastOpen : List Cond := .code y_RD_lastOpen b_RD_lastOpen 2 (some .int) :: allW
abbrev ws_RD_opens : List Cond := .code y_RD_opens b_RD_opens 3 (some .boolean) :: allW
abbrev ws_RD_begins : List Cond := .code y_RD_begins b_RD_begins 3 (some .boolean) :: allW
abbrev ws_RD_expects : List Cond := .code y_RD_expects b_RD_expects 2 (some .boolean) :: allW
abbrev ws_JI_bitCount : List Cond := .code y_JI_bitCount b_JI_bitCount 1 (some .int) :: allW
end
section
/-- the class's state: the three texts (text, row, place), and the other cells (cell, place) -/
abbrev CS : Type := (Nat → Nat → Nat → Int32) × (Nat → Nat → Int32)
/-- where the cells lie: the fixed ones, the texts' ones; the classes of int[] and of ModuleText[] -/
abbrev GP : Type := (Nat → Nat) × (Nat → Nat → Nat) × ClassId × ClassId
abbrev aA (G : GP) (c : Nat) : Nat := G.1 c
abbrev tA (G : GP) (k j : Nat) : Nat := G.2.1 k j
def stR (S : CS) (c i : Nat) (v : Int32) : CS := (S.1, va_up S.2 c (upd (S.2 c) i v))
def stT (S : CS) (k j i : Nat) (v : Int32) : CS := (va_up S.1 k (va_up (S.1 k) j (upd (S.1 k j) i v)), S.2)
def hm (G : GP) (n : Nat) : Option Nat := match n with
  | 0 => none
  | n + 1 => some (tA G n 0)
def hc (x : Int32) : Nat := x.toNatClampNeg
def mods (G : GP) : Nat → Option Nat := va_up (va_up (va_up (fun _ => none) 0 (some (tA G 0 0))) 1 (some (tA G 1 0))) 2 (some (tA G 2 0))
def bl (x : Int32) : Prop := x = 0 ∨ x = 1
theorem bl_nar {v : Int32} (h : bl v) : narrow .boolean (.int v) = .int v := by rcases h with rfl | rfl <;> rfl
theorem bl_fit {v : Int32} (h : bl v) : fits .boolean (.int v) = true := by rcases h with rfl | rfl <;> rfl
abbrev fR0 (G : GP) (S : CS) : List Value := [.ref (aA G 1), .ref (aA G 2), .ref (aA G 4), .ref (aA G 7), .ref (aA G 9), .int (S.2 0 5)]
abbrev fR2 (G : GP) (S : CS) : List Value := [.ref (aA G 3), .int (S.2 2 1), .int (S.2 2 2), .int (S.2 2 3), .int (S.2 2 4), .int (S.2 2 5), .int (S.2 2 6), .int (S.2 2 7)]
abbrev fR4 (G : GP) (S : CS) : List Value := [.ref (aA G 5), .ref (aA G 6), .int (S.2 4 2)]
abbrev fR7 (G : GP) (S : CS) : List Value := [.ref (aA G 8), .int (S.2 7 1)]
abbrev fR9 (G : GP) (S : CS) : List Value := [.ref (aA G 10), .ref (aA G 11), .ref (aA G 12), .int (S.2 9 3), .int (S.2 9 4)]
abbrev fT (G : GP) (S : CS) (k : Nat) : List Value := [.ref (tA G k 1), .ref (tA G k 2), .ref (tA G k 3), .ref (tA G k 4), .ref (tA G k 5), .ref (tA G k 6), .int (S.1 k 0 6), .int (S.1 k 0 7), .int (S.1 k 0 8), .int (S.1 k 0 9)]
/-- the cells -/
def wC (G : GP) (S : CS) : va_W := [
  (aA G 0, .inr (0, fR0 G S)),
  (aA G 1, .inl (G.2.2.2, 3, .inr (.inr (.inr (.inr (mods G)))))),
  (aA G 2, .inr (2, fR2 G S)),
  (aA G 3, .inl (G.2.2.1, 6, .inl (S.2 3))),
  (aA G 4, .inr (3, fR4 G S)),
  (aA G 5, .inl (G.2.2.2, 26, .inr (.inr (.inr (.inr (fun j => hm G (hc (S.2 5 j)))))))),
  (aA G 6, .inl (G.2.2.1, 26, .inl (S.2 6))),
  (aA G 7, .inr (4, fR7 G S)),
  (aA G 8, .inl (G.2.2.1, 8, .inl (S.2 8))),
  (aA G 9, .inr (5, fR9 G S)),
  (aA G 10, .inl (G.2.2.1, 26, .inl (S.2 10))),
  (aA G 11, .inl (G.2.2.1, 26, .inl (S.2 11))),
  (aA G 12, .inl (G.2.2.1, 24, .inl (S.2 12))),
  (tA G 0 0, .inr (1, fT G S 0)),
  (tA G 0 1, .inl (G.2.2.1, 60, .inl (S.1 0 1))),
  (tA G 0 2, .inl (G.2.2.1, 60, .inl (S.1 0 2))),
  (tA G 0 3, .inl (G.2.2.1, 60, .inl (S.1 0 3))),
  (tA G 0 4, .inl (G.2.2.1, 60, .inl (S.1 0 4))),
  (tA G 0 5, .inl (G.2.2.1, 26, .inl (S.1 0 5))),
  (tA G 0 6, .inl (G.2.2.1, 26, .inl (S.1 0 6))),
  (tA G 1 0, .inr (1, fT G S 1)),
  (tA G 1 1, .inl (G.2.2.1, 60, .inl (S.1 1 1))),
  (tA G 1 2, .inl (G.2.2.1, 60, .inl (S.1 1 2))),
  (tA G 1 3, .inl (G.2.2.1, 60, .inl (S.1 1 3))),
  (tA G 1 4, .inl (G.2.2.1, 60, .inl (S.1 1 4))),
  (tA G 1 5, .inl (G.2.2.1, 26, .inl (S.1 1 5))),
  (tA G 1 6, .inl (G.2.2.1, 26, .inl (S.1 1 6))),
  (tA G 2 0, .inr (1, fT G S 2)),
  (tA G 2 1, .inl (G.2.2.1, 60, .inl (S.1 2 1))),
  (tA G 2 2, .inl (G.2.2.1, 60, .inl (S.1 2 2))),
  (tA G 2 3, .inl (G.2.2.1, 60, .inl (S.1 2 3))),
  (tA G 2 4, .inl (G.2.2.1, 60, .inl (S.1 2 4))),
  (tA G 2 5, .inl (G.2.2.1, 26, .inl (S.1 2 5))),
  (tA G 2 6, .inl (G.2.2.1, 26, .inl (S.1 2 6)))]
def tyC (G : GP) : List (ClassId × FieldType) := [(G.2.2.1, .int), (G.2.2.2, .object "GateStack$ModuleText")]
theorem w_0 (G : GP) (S : CS) : (wC G S)[0]? = some (aA G 0, .inr (0, fR0 G S)) := rfl
theorem w_1 (G : GP) (S : CS) : (wC G S)[1]? = some (aA G 1, .inl (G.2.2.2, 3, .inr (.inr (.inr (.inr (mods G)))))) := rfl
theorem w_2 (G : GP) (S : CS) : (wC G S)[2]? = some (aA G 2, .inr (2, fR2 G S)) := rfl
theorem w_3 (G : GP) (S : CS) : (wC G S)[3]? = some (aA G 3, .inl (G.2.2.1, 6, .inl (S.2 3))) := rfl
theorem w_4 (G : GP) (S : CS) : (wC G S)[4]? = some (aA G 4, .inr (3, fR4 G S)) := rfl
theorem w_5 (G : GP) (S : CS) : (wC G S)[5]? = some (aA G 5, .inl (G.2.2.2, 26, .inr (.inr (.inr (.inr (fun j => hm G (hc (S.2 5 j)))))))) := rfl
theorem w_6 (G : GP) (S : CS) : (wC G S)[6]? = some (aA G 6, .inl (G.2.2.1, 26, .inl (S.2 6))) := rfl
theorem w_7 (G : GP) (S : CS) : (wC G S)[7]? = some (aA G 7, .inr (4, fR7 G S)) := rfl
theorem w_8 (G : GP) (S : CS) : (wC G S)[8]? = some (aA G 8, .inl (G.2.2.1, 8, .inl (S.2 8))) := rfl
theorem w_9 (G : GP) (S : CS) : (wC G S)[9]? = some (aA G 9, .inr (5, fR9 G S)) := rfl
theorem w_10 (G : GP) (S : CS) : (wC G S)[10]? = some (aA G 10, .inl (G.2.2.1, 26, .inl (S.2 10))) := rfl
theorem w_11 (G : GP) (S : CS) : (wC G S)[11]? = some (aA G 11, .inl (G.2.2.1, 26, .inl (S.2 11))) := rfl
theorem w_12 (G : GP) (S : CS) : (wC G S)[12]? = some (aA G 12, .inl (G.2.2.1, 24, .inl (S.2 12))) := rfl
theorem wt_0 (G : GP) (S : CS) {k : Nat} (hk : k < 3) : (wC G S)[13 + 7 * k]? = some (tA G k 0, .inr (1, fT G S k)) := by
  match k, hk with
  | 0, _ => rfl
  | 1, _ => rfl
  | 2, _ => rfl
theorem wt_1 (G : GP) (S : CS) {k : Nat} (hk : k < 3) : (wC G S)[13 + 7 * k + 1]? = some (tA G k 1, .inl (G.2.2.1, 60, .inl (S.1 k 1))) := by
  match k, hk with
  | 0, _ => rfl
  | 1, _ => rfl
  | 2, _ => rfl
theorem wt_2 (G : GP) (S : CS) {k : Nat} (hk : k < 3) : (wC G S)[13 + 7 * k + 2]? = some (tA G k 2, .inl (G.2.2.1, 60, .inl (S.1 k 2))) := by
  match k, hk with
  | 0, _ => rfl
  | 1, _ => rfl
  | 2, _ => rfl
theorem wt_3 (G : GP) (S : CS) {k : Nat} (hk : k < 3) : (wC G S)[13 + 7 * k + 3]? = some (tA G k 3, .inl (G.2.2.1, 60, .inl (S.1 k 3))) := by
  match k, hk with
  | 0, _ => rfl
  | 1, _ => rfl
  | 2, _ => rfl
theorem wt_4 (G : GP) (S : CS) {k : Nat} (hk : k < 3) : (wC G S)[13 + 7 * k + 4]? = some (tA G k 4, .inl (G.2.2.1, 60, .inl (S.1 k 4))) := by
  match k, hk with
  | 0, _ => rfl
  | 1, _ => rfl
  | 2, _ => rfl
theorem wt_5 (G : GP) (S : CS) {k : Nat} (hk : k < 3) : (wC G S)[13 + 7 * k + 5]? = some (tA G k 5, .inl (G.2.2.1, 26, .inl (S.1 k 5))) := by
  match k, hk with
  | 0, _ => rfl
  | 1, _ => rfl
  | 2, _ => rfl
theorem wt_6 (G : GP) (S : CS) {k : Nat} (hk : k < 3) : (wC G S)[13 + 7 * k + 6]? = some (tA G k 6, .inl (G.2.2.1, 26, .inl (S.1 k 6))) := by
  match k, hk with
  | 0, _ => rfl
  | 1, _ => rfl
  | 2, _ => rfl
theorem wst_0_5 (G : GP) (S : CS) (v : Int32) : (wC G S).set 0 (aA G 0, .inr (0, (fR0 G S).set 5 (.int v))) = wC G (stR S 0 5 v) := rfl
theorem wst_2_1 (G : GP) (S : CS) (v : Int32) : (wC G S).set 2 (aA G 2, .inr (2, (fR2 G S).set 1 (.int v))) = wC G (stR S 2 1 v) := rfl
theorem wst_2_2 (G : GP) (S : CS) (v : Int32) : (wC G S).set 2 (aA G 2, .inr (2, (fR2 G S).set 2 (.int v))) = wC G (stR S 2 2 v) := rfl
theorem wst_2_3 (G : GP) (S : CS) (v : Int32) : (wC G S).set 2 (aA G 2, .inr (2, (fR2 G S).set 3 (.int v))) = wC G (stR S 2 3 v) := rfl
theorem wst_2_4 (G : GP) (S : CS) (v : Int32) : (wC G S).set 2 (aA G 2, .inr (2, (fR2 G S).set 4 (.int v))) = wC G (stR S 2 4 v) := rfl
theorem wst_2_5 (G : GP) (S : CS) (v : Int32) : (wC G S).set 2 (aA G 2, .inr (2, (fR2 G S).set 5 (.int v))) = wC G (stR S 2 5 v) := rfl
theorem wst_2_6 (G : GP) (S : CS) (v : Int32) : (wC G S).set 2 (aA G 2, .inr (2, (fR2 G S).set 6 (.int v))) = wC G (stR S 2 6 v) := rfl
theorem wst_2_7 (G : GP) (S : CS) (v : Int32) : (wC G S).set 2 (aA G 2, .inr (2, (fR2 G S).set 7 (.int v))) = wC G (stR S 2 7 v) := rfl
theorem wst_4_2 (G : GP) (S : CS) (v : Int32) : (wC G S).set 4 (aA G 4, .inr (3, (fR4 G S).set 2 (.int v))) = wC G (stR S 4 2 v) := rfl
theorem wst_7_1 (G : GP) (S : CS) (v : Int32) : (wC G S).set 7 (aA G 7, .inr (4, (fR7 G S).set 1 (.int v))) = wC G (stR S 7 1 v) := rfl
theorem wst_9_3 (G : GP) (S : CS) (v : Int32) : (wC G S).set 9 (aA G 9, .inr (5, (fR9 G S).set 3 (.int v))) = wC G (stR S 9 3 v) := rfl
theorem wst_9_4 (G : GP) (S : CS) (v : Int32) : (wC G S).set 9 (aA G 9, .inr (5, (fR9 G S).set 4 (.int v))) = wC G (stR S 9 4 v) := rfl
theorem wsta_3 (G : GP) (S : CS) (i : Nat) (v : Int32) : (wC G S).set 3 (aA G 3, .inl (G.2.2.1, 6, .inl (upd (S.2 3) i v))) = wC G (stR S 3 i v) := rfl
theorem wsta_6 (G : GP) (S : CS) (i : Nat) (v : Int32) : (wC G S).set 6 (aA G 6, .inl (G.2.2.1, 26, .inl (upd (S.2 6) i v))) = wC G (stR S 6 i v) := rfl
theorem wsta_8 (G : GP) (S : CS) (i : Nat) (v : Int32) : (wC G S).set 8 (aA G 8, .inl (G.2.2.1, 8, .inl (upd (S.2 8) i v))) = wC G (stR S 8 i v) := rfl
theorem wsta_10 (G : GP) (S : CS) (i : Nat) (v : Int32) : (wC G S).set 10 (aA G 10, .inl (G.2.2.1, 26, .inl (upd (S.2 10) i v))) = wC G (stR S 10 i v) := rfl
theorem wsta_11 (G : GP) (S : CS) (i : Nat) (v : Int32) : (wC G S).set 11 (aA G 11, .inl (G.2.2.1, 26, .inl (upd (S.2 11) i v))) = wC G (stR S 11 i v) := rfl
theorem wsta_12 (G : GP) (S : CS) (i : Nat) (v : Int32) : (wC G S).set 12 (aA G 12, .inl (G.2.2.1, 24, .inl (upd (S.2 12) i v))) = wC G (stR S 12 i v) := rfl
theorem hm_up (G : GP) (S : CS) (i n : Nat) (v : Int32) (hv : hc v = n) : va_up (fun j => hm G (hc (S.2 5 j))) i (hm G n) = (fun j => hm G (hc (upd (S.2 5) i v j))) := by
  funext j
  by_cases h : j = i
  · subst h; simp [va_up, upd, hv]
  · simp [va_up, upd, h]
theorem wst_5N (G : GP) (S : CS) (i : Nat) : (wC G S).set 5 (aA G 5, .inl (G.2.2.2, 26, .inr (.inr (.inr (.inr (va_up (fun j => hm G (hc (S.2 5 j))) i none)))))) = wC G (stR S 5 i 0) := by
  have h := hm_up G S i 0 0 rfl
  have h : va_up (fun j => hm G (hc (S.2 5 j))) i none = (fun j => hm G (hc (upd (S.2 5) i 0 j))) := h
  rw [h]
  rfl
theorem wst_5Q (G : GP) (S : CS) (i : Nat) {k : Nat} (hk : k < 3) : (wC G S).set 5 (aA G 5, .inl (G.2.2.2, 26, .inr (.inr (.inr (.inr (va_up (fun j => hm G (hc (S.2 5 j))) i (some (tA G k 0)))))))) = wC G (stR S 5 i (nI (k + 1))) := by
  have h := hm_up G S i (k + 1) (nI (k + 1)) (nI_clamp (by omega))
  have h : va_up (fun j => hm G (hc (S.2 5 j))) i (some (tA G k 0)) = (fun j => hm G (hc (upd (S.2 5) i (nI (k + 1)) j))) := h
  rw [h]
  rfl
theorem wstt_6 (G : GP) (S : CS) (v : Int32) {k : Nat} (hk : k < 3) : (wC G S).set (13 + 7 * k) (tA G k 0, .inr (1, (fT G S k).set 6 (.int v))) = wC G (stT S k 0 6 v) := by
  match k, hk with
  | 0, _ => rfl
  | 1, _ => rfl
  | 2, _ => rfl
theorem wstt_7 (G : GP) (S : CS) (v : Int32) {k : Nat} (hk : k < 3) : (wC G S).set (13 + 7 * k) (tA G k 0, .inr (1, (fT G S k).set 7 (.int v))) = wC G (stT S k 0 7 v) := by
  match k, hk with
  | 0, _ => rfl
  | 1, _ => rfl
  | 2, _ => rfl
theorem wstt_8 (G : GP) (S : CS) (v : Int32) {k : Nat} (hk : k < 3) : (wC G S).set (13 + 7 * k) (tA G k 0, .inr (1, (fT G S k).set 8 (.int v))) = wC G (stT S k 0 8 v) := by
  match k, hk with
  | 0, _ => rfl
  | 1, _ => rfl
  | 2, _ => rfl
theorem wstt_9 (G : GP) (S : CS) (v : Int32) {k : Nat} (hk : k < 3) : (wC G S).set (13 + 7 * k) (tA G k 0, .inr (1, (fT G S k).set 9 (.int v))) = wC G (stT S k 0 9 v) := by
  match k, hk with
  | 0, _ => rfl
  | 1, _ => rfl
  | 2, _ => rfl
theorem wstt_a1 (G : GP) (S : CS) (i : Nat) (v : Int32) {k : Nat} (hk : k < 3) : (wC G S).set (13 + 7 * k + 1) (tA G k 1, .inl (G.2.2.1, 60, .inl (upd (S.1 k 1) i v))) = wC G (stT S k 1 i v) := by
  match k, hk with
  | 0, _ => rfl
  | 1, _ => rfl
  | 2, _ => rfl
theorem wstt_a2 (G : GP) (S : CS) (i : Nat) (v : Int32) {k : Nat} (hk : k < 3) : (wC G S).set (13 + 7 * k + 2) (tA G k 2, .inl (G.2.2.1, 60, .inl (upd (S.1 k 2) i v))) = wC G (stT S k 2 i v) := by
  match k, hk with
  | 0, _ => rfl
  | 1, _ => rfl
  | 2, _ => rfl
theorem wstt_a3 (G : GP) (S : CS) (i : Nat) (v : Int32) {k : Nat} (hk : k < 3) : (wC G S).set (13 + 7 * k + 3) (tA G k 3, .inl (G.2.2.1, 60, .inl (upd (S.1 k 3) i v))) = wC G (stT S k 3 i v) := by
  match k, hk with
  | 0, _ => rfl
  | 1, _ => rfl
  | 2, _ => rfl
theorem wstt_a4 (G : GP) (S : CS) (i : Nat) (v : Int32) {k : Nat} (hk : k < 3) : (wC G S).set (13 + 7 * k + 4) (tA G k 4, .inl (G.2.2.1, 60, .inl (upd (S.1 k 4) i v))) = wC G (stT S k 4 i v) := by
  match k, hk with
  | 0, _ => rfl
  | 1, _ => rfl
  | 2, _ => rfl
theorem wstt_a5 (G : GP) (S : CS) (i : Nat) (v : Int32) {k : Nat} (hk : k < 3) : (wC G S).set (13 + 7 * k + 5) (tA G k 5, .inl (G.2.2.1, 26, .inl (upd (S.1 k 5) i v))) = wC G (stT S k 5 i v) := by
  match k, hk with
  | 0, _ => rfl
  | 1, _ => rfl
  | 2, _ => rfl
theorem wstt_a6 (G : GP) (S : CS) (i : Nat) (v : Int32) {k : Nat} (hk : k < 3) : (wC G S).set (13 + 7 * k + 6) (tA G k 6, .inl (G.2.2.1, 26, .inl (upd (S.1 k 6) i v))) = wC G (stT S k 6 i v) := by
  match k, hk with
  | 0, _ => rfl
  | 1, _ => rfl
  | 2, _ => rfl
theorem mods_at (G : GP) {k : Nat} (hk : k < 3) : mods G k = some (tA G k 0) := by
  match k, hk with
  | 0, _ => rfl
  | 1, _ => rfl
  | 2, _ => rfl
theorem stT_o {S : CS} {k j i k' j' : Nat} {v : Int32} (h : j' ≠ j) : (stT S k j i v).1 k' j' = S.1 k' j' := by
  unfold stT va_up
  by_cases hk : k' = k
  · subst hk; simp [h]
  · simp [hk]
theorem stT_k {S : CS} {k j i k' : Nat} {v : Int32} (h : k' ≠ k) : (stT S k j i v).1 k' = S.1 k' := by
  unfold stT va_up
  simp [h]
theorem stT_s {S : CS} {k j i : Nat} {v : Int32} : (stT S k j i v).1 k j = upd (S.1 k j) i v := by
  unfold stT va_up
  simp
theorem stR_o {S : CS} {c i c' : Nat} {v : Int32} (h : c' ≠ c) : (stR S c i v).2 c' = S.2 c' := by
  unfold stR va_up
  simp [h]
theorem stR_s {S : CS} {c i : Nat} {v : Int32} : (stR S c i v).2 c = upd (S.2 c) i v := by
  unfold stR va_up
  simp
theorem upd_o {f : Nat → Int32} {i j : Nat} {v : Int32} (h : j ≠ i) : upd f i v j = f j := by simp [upd, h]
theorem upd_s {f : Nat → Int32} {i : Nat} {v : Int32} : upd f i v i = v := by simp [upd]
/-- what always holds of the state -/
def IC (N : Nat) (S : CS) : Prop := (∀ k, k < 3 → 0 ≤ (S.1 k 0 6).toInt ∧ (S.1 k 0 6).toInt ≤ 60 ∧ bl (S.1 k 0 8) ∧ bl (S.1 k 0 9)) ∧ (0 ≤ (S.2 2 1).toInt ∧ (S.2 2 1).toInt ≤ 6) ∧ (∀ j, hc (S.2 5 j) ≤ 3) ∧ (0 ≤ (S.2 9 3).toInt ∧ (S.2 9 3).toInt ≤ 26) ∧ (0 ≤ (S.2 9 4).toInt ∧ (S.2 9 4).toInt ≤ (N : Int))
theorem IC_mono {N M : Nat} {S : CS} (h : IC N S) (hM : N ≤ M) : IC M S := ⟨h.1, h.2.1, h.2.2.1, h.2.2.2.1, h.2.2.2.2.1, Int.le_trans h.2.2.2.2.2 (by omega)⟩
def okc (c i : Nat) : Bool := !(c == 5) && !(c == 2 && i == 1) && !(c == 9 && (i == 3 || i == 4))
theorem IC_R {N : Nat} {S : CS} (h : IC N S) (c i : Nat) (v : Int32) (hc : okc c i = true) : IC N (stR S c i v) := by
  have h5 : (5 : Nat) ≠ c := by intro q; subst q; simp [okc] at hc
  have h2 : (stR S c i v).2 2 1 = S.2 2 1 := by
    by_cases q : 2 = c
    · subst q; rw [stR_s, upd_o]; intro q; subst q; simp [okc] at hc
    · rw [stR_o q]
  have h3 : (stR S c i v).2 9 3 = S.2 9 3 := by
    by_cases q : 9 = c
    · subst q; rw [stR_s, upd_o]; intro q; subst q; simp [okc] at hc
    · rw [stR_o q]
  have h4 : (stR S c i v).2 9 4 = S.2 9 4 := by
    by_cases q : 9 = c
    · subst q; rw [stR_s, upd_o]; intro q; subst q; simp [okc] at hc
    · rw [stR_o q]
  refine ⟨h.1, ?_, ?_, ?_, ?_⟩
  · rw [h2]; exact h.2.1
  · rw [stR_o h5]; exact h.2.2.1
  · rw [h3]; exact h.2.2.2.1
  · rw [h4]; exact h.2.2.2.2
def oka (c : Nat) : Bool := !(c == 5) && !(c == 2) && !(c == 9)
theorem IC_A {N : Nat} {S : CS} (h : IC N S) (c i : Nat) (v : Int32) (hc : oka c = true) : IC N (stR S c i v) := by
  refine IC_R h c i v ?_
  simp only [oka, okc, Bool.and_eq_true, Bool.not_eq_true', beq_eq_false_iff_ne] at hc ⊢
  simp [hc.1.1, hc.1.2, hc.2]
theorem IC_rd {N : Nat} {S : CS} (h : IC N S) (v : Int32) (h0 : 0 ≤ v.toInt) (h6 : v.toInt ≤ 6) : IC N (stR S 2 1 v) := ⟨h.1, ⟨h0, h6⟩, h.2.2.1, h.2.2.2.1, h.2.2.2.2⟩
theorem IC_rd0 {N : Nat} {S : CS} (h : IC N S) : IC N (stR S 2 1 0) := IC_rd h 0 (by decide) (by decide)
theorem IC_md {N : Nat} {S : CS} (h : IC N S) (v : Int32) (h0 : 0 ≤ v.toInt) (h6 : v.toInt ≤ 26) : IC N (stR S 9 3 v) := ⟨h.1, h.2.1, h.2.2.1, ⟨h0, h6⟩, h.2.2.2.2⟩
theorem IC_md0 {N : Nat} {S : CS} (h : IC N S) : IC N (stR S 9 3 0) := IC_md h 0 (by decide) (by decide)
theorem IC_mo {N M : Nat} {S : CS} (h : IC N S) (v : Int32) (h0 : 0 ≤ v.toInt) (h6 : v.toInt ≤ (M : Int)) : IC M (stR S 9 4 v) := ⟨h.1, h.2.1, h.2.2.1, h.2.2.2.1, ⟨h0, h6⟩⟩
theorem IC_mo0 {N : Nat} {S : CS} (h : IC N S) : IC N (stR S 9 4 0) := IC_mo h 0 (by decide) (by rw [show (0 : Int32).toInt = 0 from rfl]; omega)
theorem IC_h0 {N : Nat} {S : CS} (h : IC N S) (i : Nat) : IC N (stR S 5 i 0) := by
  refine ⟨h.1, h.2.1, fun j => ?_, h.2.2.2.1, h.2.2.2.2⟩
  rw [stR_s]
  by_cases q : j = i
  · subst q; rw [upd_s]; decide
  · rw [upd_o q]; exact h.2.2.1 j
theorem IC_hq {N : Nat} {S : CS} (h : IC N S) (i : Nat) {k : Nat} (hk : k < 3) : IC N (stR S 5 i (nI (k + 1))) := by
  refine ⟨h.1, h.2.1, fun j => ?_, h.2.2.2.1, h.2.2.2.2⟩
  rw [stR_s]
  by_cases q : j = i
  · subst q; rw [upd_s]; unfold hc; rw [nI_clamp (by omega)]; omega
  · rw [upd_o q]; exact h.2.2.1 j
theorem IC_T {N : Nat} {S : CS} (h : IC N S) (k j i : Nat) (v : Int32) (hj : 0 ≠ j) : IC N (stT S k j i v) := by
  refine ⟨fun q hq => ?_, h.2⟩
  rw [stT_o hj]
  exact h.1 q hq
theorem IC_t0 {N : Nat} {S : CS} (h : IC N S) (k i : Nat) (v : Int32) (h6 : 6 = i → 0 ≤ v.toInt ∧ v.toInt ≤ 60) (h8 : 8 = i → bl v) (h9 : 9 = i → bl v) : IC N (stT S k 0 i v) := by
  refine ⟨fun q hq => ?_, h.2⟩
  by_cases hk : q = k
  · subst hk
    rw [stT_s]
    obtain ⟨a1, a2, a3, a4⟩ := h.1 q hq
    refine ⟨?_, ?_, ?_, ?_⟩
    · by_cases e : 6 = i
      · rw [← e, upd_s]; exact (h6 e).1
      · rw [upd_o e]; exact a1
    · by_cases e : 6 = i
      · rw [← e, upd_s]; exact (h6 e).2
      · rw [upd_o e]; exact a2
    · by_cases e : 8 = i
      · rw [← e, upd_s]; exact h8 e
      · rw [upd_o e]; exact a3
    · by_cases e : 9 = i
      · rw [← e, upd_s]; exact h9 e
      · rw [upd_o e]; exact a4
  · rw [stT_k hk]
    exact h.1 q hq
theorem IC_T7 {N : Nat} {S : CS} (h : IC N S) (k : Nat) (v : Int32) : IC N (stT S k 0 7 v) := IC_t0 h k 7 v (fun q => absurd q (by decide)) (fun q => absurd q (by decide)) (fun q => absurd q (by decide))
theorem IC_tl {N : Nat} {S : CS} (h : IC N S) (k : Nat) (v : Int32) (h0 : 0 ≤ v.toInt) (h6 : v.toInt ≤ 60) : IC N (stT S k 0 6 v) := IC_t0 h k 6 v (fun _ => ⟨h0, h6⟩) (fun q => absurd q (by decide)) (fun q => absurd q (by decide))
theorem IC_tl0 {N : Nat} {S : CS} (h : IC N S) (k : Nat) : IC N (stT S k 0 6 0) := IC_tl h k 0 (by decide) (by decide)
theorem IC_tb {N : Nat} {S : CS} (h : IC N S) (k i : Nat) (hi : i = 8 ∨ i = 9) (v : Int32) (hb : bl v) : IC N (stT S k 0 i v) := IC_t0 h k i v (fun q => by omega) (fun _ => hb) (fun _ => hb)
-- numbers
theorem i_nle {c x : Int32} (n : Int) (hc : c.toInt = n) (h : ¬ c ≤ x) : x.toInt < n := by
  rw [Int32.le_iff_toInt_le, hc] at h; omega
theorem i_nlt {c x : Int32} (n : Int) (hc : c.toInt = n) (h : ¬ x < c) : n ≤ x.toInt := by
  rw [Int32.lt_iff_toInt_lt, hc] at h; omega
theorem i_lt {c x : Int32} (n : Int) (hc : c.toInt = n) (h : x < c) : x.toInt < n := by
  rw [Int32.lt_iff_toInt_lt, hc] at h; omega
theorem i_le {c x : Int32} (n : Int) (hc : c.toInt = n) (h : c ≤ x) : n ≤ x.toInt := by
  rw [Int32.le_iff_toInt_le, hc] at h; omega
theorem i_nle0 {x : Int32} (h : ¬ x ≤ 0) : 0 < x.toInt := by
  rw [Int32.le_iff_toInt_le, Int32.toInt_zero] at h; omega
theorem i_bm {x : Int} (h0 : -2147483648 ≤ x) (h1 : x < 2147483648) : x.bmod (2 ^ 32) = x := Int.bmod_eq_of_le (by omega) (by omega)
theorem i_sub {x c : Int32} (n : Int) (hc : c.toInt = n) (h0 : -2147483648 ≤ x.toInt - n) (h1 : x.toInt - n < 2147483648) : (x - c).toInt = x.toInt - n := by
  rw [Int32.toInt_sub, hc]; exact i_bm h0 h1
theorem i_add {x c : Int32} (n : Int) (hc : c.toInt = n) (h0 : -2147483648 ≤ x.toInt + n) (h1 : x.toInt + n < 2147483648) : (x + c).toInt = x.toInt + n := by
  rw [Int32.toInt_add, hc]; exact i_bm h0 h1
theorem vin {x : Int32} {n : Nat} (h0 : 0 ≤ x.toInt) (h1 : x.toInt < (n : Int)) : vp_in x n := vp_in_iff.mpr ⟨h0, h1⟩
-- rows of the machine over the cells
theorem md_m {N : Nat} {S : CS} (h : IC N S) (hp : 0 < (S.2 9 3).toInt) : 0 ≤ (S.2 9 3 - 1).toInt ∧ (S.2 9 3 - 1).toInt ≤ 26 := by
  have q := h.2.2.2.1
  rw [i_sub 1 rfl (by omega) (by omega)]; omega
theorem dm_in {N : Nat} {S : CS} (h : IC N S) (hp : 0 < (S.2 9 3).toInt) : vp_in (S.2 9 3 - 1) 26 := by
  have q := h.2.2.2.1
  refine vin ?_ ?_ <;> rw [i_sub 1 rfl (by omega) (by omega)] <;> omega
theorem dp_in {N : Nat} {S : CS} (h : IC N S) (hp : (S.2 9 3).toInt < 26) : vp_in (S.2 9 3) 26 := vin h.2.2.2.1.1 hp
theorem md_p {N : Nat} {S : CS} (h : IC N S) (hp : (S.2 9 3).toInt < 26) : 0 ≤ (S.2 9 3 + 1).toInt ∧ (S.2 9 3 + 1).toInt ≤ 26 := by
  have q := h.2.2.2.1
  rw [i_add 1 rfl (by omega) (by omega)]; omega
theorem mo_p {N : Nat} {S : CS} (h : IC N S) (hN : N < 1000000) : 0 ≤ (S.2 9 4 + 1).toInt ∧ (S.2 9 4 + 1).toInt ≤ ((N + 1 : Nat) : Int) := by
  have q := h.2.2.2.2
  rw [i_add 1 rfl (by omega) (by omega)]; omega
theorem ko_in {N : Nat} {S : CS} (h : IC N S) (hp : (S.2 9 4).toInt < 24) : vp_in (S.2 9 4) 24 := vin h.2.2.2.2.1 hp
theorem rm_in {N : Nat} {S : CS} (h : IC N S) (hp : 0 < (S.2 2 1).toInt) : vp_in (S.2 2 1 - 1) 6 := by
  have q := h.2.1
  refine vin ?_ ?_ <;> rw [i_sub 1 rfl (by omega) (by omega)] <;> omega
theorem rd_m {N : Nat} {S : CS} (h : IC N S) (hp : 0 < (S.2 2 1).toInt) : 0 ≤ (S.2 2 1 - 1).toInt ∧ (S.2 2 1 - 1).toInt < 6 := by
  have q := h.2.1
  rw [i_sub 1 rfl (by omega) (by omega)]; omega
theorem rd_lt {N : Nat} {S : CS} {n : Nat} (h : IC N S) (hp : 0 < (S.2 2 1).toInt) (hn : (S.2 2 1).toInt < ((n + 1 : Nat) : Int)) : (S.2 2 1 - 1).toInt < (n : Int) := by
  have q := h.2.1
  rw [i_sub 1 rfl (by omega) (by omega)]; omega
theorem rp_in {N : Nat} {S : CS} (h : IC N S) (hp : (S.2 2 1).toInt < 6) : vp_in (S.2 2 1) 6 := vin h.2.1.1 hp
theorem rd_p {N : Nat} {S : CS} (h : IC N S) (hp : (S.2 2 1).toInt < 6) : 0 ≤ (S.2 2 1 + 1).toInt ∧ (S.2 2 1 + 1).toInt ≤ 6 := by
  have q := h.2.1
  rw [i_add 1 rfl (by omega) (by omega)]; omega
theorem ln_in {N : Nat} {S : CS} (h : IC N S) {k : Nat} (hk : k < 3) (hp : (S.1 k 0 6).toInt < 60) : vp_in (S.1 k 0 6) 60 := vin (h.1 k hk).1 hp
theorem ln_p {N : Nat} {S : CS} (h : IC N S) {k : Nat} (hk : k < 3) (hp : (S.1 k 0 6).toInt < 60) : 0 ≤ (S.1 k 0 6 + 1).toInt ∧ (S.1 k 0 6 + 1).toInt ≤ 60 := by
  have q := h.1 k hk
  rw [i_add 1 rfl (by omega) (by omega)]; omega
theorem ln_nat {N : Nat} {S : CS} (h : IC N S) {k : Nat} (hk : k < 3) : ∃ b : Nat, S.1 k 0 6 = nI b ∧ b ≤ 60 := by
  have q := h.1 k hk
  refine ⟨(S.1 k 0 6).toInt.toNat, ?_, by omega⟩
  apply Int32.toInt_inj.mp
  rw [nI_toInt (by omega)]
  omega
theorem sg_in {N : Nat} {S : CS} (h : IC N S) {k : Nat} (hk : k < 3) {p : Int32} (h1 : ¬ p < 0) (h2 : ¬ S.1 k 0 6 ≤ p) : vp_in p 60 := by
  have q := h.1 k hk
  rw [Int32.lt_iff_toInt_lt, Int32.toInt_zero] at h1
  rw [Int32.le_iff_toInt_le] at h2
  refine vin ?_ ?_ <;> omega
theorem rn_nat {p : Int32} (h1 : ¬ p < 1) (h2 : ¬ 4 < p) : ∃ b : Nat, p = nI b ∧ b ≤ 4 := by
  rw [Int32.lt_iff_toInt_lt, show (1 : Int32).toInt = 1 from rfl] at h1
  rw [Int32.lt_iff_toInt_lt, show (4 : Int32).toInt = 4 from rfl] at h2
  refine ⟨p.toInt.toNat, ?_, by omega⟩
  apply Int32.toInt_inj.mp
  rw [nI_toInt (by omega)]
  omega
end
section
/-- the links to private members of a nest mate -/
def nwM : List (String × Nat × MethodName × String) := [(R_GS, 15, y_MT_init, "GateStack"), (R_GS, 18, y_RD_init, "GateStack"), (R_GS, 25, y_PR_init, "GateStack"), (R_GS, 32, y_CA_init, "GateStack"), (R_GS, 39, y_MA_init, "GateStack"), (R_RD, 72, y_GS_isLetter, "GateStack"), (R_MT, 47, y_GS_isLetterNumber, "GateStack"), (R_MT, 51, y_GS_hasBit, "GateStack"), (R_RD, 100, y_GS_isVariable, "GateStack"), (R_RD, 106, y_GS_isPrefix, "GateStack"), (R_RD, 62, y_GS_isDigit, "GateStack"), (R_RD, 115, y_GS_operationOf, "GateStack"), (R_PR, 55, y_GS_hasBit, "GateStack"), (R_PR, 51, y_GS_isLetterNumber, "GateStack"), (R_MT, 62, y_GS_isLetter, "GateStack"), (R_MA, 53, y_GS_isLetter, "GateStack"), (R_MA, 69, y_GS_isVariable, "GateStack"), (R_CA, 43, y_GS_isDigit, "GateStack"), (R_CA, 50, y_GS_isVariable, "GateStack"), (R_CA, 36, y_GS_operationOf, "GateStack"), (R_CA, 39, y_GS_worked, "GateStack"), (R_CA, 15, y_GS_isVariableNumber, "GateStack")]
def NW (U : State) : Prop := (∀ q ∈ nwM, va_Nw (.methodLinkNest q.1 q.2.1 q.2.2.1 q.2.2.2) U) ∧ va_AO "GateStack$ModuleText" U
theorem NW_warm {s U : State} (hW : s.WarmedH U.vm) (h : NW s) : NW U := ⟨fun q hq => va_Nw.warmM hW (h.1 q hq), va_AO.moved hW.alike h.2⟩
theorem NW_vm {s U : State} (hv : s.vm = U.vm) (h : NW s) : NW U := ⟨fun q hq => va_Nw.same rfl hv (h.1 q hq), va_AO.moved (hv ▸ Vm.Alike.refl s.vm) h.2⟩
def rPre (D : va_G) (G : GP) (S : CS) (U : State) : Prop := va_P D vwCl (wC G S) U.heap ∧ va_K D vwCl (tyC G) U ∧ NW U
def cPre (D : va_G) (G : GP) (S : CS) (sz : Nat) (U : State) : Prop := U.heap.size = sz ∧ va_P D vwCl (wC G S) U.heap ∧ va_K D vwCl (tyC G) U ∧ va_D (fun _ => True) (wC G S) ∧ NW U
def wB (D : va_G) (G : GP) (A : Nat → Prop) (S : CS) (t : State) : Prop := va_P D vwCl (wC G S) t.heap ∧ va_D A (wC G S)
theorem blindP {av : List Value} : FrameBlind (va_Pc av NW) := fun a U g mk q => ⟨q.1, NW_vm (s := U) (U := U.calling g mk a) rfl q.2⟩
theorem blindR {av : List Value} {D : va_G} {G : GP} {S : CS} : FrameBlind (va_Pc av (rPre D G S)) := fun a U g mk q => by
  obtain ⟨q0, qP, qK, qN⟩ := q
  exact ⟨q0, qP, va_K.moved (u := U) (U := U.calling g mk a) (Vm.Alike.refl U.vm) qK, NW_vm (s := U) (U := U.calling g mk a) rfl qN⟩
theorem blindC {av : List Value} {D : va_G} {G : GP} {S : CS} {sz : Nat} : FrameBlind (va_Pc av (cPre D G S sz)) := fun a U g mk q => by
  obtain ⟨q0, q1, qP, qK, qD, qN⟩ := q
  exact ⟨q0, q1, qP, va_K.moved (u := U) (U := U.calling g mk a) (Vm.Alike.refl U.vm) qK, qD, NW_vm (s := U) (U := U.calling g mk a) rfl qN⟩
theorem rPre_of {s U : State} {H : Heap} {D : va_G} {G : GP} {S : CS} (hP : va_P D vwCl (wC G S) H) (hK : va_K D vwCl (tyC G) s) (hN : NW s) (hU : U.heap = H) (hW : s.WarmedH U.vm) : rPre D G S U := ⟨by rw [hU]; exact hP, va_K.moved hW.alike hK, NW_warm hW hN⟩
theorem cPre_of {s U : State} {H : Heap} {D : va_G} {G : GP} {S : CS} {A : Nat → Prop} (hP : va_P D vwCl (wC G S) H) (hK : va_K D vwCl (tyC G) s) (hD : va_D A (wC G S)) (hN : NW s) (hU : U.heap = H) (hW : s.WarmedH U.vm) : cPre D G S H.size U := ⟨by rw [hU], by rw [hU]; exact hP, va_K.moved hW.alike hK, hD.weaken (fun _ _ _ _ => trivial), NW_warm hW hN⟩
theorem freeAll {A0 : Nat → Prop} {ws : va_W} {H0 H : Heap} {locs : List Loc} (hD : va_D A0 ws) (hS : va_S A0 H0 H locs) (hA : ∀ q, H0.size ≤ q → A0 q) : ∀ q, va_A ws H.size q → A0 q := by
  intro q h
  rcases h with ⟨k, e, h⟩ | h
  · exact hD.2 k (q, e) h
  · exact hA q (Nat.le_trans hS.1 h)
section GRW
variable {p : Program} {l : Launch} {e : Env} {R : Room} {s : State} {m : MethodId} {args : Array Value} {below : List Frame} {meth : Method} {c : Code} {H : Heap} {locs : List Loc} {cells slots : Nat} {Q : State → Prop}
variable {cc : ByteArray} {pc : Nat} {ls : Array Slot} {rest st0 : List Value} {D : va_G} {G : GP} {cl : List vw_C} {A : Nat → Prop} {a : Nat} {tys : List (ClassId × FieldType)} {ws wz : va_W} {H0 : Heap} {S : CS} {av : Array Value}
theorem va_putE (hexec : p.tables.exec = Jvm.exec) (hb : c.code = cc) {own ref C : String} {T : u_T} {N ci index : Nat} {Ts : List Cond} (hts : ∀ w ∈ Ts, w.before args s = true) (hin : ∀ w ∈ u_ws C T N, w ∈ Ts) (ty0 : Nat → FieldType) (hty : ∀ k, k < N → parseFieldDescriptor (T k).2.2.1 = some (ty0 k)) (hnm : ∀ a, a < N → ∀ b, b < N → a ≠ b → (T a).2.1 ≠ (T b).2.1) (hown : s.vm.findClass own = some m.cls) (hK : va_K D cl tys s) (hP : va_P D cl ws H) (hD : va_D A ws) (hS0 : va_S A H0 H locs) (q0 : Nat) {fs : List Value} (he : ws[q0]? = some (a, .inr (ci, fs))) (hc : cl[ci]? = some (C, T, N)) (k : Nat) (hk : k < N) (hlink : (Cond.fieldLink own index ref (T k).2.1 (T k).2.2.1).before args s = true) (hsame : ∀ x, s.fieldFound? (T k).1 (T k).2.1 (T k).2.2.1 = some x → s.fieldFound? ref (T k).2.1 (T k).2.2.1 = some x) (hfin : (T k).2.2.2 = false) {ty : FieldType} {v : Value} (hd : parseFieldDescriptor (T k).2.2.1 = some ty) (hn : narrow ty v = v) (hfit : fits ty v = true) (hl : k < fs.length)
    (hw : ws.set q0 (a, .inr (ci, fs.set k v)) = wz) (hdg : decode cc pc = .ok (.putfield index, 3)) (kk : ∀ (H1 : Heap) (locs1 : List Loc), va_P D cl wz H1 → va_D A wz → va_S A H0 H1 locs1 → W p l e R s m args below meth c H1 locs1 cells slots Q (F0 m (pc + 3) ls rest)) : W p l e R s m args below meth c H locs cells slots Q (F0 m pc ls (v :: .ref a :: rest)) := by
  subst hw
  exact va_put hexec hb hts hin ty0 hty hnm hown hK hP hD hS0 q0 he hc k hk hlink hsame hfin hd hn hfit hl hdg kk
theorem va_iastE (hexec : p.tables.exec = Jvm.exec) (hb : c.code = cc) (hK : va_K D cl tys s) (hP : va_P D cl ws H) (hD : va_D A ws) (hS : va_S A H0 H locs) (q0 t0 : Nat) {cA : ClassId} {n : Nat} {f : Nat → Int32} (ha : ws[q0]? = some (a, .inl (cA, n, .inl f))) (ht : tys[t0]? = some (cA, .int)) {i : Int32} {x : Int32} (hin : vp_in i n) (hw : ws.set q0 (a, .inl (cA, n, .inl (upd f i.toNatClampNeg x))) = wz) (hdg : decode cc pc = .ok (.iastore, 1))
    (kk : ∀ (H1 : Heap) (locs1 : List Loc), va_P D cl wz H1 → va_D A wz → va_S A H0 H1 locs1 → W p l e R s m args below meth c H1 locs1 cells slots Q (F0 m (pc + 1) ls rest)) : W p l e R s m args below meth c H locs cells slots Q (F0 m pc ls (.int x :: .int i :: .ref a :: rest)) := by
  subst hw
  exact va_iast hexec hb hK hP hD hS q0 t0 ha ht hin hdg kk
theorem va_astqE (hexec : p.tables.exec = Jvm.exec) (hb : c.code = cc) (hK : va_K D cl tys s) (hP : va_P D cl ws H) (hD : va_D A ws) (hS : va_S A H0 H locs) (q0 t0 qk ci : Nat) {cA : ClassId} {r : vw_C} {n v : Nat} {vs : List Value} {f : Nat → Option Nat} (ha : ws[q0]? = some (a, .inl (cA, n, .inr (.inr (.inr (.inr f)))))) (ht : tys[t0]? = some (cA, .object r.1)) (hv : ws[qk]? = some (v, .inr (ci, vs))) (hc : cl[ci]? = some r) {i : Int32} (hin : vp_in i n) (hw : ws.set q0 (a, .inl (cA, n, .inr (.inr (.inr (.inr (va_up f i.toNatClampNeg (some v))))))) = wz) (hdg : decode cc pc = .ok (.aastore, 1))
    (kk : ∀ (H1 : Heap) (locs1 : List Loc), va_P D cl wz H1 → va_D A wz → va_S A H0 H1 locs1 → W p l e R s m args below meth c H1 locs1 cells slots Q (F0 m (pc + 1) ls rest)) : W p l e R s m args below meth c H locs cells slots Q (F0 m pc ls (.ref v :: .int i :: .ref a :: rest)) := by
  subst hw
  exact va_astq hexec hb hK hP hD hS q0 t0 qk ci ha ht hv hc hin hdg kk
theorem va_astqNE (hexec : p.tables.exec = Jvm.exec) (hb : c.code = cc) (hK : va_K D cl tys s) (hP : va_P D cl ws H) (hD : va_D A ws) (hS : va_S A H0 H locs) (q0 t0 : Nat) {cA : ClassId} {C : String} {n : Nat} {f : Nat → Option Nat} (ha : ws[q0]? = some (a, .inl (cA, n, .inr (.inr (.inr (.inr f)))))) (ht : tys[t0]? = some (cA, .object C)) {i : Int32} (hin : vp_in i n) (hw : ws.set q0 (a, .inl (cA, n, .inr (.inr (.inr (.inr (va_up f i.toNatClampNeg none)))))) = wz) (hdg : decode cc pc = .ok (.aastore, 1))
    (kk : ∀ (H1 : Heap) (locs1 : List Loc), va_P D cl wz H1 → va_D A wz → va_S A H0 H1 locs1 → W p l e R s m args below meth c H1 locs1 cells slots Q (F0 m (pc + 1) ls rest)) : W p l e R s m args below meth c H locs cells slots Q (F0 m pc ls (.null :: .int i :: .ref a :: rest)) := by
  subst hw
  exact va_astqN hexec hb hK hP hD hS q0 t0 ha ht hin hdg kk
/-- one of the three texts out of the row of modules -/
theorem md_ald (hexec : p.tables.exec = Jvm.exec) (hb : c.code = cc) (hK : va_K D vwCl (tyC G) s) (hP : va_P D vwCl (wC G S) H) {i : Int32} (hin : vp_in i 3) (hdg : decode cc pc = .ok (.aaload, 1))
    (kk : W p l e R s m args below meth c H locs cells slots Q (F0 m (pc + 1) ls (.ref (tA G i.toNatClampNeg 0) :: rest))) : W p l e R s m args below meth c H locs cells slots Q (F0 m pc ls (.int i :: .ref (aA G 1) :: rest)) := by
  have hlt : i.toNatClampNeg < 3 := Nat.not_le.mp fun q => hin (Or.inr q)
  refine va_aldq hexec hb hK hP 1 1 (w_1 G S) rfl hin hdg ?_
  rw [mods_at G hlt]
  exact kk
theorem cq_i {post : Int32 → CS → Prop} (hr : va_Run p l e R s m args below meth c H locs cells slots 0 0 (F0 m pc ls st0) rest (va_Qi post (wB D G (va_A (wC G S) H.size)) (va_A (wC G S) H.size) av) (va_A (wC G S) H.size)) (hD : va_D A (wC G S)) (hS : va_S A H0 H locs) (hA : ∀ q, H0.size ≤ q → A q)
    (kk : ∀ (r : Int32) (S1 : CS) (H1 : Heap) (locs1 : List Loc), post r S1 → va_P D vwCl (wC G S1) H1 → va_D A (wC G S1) → va_S A H0 H1 locs1 → W p l e R s m args below meth c H1 locs1 cells slots Q (F0 m (pc + 3) ls (.int r :: rest))) : W p l e R s m args below meth c H locs cells slots Q (F0 m pc ls st0) := by
  have hF : ∀ q, va_A (wC G S) H.size q → A q := freeAll hD hS hA
  refine va_calli hr hS (fun q _ h => hF q h) hF (fun r u t H1 locs1 ht hvm hw hB hz1 hk1 hS => ?_)
  obtain ⟨hP1, hD1⟩ := hB
  rw [ht] at hP1
  exact kk r u H1 locs1 hw hP1 (hD1.weaken (fun _ _ _ h => hF _ h)) hS
theorem cq_v {post : CS → Prop} (hr : va_Run p l e R s m args below meth c H locs cells slots 0 0 (F0 m pc ls st0) rest (va_Qv post (wB D G (va_A (wC G S) H.size)) (va_A (wC G S) H.size) av) (va_A (wC G S) H.size)) (hD : va_D A (wC G S)) (hS : va_S A H0 H locs) (hA : ∀ q, H0.size ≤ q → A q)
    (kk : ∀ (S1 : CS) (H1 : Heap) (locs1 : List Loc), post S1 → va_P D vwCl (wC G S1) H1 → va_D A (wC G S1) → va_S A H0 H1 locs1 → W p l e R s m args below meth c H1 locs1 cells slots Q (F0 m (pc + 3) ls rest)) : W p l e R s m args below meth c H locs cells slots Q (F0 m pc ls st0) := by
  have hF : ∀ q, va_A (wC G S) H.size q → A q := freeAll hD hS hA
  refine va_callv hr hS (fun q _ h => hF q h) hF (fun u t H1 locs1 ht hvm hw hB hz1 hk1 hS => ?_)
  obtain ⟨hP1, hD1⟩ := hB
  rw [ht] at hP1
  exact kk u H1 locs1 hw hP1 (hD1.weaken (fun _ _ _ h => hF _ h)) hS
end GRW
end
section
theorem d_GS_init_0 : decode b_GS_init 0 = .ok (.aload_n 0, 1) := by decide +kernel
theorem d_GS_init_1 : decode b_GS_init 1 = .ok (.invokespecial 1, 3) := by decide +kernel
theorem d_GS_init_4 : decode b_GS_init 4 = .ok (.aload_n 0, 1) := by decide +kernel
theorem d_GS_init_5 : decode b_GS_init 5 = .ok (.iconst 3, 1) := by decide +kernel
theorem d_GS_init_6 : decode b_GS_init 6 = .ok (.anewarray 9, 3) := by decide +kernel
theorem d_GS_init_9 : decode b_GS_init 9 = .ok (.putfield 11, 3) := by decide +kernel
theorem d_GS_init_12 : decode b_GS_init 12 = .ok (.iconst 0, 1) := by decide +kernel
theorem d_GS_init_13 : decode b_GS_init 13 = .ok (.istore_n 1, 1) := by decide +kernel
theorem d_GS_init_14 : decode b_GS_init 14 = .ok (.iload_n 1, 1) := by decide +kernel
theorem d_GS_init_15 : decode b_GS_init 15 = .ok (.iconst 3, 1) := by decide +kernel
theorem d_GS_init_16 : decode b_GS_init 16 = .ok (.if_icmp .ge 22, 3) := by decide +kernel
theorem d_GS_init_19 : decode b_GS_init 19 = .ok (.aload_n 0, 1) := by decide +kernel
theorem d_GS_init_20 : decode b_GS_init 20 = .ok (.getfield 11, 3) := by decide +kernel
theorem d_GS_init_23 : decode b_GS_init 23 = .ok (.iload_n 1, 1) := by decide +kernel
theorem d_GS_init_24 : decode b_GS_init 24 = .ok (.new 9, 3) := by decide +kernel
theorem d_GS_init_27 : decode b_GS_init 27 = .ok (.dup, 1) := by decide +kernel
theorem d_GS_init_28 : decode b_GS_init 28 = .ok (.invokespecial 15, 3) := by decide +kernel
theorem d_GS_init_31 : decode b_GS_init 31 = .ok (.aastore, 1) := by decide +kernel
theorem d_GS_init_32 : decode b_GS_init 32 = .ok (.iinc 1 1, 3) := by decide +kernel
theorem d_GS_init_35 : decode b_GS_init 35 = .ok (.goto (-21), 3) := by decide +kernel
theorem d_GS_init_38 : decode b_GS_init 38 = .ok (.aload_n 0, 1) := by decide +kernel
theorem d_GS_init_39 : decode b_GS_init 39 = .ok (.new 16, 3) := by decide +kernel
theorem d_GS_init_42 : decode b_GS_init 42 = .ok (.dup, 1) := by decide +kernel
theorem d_GS_init_43 : decode b_GS_init 43 = .ok (.invokespecial 18, 3) := by decide +kernel
theorem d_GS_init_46 : decode b_GS_init 46 = .ok (.putfield 19, 3) := by decide +kernel
theorem d_GS_init_49 : decode b_GS_init 49 = .ok (.aload_n 0, 1) := by decide +kernel
theorem d_GS_init_50 : decode b_GS_init 50 = .ok (.new 23, 3) := by decide +kernel
theorem d_GS_init_53 : decode b_GS_init 53 = .ok (.dup, 1) := by decide +kernel
theorem d_GS_init_54 : decode b_GS_init 54 = .ok (.invokespecial 25, 3) := by decide +kernel
theorem d_GS_init_57 : decode b_GS_init 57 = .ok (.putfield 26, 3) := by decide +kernel
theorem d_GS_init_60 : decode b_GS_init 60 = .ok (.aload_n 0, 1) := by decide +kernel
theorem d_GS_init_61 : decode b_GS_init 61 = .ok (.new 30, 3) := by decide +kernel
theorem d_GS_init_64 : decode b_GS_init 64 = .ok (.dup, 1) := by decide +kernel
theorem d_GS_init_65 : decode b_GS_init 65 = .ok (.invokespecial 32, 3) := by decide +kernel
theorem d_GS_init_68 : decode b_GS_init 68 = .ok (.putfield 33, 3) := by decide +kernel
theorem d_GS_init_71 : decode b_GS_init 71 = .ok (.aload_n 0, 1) := by decide +kernel
theorem d_GS_init_72 : decode b_GS_init 72 = .ok (.new 37, 3) := by decide +kernel
theorem d_GS_init_75 : decode b_GS_init 75 = .ok (.dup, 1) := by decide +kernel
theorem d_GS_init_76 : decode b_GS_init 76 = .ok (.invokespecial 39, 3) := by decide +kernel
theorem d_GS_init_79 : decode b_GS_init 79 = .ok (.putfield 40, 3) := by decide +kernel
theorem d_GS_init_82 : decode b_GS_init 82 = .ok (.aload_n 0, 1) := by decide +kernel
theorem d_GS_init_83 : decode b_GS_init 83 = .ok (.iconst 0, 1) := by decide +kernel
theorem d_GS_init_84 : decode b_GS_init 84 = .ok (.putfield 44, 3) := by decide +kernel
theorem d_GS_init_87 : decode b_GS_init 87 = .ok (.return_, 1) := by decide +kernel
theorem d_GS_sign_0 : decode b_GS_sign 0 = .ok (.iload_n 1, 1) := by decide +kernel
theorem d_GS_sign_1 : decode b_GS_sign 1 = .ok (.invokestatic 48, 3) := by decide +kernel
theorem d_GS_sign_4 : decode b_GS_sign 4 = .ok (.ifCond .eq 15, 3) := by decide +kernel
theorem d_GS_sign_7 : decode b_GS_sign 7 = .ok (.iload_n 2, 1) := by decide +kernel
theorem d_GS_sign_8 : decode b_GS_sign 8 = .ok (.bipush 33, 2) := by decide +kernel
theorem d_GS_sign_10 : decode b_GS_sign 10 = .ok (.if_icmp .lt 9, 3) := by decide +kernel
theorem d_GS_sign_13 : decode b_GS_sign 13 = .ok (.iload_n 2, 1) := by decide +kernel
theorem d_GS_sign_14 : decode b_GS_sign 14 = .ok (.bipush 126, 2) := by decide +kernel
theorem d_GS_sign_16 : decode b_GS_sign 16 = .ok (.if_icmp .le 5, 3) := by decide +kernel
theorem d_GS_sign_19 : decode b_GS_sign 19 = .ok (.iconst (-1), 1) := by decide +kernel
theorem d_GS_sign_20 : decode b_GS_sign 20 = .ok (.ireturn, 1) := by decide +kernel
theorem d_GS_sign_21 : decode b_GS_sign 21 = .ok (.aload_n 0, 1) := by decide +kernel
theorem d_GS_sign_22 : decode b_GS_sign 22 = .ok (.getfield 11, 3) := by decide +kernel
theorem d_GS_sign_25 : decode b_GS_sign 25 = .ok (.iload_n 1, 1) := by decide +kernel
theorem d_GS_sign_26 : decode b_GS_sign 26 = .ok (.aaload, 1) := by decide +kernel
theorem d_GS_sign_27 : decode b_GS_sign 27 = .ok (.iload_n 2, 1) := by decide +kernel
theorem d_GS_sign_28 : decode b_GS_sign 28 = .ok (.invokevirtual 52, 3) := by decide +kernel
theorem d_GS_sign_31 : decode b_GS_sign 31 = .ok (.ifCond .ne 5, 3) := by decide +kernel
theorem d_GS_sign_34 : decode b_GS_sign 34 = .ok (.iconst (-1), 1) := by decide +kernel
theorem d_GS_sign_35 : decode b_GS_sign 35 = .ok (.ireturn, 1) := by decide +kernel
theorem d_GS_sign_36 : decode b_GS_sign 36 = .ok (.aload_n 0, 1) := by decide +kernel
theorem d_GS_sign_37 : decode b_GS_sign 37 = .ok (.invokevirtual 55, 3) := by decide +kernel
theorem d_GS_sign_40 : decode b_GS_sign 40 = .ok (.aload_n 0, 1) := by decide +kernel
theorem d_GS_sign_41 : decode b_GS_sign 41 = .ok (.getfield 11, 3) := by decide +kernel
theorem d_GS_sign_44 : decode b_GS_sign 44 = .ok (.iload_n 1, 1) := by decide +kernel
theorem d_GS_sign_45 : decode b_GS_sign 45 = .ok (.aaload, 1) := by decide +kernel
theorem d_GS_sign_46 : decode b_GS_sign 46 = .ok (.invokevirtual 58, 3) := by decide +kernel
theorem d_GS_sign_49 : decode b_GS_sign 49 = .ok (.ireturn, 1) := by decide +kernel
theorem d_GS_clear_0 : decode b_GS_clear 0 = .ok (.iload_n 1, 1) := by decide +kernel
theorem d_GS_clear_1 : decode b_GS_clear 1 = .ok (.invokestatic 48, 3) := by decide +kernel
theorem d_GS_clear_4 : decode b_GS_clear 4 = .ok (.ifCond .ne 5, 3) := by decide +kernel
theorem d_GS_clear_7 : decode b_GS_clear 7 = .ok (.iconst (-1), 1) := by decide +kernel
theorem d_GS_clear_8 : decode b_GS_clear 8 = .ok (.ireturn, 1) := by decide +kernel
theorem d_GS_clear_9 : decode b_GS_clear 9 = .ok (.aload_n 0, 1) := by decide +kernel
theorem d_GS_clear_10 : decode b_GS_clear 10 = .ok (.getfield 11, 3) := by decide +kernel
theorem d_GS_clear_13 : decode b_GS_clear 13 = .ok (.iload_n 1, 1) := by decide +kernel
theorem d_GS_clear_14 : decode b_GS_clear 14 = .ok (.aaload, 1) := by decide +kernel
theorem d_GS_clear_15 : decode b_GS_clear 15 = .ok (.invokevirtual 62, 3) := by decide +kernel
theorem d_GS_clear_18 : decode b_GS_clear 18 = .ok (.aload_n 0, 1) := by decide +kernel
theorem d_GS_clear_19 : decode b_GS_clear 19 = .ok (.invokevirtual 55, 3) := by decide +kernel
theorem d_GS_clear_22 : decode b_GS_clear 22 = .ok (.iconst 0, 1) := by decide +kernel
theorem d_GS_clear_23 : decode b_GS_clear 23 = .ok (.ireturn, 1) := by decide +kernel
theorem d_GS_compile_0 : decode b_GS_compile 0 = .ok (.iload_n 1, 1) := by decide +kernel
theorem d_GS_compile_1 : decode b_GS_compile 1 = .ok (.invokestatic 48, 3) := by decide +kernel
theorem d_GS_compile_4 : decode b_GS_compile 4 = .ok (.ifCond .ne 5, 3) := by decide +kernel
theorem d_GS_compile_7 : decode b_GS_compile 7 = .ok (.iconst (-1), 1) := by decide +kernel
theorem d_GS_compile_8 : decode b_GS_compile 8 = .ok (.ireturn, 1) := by decide +kernel
theorem d_GS_compile_9 : decode b_GS_compile 9 = .ok (.aload_n 0, 1) := by decide +kernel
theorem d_GS_compile_10 : decode b_GS_compile 10 = .ok (.getfield 11, 3) := by decide +kernel
theorem d_GS_compile_13 : decode b_GS_compile 13 = .ok (.iload_n 1, 1) := by decide +kernel
theorem d_GS_compile_14 : decode b_GS_compile 14 = .ok (.aaload, 1) := by decide +kernel
theorem d_GS_compile_15 : decode b_GS_compile 15 = .ok (.astore_n 2, 1) := by decide +kernel
theorem d_GS_compile_16 : decode b_GS_compile 16 = .ok (.aload_n 0, 1) := by decide +kernel
theorem d_GS_compile_17 : decode b_GS_compile 17 = .ok (.getfield 19, 3) := by decide +kernel
theorem d_GS_compile_20 : decode b_GS_compile 20 = .ok (.aload_n 2, 1) := by decide +kernel
theorem d_GS_compile_21 : decode b_GS_compile 21 = .ok (.invokevirtual 65, 3) := by decide +kernel
theorem d_GS_compile_24 : decode b_GS_compile 24 = .ok (.bipush (-2), 2) := by decide +kernel
theorem d_GS_compile_26 : decode b_GS_compile 26 = .ok (.if_icmp .ne 7, 3) := by decide +kernel
theorem d_GS_compile_29 : decode b_GS_compile 29 = .ok (.iconst 1, 1) := by decide +kernel
theorem d_GS_compile_30 : decode b_GS_compile 30 = .ok (.goto 4, 3) := by decide +kernel
theorem d_GS_compile_33 : decode b_GS_compile 33 = .ok (.iconst 0, 1) := by decide +kernel
theorem d_GS_compile_34 : decode b_GS_compile 34 = .ok (.istore_n 3, 1) := by decide +kernel
theorem d_GS_compile_35 : decode b_GS_compile 35 = .ok (.aload_n 2, 1) := by decide +kernel
theorem d_GS_compile_36 : decode b_GS_compile 36 = .ok (.iload_n 3, 1) := by decide +kernel
theorem d_GS_compile_37 : decode b_GS_compile 37 = .ok (.ifCond .eq 14, 3) := by decide +kernel
theorem d_GS_compile_40 : decode b_GS_compile 40 = .ok (.aload_n 2, 1) := by decide +kernel
theorem d_GS_compile_41 : decode b_GS_compile 41 = .ok (.invokevirtual 69, 3) := by decide +kernel
theorem d_GS_compile_44 : decode b_GS_compile 44 = .ok (.ifCond .ne 7, 3) := by decide +kernel
theorem d_GS_compile_47 : decode b_GS_compile 47 = .ok (.iconst 1, 1) := by decide +kernel
theorem d_GS_compile_48 : decode b_GS_compile 48 = .ok (.goto 4, 3) := by decide +kernel
theorem d_GS_compile_51 : decode b_GS_compile 51 = .ok (.iconst 0, 1) := by decide +kernel
theorem d_GS_compile_52 : decode b_GS_compile 52 = .ok (.invokevirtual 73, 3) := by decide +kernel
theorem d_GS_compile_55 : decode b_GS_compile 55 = .ok (.aload_n 0, 1) := by decide +kernel
theorem d_GS_compile_56 : decode b_GS_compile 56 = .ok (.invokevirtual 55, 3) := by decide +kernel
theorem d_GS_compile_59 : decode b_GS_compile 59 = .ok (.iload_n 3, 1) := by decide +kernel
theorem d_GS_compile_60 : decode b_GS_compile 60 = .ok (.ifCond .ne 6, 3) := by decide +kernel
theorem d_GS_compile_63 : decode b_GS_compile 63 = .ok (.bipush (-2), 2) := by decide +kernel
theorem d_GS_compile_65 : decode b_GS_compile 65 = .ok (.ireturn, 1) := by decide +kernel
theorem d_GS_compile_66 : decode b_GS_compile 66 = .ok (.aload_n 2, 1) := by decide +kernel
theorem d_GS_compile_67 : decode b_GS_compile 67 = .ok (.invokevirtual 69, 3) := by decide +kernel
theorem d_GS_compile_70 : decode b_GS_compile 70 = .ok (.ifCond .eq 8, 3) := by decide +kernel
theorem d_GS_compile_73 : decode b_GS_compile 73 = .ok (.bipush (-3), 2) := by decide +kernel
theorem d_GS_compile_75 : decode b_GS_compile 75 = .ok (.goto 10, 3) := by decide +kernel
theorem d_GS_compile_78 : decode b_GS_compile 78 = .ok (.aload_n 2, 1) := by decide +kernel
theorem d_GS_compile_79 : decode b_GS_compile 79 = .ok (.invokevirtual 77, 3) := by decide +kernel
theorem d_GS_compile_82 : decode b_GS_compile 82 = .ok (.invokestatic 80, 3) := by decide +kernel
theorem d_GS_compile_85 : decode b_GS_compile 85 = .ok (.ireturn, 1) := by decide +kernel
theorem d_GS_fault_0 : decode b_GS_fault 0 = .ok (.iload_n 1, 1) := by decide +kernel
theorem d_GS_fault_1 : decode b_GS_fault 1 = .ok (.invokestatic 48, 3) := by decide +kernel
theorem d_GS_fault_4 : decode b_GS_fault 4 = .ok (.ifCond .eq 19, 3) := by decide +kernel
theorem d_GS_fault_7 : decode b_GS_fault 7 = .ok (.aload_n 0, 1) := by decide +kernel
theorem d_GS_fault_8 : decode b_GS_fault 8 = .ok (.getfield 19, 3) := by decide +kernel
theorem d_GS_fault_11 : decode b_GS_fault 11 = .ok (.aload_n 0, 1) := by decide +kernel
theorem d_GS_fault_12 : decode b_GS_fault 12 = .ok (.getfield 11, 3) := by decide +kernel
theorem d_GS_fault_15 : decode b_GS_fault 15 = .ok (.iload_n 1, 1) := by decide +kernel
theorem d_GS_fault_16 : decode b_GS_fault 16 = .ok (.aaload, 1) := by decide +kernel
theorem d_GS_fault_17 : decode b_GS_fault 17 = .ok (.invokevirtual 65, 3) := by decide +kernel
theorem d_GS_fault_20 : decode b_GS_fault 20 = .ok (.goto 4, 3) := by decide +kernel
theorem d_GS_fault_23 : decode b_GS_fault 23 = .ok (.iconst (-1), 1) := by decide +kernel
theorem d_GS_fault_24 : decode b_GS_fault 24 = .ok (.ireturn, 1) := by decide +kernel
theorem d_GS_link_0 : decode b_GS_link 0 = .ok (.iconst 0, 1) := by decide +kernel
theorem d_GS_link_1 : decode b_GS_link 1 = .ok (.istore_n 1, 1) := by decide +kernel
theorem d_GS_link_2 : decode b_GS_link 2 = .ok (.iload_n 1, 1) := by decide +kernel
theorem d_GS_link_3 : decode b_GS_link 3 = .ok (.iconst 3, 1) := by decide +kernel
theorem d_GS_link_4 : decode b_GS_link 4 = .ok (.if_icmp .ge 23, 3) := by decide +kernel
theorem d_GS_link_7 : decode b_GS_link 7 = .ok (.aload_n 0, 1) := by decide +kernel
theorem d_GS_link_8 : decode b_GS_link 8 = .ok (.getfield 11, 3) := by decide +kernel
theorem d_GS_link_11 : decode b_GS_link 11 = .ok (.iload_n 1, 1) := by decide +kernel
theorem d_GS_link_12 : decode b_GS_link 12 = .ok (.aaload, 1) := by decide +kernel
theorem d_GS_link_13 : decode b_GS_link 13 = .ok (.invokevirtual 86, 3) := by decide +kernel
theorem d_GS_link_16 : decode b_GS_link 16 = .ok (.ifCond .ne 5, 3) := by decide +kernel
theorem d_GS_link_19 : decode b_GS_link 19 = .ok (.iconst (-1), 1) := by decide +kernel
theorem d_GS_link_20 : decode b_GS_link 20 = .ok (.ireturn, 1) := by decide +kernel
theorem d_GS_link_21 : decode b_GS_link 21 = .ok (.iinc 1 1, 3) := by decide +kernel
theorem d_GS_link_24 : decode b_GS_link 24 = .ok (.goto (-22), 3) := by decide +kernel
theorem d_GS_link_27 : decode b_GS_link 27 = .ok (.aload_n 0, 1) := by decide +kernel
theorem d_GS_link_28 : decode b_GS_link 28 = .ok (.invokevirtual 55, 3) := by decide +kernel
theorem d_GS_link_31 : decode b_GS_link 31 = .ok (.aload_n 0, 1) := by decide +kernel
theorem d_GS_link_32 : decode b_GS_link 32 = .ok (.getfield 26, 3) := by decide +kernel
theorem d_GS_link_35 : decode b_GS_link 35 = .ok (.aload_n 0, 1) := by decide +kernel
theorem d_GS_link_36 : decode b_GS_link 36 = .ok (.getfield 11, 3) := by decide +kernel
theorem d_GS_link_39 : decode b_GS_link 39 = .ok (.invokevirtual 89, 3) := by decide +kernel
theorem d_GS_link_42 : decode b_GS_link 42 = .ok (.istore_n 1, 1) := by decide +kernel
theorem d_GS_link_43 : decode b_GS_link 43 = .ok (.aload_n 0, 1) := by decide +kernel
theorem d_GS_link_44 : decode b_GS_link 44 = .ok (.iload_n 1, 1) := by decide +kernel
theorem d_GS_link_45 : decode b_GS_link 45 = .ok (.ifCond .lt 7, 3) := by decide +kernel
theorem d_GS_link_48 : decode b_GS_link 48 = .ok (.iconst 1, 1) := by decide +kernel
theorem d_GS_link_49 : decode b_GS_link 49 = .ok (.goto 4, 3) := by decide +kernel
theorem d_GS_link_52 : decode b_GS_link 52 = .ok (.iconst 0, 1) := by decide +kernel
theorem d_GS_link_53 : decode b_GS_link 53 = .ok (.putfield 44, 3) := by decide +kernel
theorem d_GS_link_56 : decode b_GS_link 56 = .ok (.iload_n 1, 1) := by decide +kernel
theorem d_GS_link_57 : decode b_GS_link 57 = .ok (.ireturn, 1) := by decide +kernel
theorem d_GS_start_0 : decode b_GS_start 0 = .ok (.aload_n 0, 1) := by decide +kernel
theorem d_GS_start_1 : decode b_GS_start 1 = .ok (.getfield 44, 3) := by decide +kernel
theorem d_GS_start_4 : decode b_GS_start 4 = .ok (.ifCond .eq 13, 3) := by decide +kernel
theorem d_GS_start_7 : decode b_GS_start 7 = .ok (.aload_n 0, 1) := by decide +kernel
theorem d_GS_start_8 : decode b_GS_start 8 = .ok (.getfield 40, 3) := by decide +kernel
theorem d_GS_start_11 : decode b_GS_start 11 = .ok (.invokevirtual 93, 3) := by decide +kernel
theorem d_GS_start_14 : decode b_GS_start 14 = .ok (.ifCond .eq 5, 3) := by decide +kernel
theorem d_GS_start_17 : decode b_GS_start 17 = .ok (.iconst (-1), 1) := by decide +kernel
theorem d_GS_start_18 : decode b_GS_start 18 = .ok (.ireturn, 1) := by decide +kernel
theorem d_GS_start_19 : decode b_GS_start 19 = .ok (.aload_n 0, 1) := by decide +kernel
theorem d_GS_start_20 : decode b_GS_start 20 = .ok (.getfield 40, 3) := by decide +kernel
theorem d_GS_start_23 : decode b_GS_start 23 = .ok (.aload_n 0, 1) := by decide +kernel
theorem d_GS_start_24 : decode b_GS_start 24 = .ok (.getfield 26, 3) := by decide +kernel
theorem d_GS_start_27 : decode b_GS_start 27 = .ok (.invokevirtual 96, 3) := by decide +kernel
theorem d_GS_start_30 : decode b_GS_start 30 = .ok (.aload_n 0, 1) := by decide +kernel
theorem d_GS_start_31 : decode b_GS_start 31 = .ok (.getfield 40, 3) := by decide +kernel
theorem d_GS_start_34 : decode b_GS_start 34 = .ok (.invokevirtual 93, 3) := by decide +kernel
theorem d_GS_start_37 : decode b_GS_start 37 = .ok (.ifCond .eq 7, 3) := by decide +kernel
theorem d_GS_start_40 : decode b_GS_start 40 = .ok (.iconst 1, 1) := by decide +kernel
theorem d_GS_start_41 : decode b_GS_start 41 = .ok (.goto 4, 3) := by decide +kernel
theorem d_GS_start_44 : decode b_GS_start 44 = .ok (.iconst 0, 1) := by decide +kernel
theorem d_GS_start_45 : decode b_GS_start 45 = .ok (.ireturn, 1) := by decide +kernel
theorem d_GS_run_0 : decode b_GS_run 0 = .ok (.iload_n 1, 1) := by decide +kernel
theorem d_GS_run_1 : decode b_GS_run 1 = .ok (.iconst 1, 1) := by decide +kernel
theorem d_GS_run_2 : decode b_GS_run 2 = .ok (.if_icmp .lt 18, 3) := by decide +kernel
theorem d_GS_run_5 : decode b_GS_run 5 = .ok (.iload_n 1, 1) := by decide +kernel
theorem d_GS_run_6 : decode b_GS_run 6 = .ok (.iconst 4, 1) := by decide +kernel
theorem d_GS_run_7 : decode b_GS_run 7 = .ok (.if_icmp .gt 13, 3) := by decide +kernel
theorem d_GS_run_10 : decode b_GS_run 10 = .ok (.aload_n 0, 1) := by decide +kernel
theorem d_GS_run_11 : decode b_GS_run 11 = .ok (.getfield 40, 3) := by decide +kernel
theorem d_GS_run_14 : decode b_GS_run 14 = .ok (.invokevirtual 93, 3) := by decide +kernel
theorem d_GS_run_17 : decode b_GS_run 17 = .ok (.ifCond .ne 5, 3) := by decide +kernel
theorem d_GS_run_20 : decode b_GS_run 20 = .ok (.iconst (-1), 1) := by decide +kernel
theorem d_GS_run_21 : decode b_GS_run 21 = .ok (.ireturn, 1) := by decide +kernel
theorem d_GS_run_22 : decode b_GS_run 22 = .ok (.iconst 0, 1) := by decide +kernel
theorem d_GS_run_23 : decode b_GS_run 23 = .ok (.istore_n 2, 1) := by decide +kernel
theorem d_GS_run_24 : decode b_GS_run 24 = .ok (.iload_n 2, 1) := by decide +kernel
theorem d_GS_run_25 : decode b_GS_run 25 = .ok (.iload_n 1, 1) := by decide +kernel
theorem d_GS_run_26 : decode b_GS_run 26 = .ok (.if_icmp .ge 34, 3) := by decide +kernel
theorem d_GS_run_29 : decode b_GS_run 29 = .ok (.aload_n 0, 1) := by decide +kernel
theorem d_GS_run_30 : decode b_GS_run 30 = .ok (.getfield 40, 3) := by decide +kernel
theorem d_GS_run_33 : decode b_GS_run 33 = .ok (.invokevirtual 93, 3) := by decide +kernel
theorem d_GS_run_36 : decode b_GS_run 36 = .ok (.ifCond .eq 24, 3) := by decide +kernel
theorem d_GS_run_39 : decode b_GS_run 39 = .ok (.aload_n 0, 1) := by decide +kernel
theorem d_GS_run_40 : decode b_GS_run 40 = .ok (.getfield 40, 3) := by decide +kernel
theorem d_GS_run_43 : decode b_GS_run 43 = .ok (.aload_n 0, 1) := by decide +kernel
theorem d_GS_run_44 : decode b_GS_run 44 = .ok (.getfield 26, 3) := by decide +kernel
theorem d_GS_run_47 : decode b_GS_run 47 = .ok (.aload_n 0, 1) := by decide +kernel
theorem d_GS_run_48 : decode b_GS_run 48 = .ok (.getfield 33, 3) := by decide +kernel
theorem d_GS_run_51 : decode b_GS_run 51 = .ok (.invokevirtual 100, 3) := by decide +kernel
theorem d_GS_run_54 : decode b_GS_run 54 = .ok (.iinc 2 1, 3) := by decide +kernel
theorem d_GS_run_57 : decode b_GS_run 57 = .ok (.goto (-33), 3) := by decide +kernel
theorem d_GS_run_60 : decode b_GS_run 60 = .ok (.aload_n 0, 1) := by decide +kernel
theorem d_GS_run_61 : decode b_GS_run 61 = .ok (.getfield 40, 3) := by decide +kernel
theorem d_GS_run_64 : decode b_GS_run 64 = .ok (.invokevirtual 93, 3) := by decide +kernel
theorem d_GS_run_67 : decode b_GS_run 67 = .ok (.ifCond .eq 7, 3) := by decide +kernel
theorem d_GS_run_70 : decode b_GS_run 70 = .ok (.iconst 1, 1) := by decide +kernel
theorem d_GS_run_71 : decode b_GS_run 71 = .ok (.goto 4, 3) := by decide +kernel
theorem d_GS_run_74 : decode b_GS_run 74 = .ok (.iconst 0, 1) := by decide +kernel
theorem d_GS_run_75 : decode b_GS_run 75 = .ok (.ireturn, 1) := by decide +kernel
theorem d_GS_stop_0 : decode b_GS_stop 0 = .ok (.aload_n 0, 1) := by decide +kernel
theorem d_GS_stop_1 : decode b_GS_stop 1 = .ok (.getfield 40, 3) := by decide +kernel
theorem d_GS_stop_4 : decode b_GS_stop 4 = .ok (.invokevirtual 93, 3) := by decide +kernel
theorem d_GS_stop_7 : decode b_GS_stop 7 = .ok (.ifCond .ne 5, 3) := by decide +kernel
theorem d_GS_stop_10 : decode b_GS_stop 10 = .ok (.iconst (-1), 1) := by decide +kernel
theorem d_GS_stop_11 : decode b_GS_stop 11 = .ok (.ireturn, 1) := by decide +kernel
theorem d_GS_stop_12 : decode b_GS_stop 12 = .ok (.aload_n 0, 1) := by decide +kernel
theorem d_GS_stop_13 : decode b_GS_stop 13 = .ok (.getfield 40, 3) := by decide +kernel
theorem d_GS_stop_16 : decode b_GS_stop 16 = .ok (.invokevirtual 104, 3) := by decide +kernel
theorem d_GS_stop_19 : decode b_GS_stop 19 = .ok (.iconst 0, 1) := by decide +kernel
theorem d_GS_stop_20 : decode b_GS_stop 20 = .ok (.ireturn, 1) := by decide +kernel
theorem d_GS_set_0 : decode b_GS_set 0 = .ok (.aload_n 0, 1) := by decide +kernel
theorem d_GS_set_1 : decode b_GS_set 1 = .ok (.getfield 33, 3) := by decide +kernel
theorem d_GS_set_4 : decode b_GS_set 4 = .ok (.iload_n 1, 1) := by decide +kernel
theorem d_GS_set_5 : decode b_GS_set 5 = .ok (.iload_n 2, 1) := by decide +kernel
theorem d_GS_set_6 : decode b_GS_set 6 = .ok (.invokevirtual 107, 3) := by decide +kernel
theorem d_GS_set_9 : decode b_GS_set 9 = .ok (.ifCond .eq 7, 3) := by decide +kernel
theorem d_GS_set_12 : decode b_GS_set 12 = .ok (.iconst 0, 1) := by decide +kernel
theorem d_GS_set_13 : decode b_GS_set 13 = .ok (.goto 4, 3) := by decide +kernel
theorem d_GS_set_16 : decode b_GS_set 16 = .ok (.iconst (-1), 1) := by decide +kernel
theorem d_GS_set_17 : decode b_GS_set 17 = .ok (.ireturn, 1) := by decide +kernel
theorem d_GS_get_0 : decode b_GS_get 0 = .ok (.iload_n 1, 1) := by decide +kernel
theorem d_GS_get_1 : decode b_GS_get 1 = .ok (.invokestatic 111, 3) := by decide +kernel
theorem d_GS_get_4 : decode b_GS_get 4 = .ok (.ifCond .eq 15, 3) := by decide +kernel
theorem d_GS_get_7 : decode b_GS_get 7 = .ok (.aload_n 0, 1) := by decide +kernel
theorem d_GS_get_8 : decode b_GS_get 8 = .ok (.getfield 33, 3) := by decide +kernel
theorem d_GS_get_11 : decode b_GS_get 11 = .ok (.iload_n 1, 1) := by decide +kernel
theorem d_GS_get_12 : decode b_GS_get 12 = .ok (.invokevirtual 114, 3) := by decide +kernel
theorem d_GS_get_15 : decode b_GS_get 15 = .ok (.i2l, 1) := by decide +kernel
theorem d_GS_get_16 : decode b_GS_get 16 = .ok (.goto 6, 3) := by decide +kernel
theorem d_GS_get_19 : decode b_GS_get 19 = .ok (.ldc2_w 117, 3) := by decide +kernel
theorem d_GS_get_22 : decode b_GS_get 22 = .ok (.lreturn, 1) := by decide +kernel
theorem d_GS_output_0 : decode b_GS_output 0 = .ok (.aload_n 0, 1) := by decide +kernel
theorem d_GS_output_1 : decode b_GS_output 1 = .ok (.getfield 40, 3) := by decide +kernel
theorem d_GS_output_4 : decode b_GS_output 4 = .ok (.iload_n 1, 1) := by decide +kernel
theorem d_GS_output_5 : decode b_GS_output 5 = .ok (.invokevirtual 119, 3) := by decide +kernel
theorem d_GS_output_8 : decode b_GS_output 8 = .ok (.ifCond .eq 15, 3) := by decide +kernel
theorem d_GS_output_11 : decode b_GS_output 11 = .ok (.aload_n 0, 1) := by decide +kernel
theorem d_GS_output_12 : decode b_GS_output 12 = .ok (.getfield 40, 3) := by decide +kernel
theorem d_GS_output_15 : decode b_GS_output 15 = .ok (.iload_n 1, 1) := by decide +kernel
theorem d_GS_output_16 : decode b_GS_output 16 = .ok (.invokevirtual 122, 3) := by decide +kernel
theorem d_GS_output_19 : decode b_GS_output 19 = .ok (.i2l, 1) := by decide +kernel
theorem d_GS_output_20 : decode b_GS_output 20 = .ok (.goto 6, 3) := by decide +kernel
theorem d_GS_output_23 : decode b_GS_output 23 = .ok (.ldc2_w 117, 3) := by decide +kernel
theorem d_GS_output_26 : decode b_GS_output 26 = .ok (.lreturn, 1) := by decide +kernel
theorem d_GS_at_0 : decode b_GS_at 0 = .ok (.iload_n 1, 1) := by decide +kernel
theorem d_GS_at_1 : decode b_GS_at 1 = .ok (.tableswitch 67 0 3 #[31, 39, 51, 59], 31) := by decide +kernel
theorem d_GS_at_32 : decode b_GS_at 32 = .ok (.aload_n 0, 1) := by decide +kernel
theorem d_GS_at_33 : decode b_GS_at 33 = .ok (.getfield 40, 3) := by decide +kernel
theorem d_GS_at_36 : decode b_GS_at 36 = .ok (.invokevirtual 125, 3) := by decide +kernel
theorem d_GS_at_39 : decode b_GS_at 39 = .ok (.ireturn, 1) := by decide +kernel
theorem d_GS_at_40 : decode b_GS_at 40 = .ok (.aload_n 0, 1) := by decide +kernel
theorem d_GS_at_41 : decode b_GS_at 41 = .ok (.getfield 40, 3) := by decide +kernel
theorem d_GS_at_44 : decode b_GS_at 44 = .ok (.aload_n 0, 1) := by decide +kernel
theorem d_GS_at_45 : decode b_GS_at 45 = .ok (.getfield 26, 3) := by decide +kernel
theorem d_GS_at_48 : decode b_GS_at 48 = .ok (.invokevirtual 128, 3) := by decide +kernel
theorem d_GS_at_51 : decode b_GS_at 51 = .ok (.ireturn, 1) := by decide +kernel
theorem d_GS_at_52 : decode b_GS_at 52 = .ok (.aload_n 0, 1) := by decide +kernel
theorem d_GS_at_53 : decode b_GS_at 53 = .ok (.getfield 40, 3) := by decide +kernel
theorem d_GS_at_56 : decode b_GS_at 56 = .ok (.invokevirtual 132, 3) := by decide +kernel
theorem d_GS_at_59 : decode b_GS_at 59 = .ok (.ireturn, 1) := by decide +kernel
theorem d_GS_at_60 : decode b_GS_at 60 = .ok (.aload_n 0, 1) := by decide +kernel
theorem d_GS_at_61 : decode b_GS_at 61 = .ok (.getfield 40, 3) := by decide +kernel
theorem d_GS_at_64 : decode b_GS_at 64 = .ok (.invokevirtual 135, 3) := by decide +kernel
theorem d_GS_at_67 : decode b_GS_at 67 = .ok (.ireturn, 1) := by decide +kernel
theorem d_GS_at_68 : decode b_GS_at 68 = .ok (.iconst (-1), 1) := by decide +kernel
theorem d_GS_at_69 : decode b_GS_at 69 = .ok (.ireturn, 1) := by decide +kernel
theorem d_GS_operate_0 : decode b_GS_operate 0 = .ok (.iload_n 1, 1) := by decide +kernel
theorem d_GS_operate_1 : decode b_GS_operate 1 = .ok (.ifCond .lt 8, 3) := by decide +kernel
theorem d_GS_operate_4 : decode b_GS_operate 4 = .ok (.iload_n 1, 1) := by decide +kernel
theorem d_GS_operate_5 : decode b_GS_operate 5 = .ok (.iconst 5, 1) := by decide +kernel
theorem d_GS_operate_6 : decode b_GS_operate 6 = .ok (.if_icmp .le 7, 3) := by decide +kernel
theorem d_GS_operate_9 : decode b_GS_operate 9 = .ok (.ldc2_w 117, 3) := by decide +kernel
theorem d_GS_operate_12 : decode b_GS_operate 12 = .ok (.lreturn, 1) := by decide +kernel
theorem d_GS_operate_13 : decode b_GS_operate 13 = .ok (.iload_n 1, 1) := by decide +kernel
theorem d_GS_operate_14 : decode b_GS_operate 14 = .ok (.iload_n 2, 1) := by decide +kernel
theorem d_GS_operate_15 : decode b_GS_operate 15 = .ok (.iload_n 3, 1) := by decide +kernel
theorem d_GS_operate_16 : decode b_GS_operate 16 = .ok (.invokestatic 138, 3) := by decide +kernel
theorem d_GS_operate_19 : decode b_GS_operate 19 = .ok (.i2l, 1) := by decide +kernel
theorem d_GS_operate_20 : decode b_GS_operate 20 = .ok (.lreturn, 1) := by decide +kernel
theorem d_GS_state_0 : decode b_GS_state 0 = .ok (.iload_n 1, 1) := by decide +kernel
theorem d_GS_state_1 : decode b_GS_state 1 = .ok (.invokestatic 48, 3) := by decide +kernel
theorem d_GS_state_4 : decode b_GS_state 4 = .ok (.ifCond .ne 5, 3) := by decide +kernel
theorem d_GS_state_7 : decode b_GS_state 7 = .ok (.iconst (-1), 1) := by decide +kernel
theorem d_GS_state_8 : decode b_GS_state 8 = .ok (.ireturn, 1) := by decide +kernel
theorem d_GS_state_9 : decode b_GS_state 9 = .ok (.iload_n 2, 1) := by decide +kernel
theorem d_GS_state_10 : decode b_GS_state 10 = .ok (.tableswitch 67 0 2 #[26, 36, 54], 26) := by decide +kernel
theorem d_GS_state_36 : decode b_GS_state 36 = .ok (.aload_n 0, 1) := by decide +kernel
theorem d_GS_state_37 : decode b_GS_state 37 = .ok (.getfield 11, 3) := by decide +kernel
theorem d_GS_state_40 : decode b_GS_state 40 = .ok (.iload_n 1, 1) := by decide +kernel
theorem d_GS_state_41 : decode b_GS_state 41 = .ok (.aaload, 1) := by decide +kernel
theorem d_GS_state_42 : decode b_GS_state 42 = .ok (.invokevirtual 58, 3) := by decide +kernel
theorem d_GS_state_45 : decode b_GS_state 45 = .ok (.ireturn, 1) := by decide +kernel
theorem d_GS_state_46 : decode b_GS_state 46 = .ok (.aload_n 0, 1) := by decide +kernel
theorem d_GS_state_47 : decode b_GS_state 47 = .ok (.getfield 11, 3) := by decide +kernel
theorem d_GS_state_50 : decode b_GS_state 50 = .ok (.iload_n 1, 1) := by decide +kernel
theorem d_GS_state_51 : decode b_GS_state 51 = .ok (.aaload, 1) := by decide +kernel
theorem d_GS_state_52 : decode b_GS_state 52 = .ok (.invokevirtual 86, 3) := by decide +kernel
theorem d_GS_state_55 : decode b_GS_state 55 = .ok (.ifCond .eq 7, 3) := by decide +kernel
theorem d_GS_state_58 : decode b_GS_state 58 = .ok (.iconst 1, 1) := by decide +kernel
theorem d_GS_state_59 : decode b_GS_state 59 = .ok (.goto 4, 3) := by decide +kernel
theorem d_GS_state_62 : decode b_GS_state 62 = .ok (.iconst 0, 1) := by decide +kernel
theorem d_GS_state_63 : decode b_GS_state 63 = .ok (.ireturn, 1) := by decide +kernel
theorem d_GS_state_64 : decode b_GS_state 64 = .ok (.aload_n 0, 1) := by decide +kernel
theorem d_GS_state_65 : decode b_GS_state 65 = .ok (.getfield 44, 3) := by decide +kernel
theorem d_GS_state_68 : decode b_GS_state 68 = .ok (.ifCond .eq 7, 3) := by decide +kernel
theorem d_GS_state_71 : decode b_GS_state 71 = .ok (.iconst 1, 1) := by decide +kernel
theorem d_GS_state_72 : decode b_GS_state 72 = .ok (.goto 4, 3) := by decide +kernel
theorem d_GS_state_75 : decode b_GS_state 75 = .ok (.iconst 0, 1) := by decide +kernel
theorem d_GS_state_76 : decode b_GS_state 76 = .ok (.ireturn, 1) := by decide +kernel
theorem d_GS_state_77 : decode b_GS_state 77 = .ok (.iconst (-1), 1) := by decide +kernel
theorem d_GS_state_78 : decode b_GS_state 78 = .ok (.ireturn, 1) := by decide +kernel
theorem d_GS_loosen_0 : decode b_GS_loosen 0 = .ok (.aload_n 0, 1) := by decide +kernel
theorem d_GS_loosen_1 : decode b_GS_loosen 1 = .ok (.iconst 0, 1) := by decide +kernel
theorem d_GS_loosen_2 : decode b_GS_loosen 2 = .ok (.putfield 44, 3) := by decide +kernel
theorem d_GS_loosen_5 : decode b_GS_loosen 5 = .ok (.aload_n 0, 1) := by decide +kernel
theorem d_GS_loosen_6 : decode b_GS_loosen 6 = .ok (.getfield 40, 3) := by decide +kernel
theorem d_GS_loosen_9 : decode b_GS_loosen 9 = .ok (.invokevirtual 104, 3) := by decide +kernel
theorem d_GS_loosen_12 : decode b_GS_loosen 12 = .ok (.return_, 1) := by decide +kernel
theorem d_GS_isModule_0 : decode b_GS_isModule 0 = .ok (.iload_n 0, 1) := by decide +kernel
theorem d_GS_isModule_1 : decode b_GS_isModule 1 = .ok (.ifCond .lt 12, 3) := by decide +kernel
theorem d_GS_isModule_4 : decode b_GS_isModule 4 = .ok (.iload_n 0, 1) := by decide +kernel
theorem d_GS_isModule_5 : decode b_GS_isModule 5 = .ok (.iconst 3, 1) := by decide +kernel
theorem d_GS_isModule_6 : decode b_GS_isModule 6 = .ok (.if_icmp .ge 7, 3) := by decide +kernel
theorem d_GS_isModule_9 : decode b_GS_isModule 9 = .ok (.iconst 1, 1) := by decide +kernel
theorem d_GS_isModule_10 : decode b_GS_isModule 10 = .ok (.goto 4, 3) := by decide +kernel
theorem d_GS_isModule_13 : decode b_GS_isModule 13 = .ok (.iconst 0, 1) := by decide +kernel
theorem d_GS_isModule_14 : decode b_GS_isModule 14 = .ok (.ireturn, 1) := by decide +kernel
theorem d_GS_isVariableNumber_0 : decode b_GS_isVariableNumber 0 = .ok (.iload_n 0, 1) := by decide +kernel
theorem d_GS_isVariableNumber_1 : decode b_GS_isVariableNumber 1 = .ok (.ifCond .lt 13, 3) := by decide +kernel
theorem d_GS_isVariableNumber_4 : decode b_GS_isVariableNumber 4 = .ok (.iload_n 0, 1) := by decide +kernel
theorem d_GS_isVariableNumber_5 : decode b_GS_isVariableNumber 5 = .ok (.bipush 8, 2) := by decide +kernel
theorem d_GS_isVariableNumber_7 : decode b_GS_isVariableNumber 7 = .ok (.if_icmp .ge 7, 3) := by decide +kernel
theorem d_GS_isVariableNumber_10 : decode b_GS_isVariableNumber 10 = .ok (.iconst 1, 1) := by decide +kernel
theorem d_GS_isVariableNumber_11 : decode b_GS_isVariableNumber 11 = .ok (.goto 4, 3) := by decide +kernel
theorem d_GS_isVariableNumber_14 : decode b_GS_isVariableNumber 14 = .ok (.iconst 0, 1) := by decide +kernel
theorem d_GS_isVariableNumber_15 : decode b_GS_isVariableNumber 15 = .ok (.ireturn, 1) := by decide +kernel
theorem d_GS_isLetterNumber_0 : decode b_GS_isLetterNumber 0 = .ok (.iload_n 0, 1) := by decide +kernel
theorem d_GS_isLetterNumber_1 : decode b_GS_isLetterNumber 1 = .ok (.ifCond .lt 13, 3) := by decide +kernel
theorem d_GS_isLetterNumber_4 : decode b_GS_isLetterNumber 4 = .ok (.iload_n 0, 1) := by decide +kernel
theorem d_GS_isLetterNumber_5 : decode b_GS_isLetterNumber 5 = .ok (.bipush 26, 2) := by decide +kernel
theorem d_GS_isLetterNumber_7 : decode b_GS_isLetterNumber 7 = .ok (.if_icmp .ge 7, 3) := by decide +kernel
theorem d_GS_isLetterNumber_10 : decode b_GS_isLetterNumber 10 = .ok (.iconst 1, 1) := by decide +kernel
theorem d_GS_isLetterNumber_11 : decode b_GS_isLetterNumber 11 = .ok (.goto 4, 3) := by decide +kernel
theorem d_GS_isLetterNumber_14 : decode b_GS_isLetterNumber 14 = .ok (.iconst 0, 1) := by decide +kernel
theorem d_GS_isLetterNumber_15 : decode b_GS_isLetterNumber 15 = .ok (.ireturn, 1) := by decide +kernel
theorem d_GS_isLetter_0 : decode b_GS_isLetter 0 = .ok (.iload_n 0, 1) := by decide +kernel
theorem d_GS_isLetter_1 : decode b_GS_isLetter 1 = .ok (.bipush 65, 2) := by decide +kernel
theorem d_GS_isLetter_3 : decode b_GS_isLetter 3 = .ok (.if_icmp .lt 13, 3) := by decide +kernel
theorem d_GS_isLetter_6 : decode b_GS_isLetter 6 = .ok (.iload_n 0, 1) := by decide +kernel
theorem d_GS_isLetter_7 : decode b_GS_isLetter 7 = .ok (.bipush 90, 2) := by decide +kernel
theorem d_GS_isLetter_9 : decode b_GS_isLetter 9 = .ok (.if_icmp .gt 7, 3) := by decide +kernel
theorem d_GS_isLetter_12 : decode b_GS_isLetter 12 = .ok (.iconst 1, 1) := by decide +kernel
theorem d_GS_isLetter_13 : decode b_GS_isLetter 13 = .ok (.goto 4, 3) := by decide +kernel
theorem d_GS_isLetter_16 : decode b_GS_isLetter 16 = .ok (.iconst 0, 1) := by decide +kernel
theorem d_GS_isLetter_17 : decode b_GS_isLetter 17 = .ok (.ireturn, 1) := by decide +kernel
theorem d_GS_isVariable_0 : decode b_GS_isVariable 0 = .ok (.iload_n 0, 1) := by decide +kernel
theorem d_GS_isVariable_1 : decode b_GS_isVariable 1 = .ok (.bipush 97, 2) := by decide +kernel
theorem d_GS_isVariable_3 : decode b_GS_isVariable 3 = .ok (.if_icmp .lt 13, 3) := by decide +kernel
theorem d_GS_isVariable_6 : decode b_GS_isVariable 6 = .ok (.iload_n 0, 1) := by decide +kernel
theorem d_GS_isVariable_7 : decode b_GS_isVariable 7 = .ok (.bipush 104, 2) := by decide +kernel
theorem d_GS_isVariable_9 : decode b_GS_isVariable 9 = .ok (.if_icmp .gt 7, 3) := by decide +kernel
theorem d_GS_isVariable_12 : decode b_GS_isVariable 12 = .ok (.iconst 1, 1) := by decide +kernel
theorem d_GS_isVariable_13 : decode b_GS_isVariable 13 = .ok (.goto 4, 3) := by decide +kernel
theorem d_GS_isVariable_16 : decode b_GS_isVariable 16 = .ok (.iconst 0, 1) := by decide +kernel
theorem d_GS_isVariable_17 : decode b_GS_isVariable 17 = .ok (.ireturn, 1) := by decide +kernel
theorem d_GS_isDigit_0 : decode b_GS_isDigit 0 = .ok (.iload_n 0, 1) := by decide +kernel
theorem d_GS_isDigit_1 : decode b_GS_isDigit 1 = .ok (.bipush 48, 2) := by decide +kernel
theorem d_GS_isDigit_3 : decode b_GS_isDigit 3 = .ok (.if_icmp .lt 13, 3) := by decide +kernel
theorem d_GS_isDigit_6 : decode b_GS_isDigit 6 = .ok (.iload_n 0, 1) := by decide +kernel
theorem d_GS_isDigit_7 : decode b_GS_isDigit 7 = .ok (.bipush 57, 2) := by decide +kernel
theorem d_GS_isDigit_9 : decode b_GS_isDigit 9 = .ok (.if_icmp .gt 7, 3) := by decide +kernel
theorem d_GS_isDigit_12 : decode b_GS_isDigit 12 = .ok (.iconst 1, 1) := by decide +kernel
theorem d_GS_isDigit_13 : decode b_GS_isDigit 13 = .ok (.goto 4, 3) := by decide +kernel
theorem d_GS_isDigit_16 : decode b_GS_isDigit 16 = .ok (.iconst 0, 1) := by decide +kernel
theorem d_GS_isDigit_17 : decode b_GS_isDigit 17 = .ok (.ireturn, 1) := by decide +kernel
theorem d_GS_isPrefix_0 : decode b_GS_isPrefix 0 = .ok (.iload_n 0, 1) := by decide +kernel
theorem d_GS_isPrefix_1 : decode b_GS_isPrefix 1 = .ok (.bipush 126, 2) := by decide +kernel
theorem d_GS_isPrefix_3 : decode b_GS_isPrefix 3 = .ok (.if_icmp .eq 9, 3) := by decide +kernel
theorem d_GS_isPrefix_6 : decode b_GS_isPrefix 6 = .ok (.iload_n 0, 1) := by decide +kernel
theorem d_GS_isPrefix_7 : decode b_GS_isPrefix 7 = .ok (.bipush 45, 2) := by decide +kernel
theorem d_GS_isPrefix_9 : decode b_GS_isPrefix 9 = .ok (.if_icmp .ne 7, 3) := by decide +kernel
theorem d_GS_isPrefix_12 : decode b_GS_isPrefix 12 = .ok (.iconst 1, 1) := by decide +kernel
theorem d_GS_isPrefix_13 : decode b_GS_isPrefix 13 = .ok (.goto 4, 3) := by decide +kernel
theorem d_GS_isPrefix_16 : decode b_GS_isPrefix 16 = .ok (.iconst 0, 1) := by decide +kernel
theorem d_GS_isPrefix_17 : decode b_GS_isPrefix 17 = .ok (.ireturn, 1) := by decide +kernel
theorem d_GS_hasBit_0 : decode b_GS_hasBit 0 = .ok (.iload_n 0, 1) := by decide +kernel
theorem d_GS_hasBit_1 : decode b_GS_hasBit 1 = .ok (.iload_n 1, 1) := by decide +kernel
theorem d_GS_hasBit_2 : decode b_GS_hasBit 2 = .ok (.iushr, 1) := by decide +kernel
theorem d_GS_hasBit_3 : decode b_GS_hasBit 3 = .ok (.iconst 1, 1) := by decide +kernel
theorem d_GS_hasBit_4 : decode b_GS_hasBit 4 = .ok (.iand, 1) := by decide +kernel
theorem d_GS_hasBit_5 : decode b_GS_hasBit 5 = .ok (.ifCond .eq 7, 3) := by decide +kernel
theorem d_GS_hasBit_8 : decode b_GS_hasBit 8 = .ok (.iconst 1, 1) := by decide +kernel
theorem d_GS_hasBit_9 : decode b_GS_hasBit 9 = .ok (.goto 4, 3) := by decide +kernel
theorem d_GS_hasBit_12 : decode b_GS_hasBit 12 = .ok (.iconst 0, 1) := by decide +kernel
theorem d_GS_hasBit_13 : decode b_GS_hasBit 13 = .ok (.ireturn, 1) := by decide +kernel
theorem d_GS_operationOf_0 : decode b_GS_operationOf 0 = .ok (.iload_n 0, 1) := by decide +kernel
theorem d_GS_operationOf_1 : decode b_GS_operationOf 1 = .ok (.lookupswitch 82 #[(38, 71), (43, 67), (45, 69), (60, 77), (61, 79), (94, 75), (124, 73)], 67) := by decide +kernel
theorem d_GS_operationOf_68 : decode b_GS_operationOf 68 = .ok (.iconst 0, 1) := by decide +kernel
theorem d_GS_operationOf_69 : decode b_GS_operationOf 69 = .ok (.ireturn, 1) := by decide +kernel
theorem d_GS_operationOf_70 : decode b_GS_operationOf 70 = .ok (.iconst 1, 1) := by decide +kernel
theorem d_GS_operationOf_71 : decode b_GS_operationOf 71 = .ok (.ireturn, 1) := by decide +kernel
theorem d_GS_operationOf_72 : decode b_GS_operationOf 72 = .ok (.iconst 2, 1) := by decide +kernel
theorem d_GS_operationOf_73 : decode b_GS_operationOf 73 = .ok (.ireturn, 1) := by decide +kernel
theorem d_GS_operationOf_74 : decode b_GS_operationOf 74 = .ok (.iconst 3, 1) := by decide +kernel
theorem d_GS_operationOf_75 : decode b_GS_operationOf 75 = .ok (.ireturn, 1) := by decide +kernel
theorem d_GS_operationOf_76 : decode b_GS_operationOf 76 = .ok (.iconst 4, 1) := by decide +kernel
theorem d_GS_operationOf_77 : decode b_GS_operationOf 77 = .ok (.ireturn, 1) := by decide +kernel
theorem d_GS_operationOf_78 : decode b_GS_operationOf 78 = .ok (.iconst 5, 1) := by decide +kernel
theorem d_GS_operationOf_79 : decode b_GS_operationOf 79 = .ok (.ireturn, 1) := by decide +kernel
theorem d_GS_operationOf_80 : decode b_GS_operationOf 80 = .ok (.bipush 6, 2) := by decide +kernel
theorem d_GS_operationOf_82 : decode b_GS_operationOf 82 = .ok (.ireturn, 1) := by decide +kernel
theorem d_GS_operationOf_83 : decode b_GS_operationOf 83 = .ok (.iconst (-1), 1) := by decide +kernel
theorem d_GS_operationOf_84 : decode b_GS_operationOf 84 = .ok (.ireturn, 1) := by decide +kernel
theorem d_GS_worked_0 : decode b_GS_worked 0 = .ok (.iload_n 0, 1) := by decide +kernel
theorem d_GS_worked_1 : decode b_GS_worked 1 = .ok (.tableswitch 70 0 5 #[39, 43, 47, 51, 55, 59], 39) := by decide +kernel
theorem d_GS_worked_40 : decode b_GS_worked 40 = .ok (.iload_n 1, 1) := by decide +kernel
theorem d_GS_worked_41 : decode b_GS_worked 41 = .ok (.iload_n 2, 1) := by decide +kernel
theorem d_GS_worked_42 : decode b_GS_worked 42 = .ok (.iadd, 1) := by decide +kernel
theorem d_GS_worked_43 : decode b_GS_worked 43 = .ok (.ireturn, 1) := by decide +kernel
theorem d_GS_worked_44 : decode b_GS_worked 44 = .ok (.iload_n 1, 1) := by decide +kernel
theorem d_GS_worked_45 : decode b_GS_worked 45 = .ok (.iload_n 2, 1) := by decide +kernel
theorem d_GS_worked_46 : decode b_GS_worked 46 = .ok (.isub, 1) := by decide +kernel
theorem d_GS_worked_47 : decode b_GS_worked 47 = .ok (.ireturn, 1) := by decide +kernel
theorem d_GS_worked_48 : decode b_GS_worked 48 = .ok (.iload_n 1, 1) := by decide +kernel
theorem d_GS_worked_49 : decode b_GS_worked 49 = .ok (.iload_n 2, 1) := by decide +kernel
theorem d_GS_worked_50 : decode b_GS_worked 50 = .ok (.iand, 1) := by decide +kernel
theorem d_GS_worked_51 : decode b_GS_worked 51 = .ok (.ireturn, 1) := by decide +kernel
theorem d_GS_worked_52 : decode b_GS_worked 52 = .ok (.iload_n 1, 1) := by decide +kernel
theorem d_GS_worked_53 : decode b_GS_worked 53 = .ok (.iload_n 2, 1) := by decide +kernel
theorem d_GS_worked_54 : decode b_GS_worked 54 = .ok (.ior, 1) := by decide +kernel
theorem d_GS_worked_55 : decode b_GS_worked 55 = .ok (.ireturn, 1) := by decide +kernel
theorem d_GS_worked_56 : decode b_GS_worked 56 = .ok (.iload_n 1, 1) := by decide +kernel
theorem d_GS_worked_57 : decode b_GS_worked 57 = .ok (.iload_n 2, 1) := by decide +kernel
theorem d_GS_worked_58 : decode b_GS_worked 58 = .ok (.ixor, 1) := by decide +kernel
theorem d_GS_worked_59 : decode b_GS_worked 59 = .ok (.ireturn, 1) := by decide +kernel
theorem d_GS_worked_60 : decode b_GS_worked 60 = .ok (.iload_n 1, 1) := by decide +kernel
theorem d_GS_worked_61 : decode b_GS_worked 61 = .ok (.iload_n 2, 1) := by decide +kernel
theorem d_GS_worked_62 : decode b_GS_worked 62 = .ok (.if_icmp .ge 7, 3) := by decide +kernel
theorem d_GS_worked_65 : decode b_GS_worked 65 = .ok (.iconst 1, 1) := by decide +kernel
theorem d_GS_worked_66 : decode b_GS_worked 66 = .ok (.goto 4, 3) := by decide +kernel
theorem d_GS_worked_69 : decode b_GS_worked 69 = .ok (.iconst 0, 1) := by decide +kernel
theorem d_GS_worked_70 : decode b_GS_worked 70 = .ok (.ireturn, 1) := by decide +kernel
theorem d_GS_worked_71 : decode b_GS_worked 71 = .ok (.iload_n 1, 1) := by decide +kernel
theorem d_GS_worked_72 : decode b_GS_worked 72 = .ok (.iload_n 2, 1) := by decide +kernel
theorem d_GS_worked_73 : decode b_GS_worked 73 = .ok (.if_icmp .ne 7, 3) := by decide +kernel
theorem d_GS_worked_76 : decode b_GS_worked 76 = .ok (.iconst 1, 1) := by decide +kernel
theorem d_GS_worked_77 : decode b_GS_worked 77 = .ok (.goto 4, 3) := by decide +kernel
theorem d_GS_worked_80 : decode b_GS_worked 80 = .ok (.iconst 0, 1) := by decide +kernel
theorem d_GS_worked_81 : decode b_GS_worked 81 = .ok (.ireturn, 1) := by decide +kernel
theorem d_CA_init_0 : decode b_CA_init 0 = .ok (.aload_n 0, 1) := by decide +kernel
theorem d_CA_init_1 : decode b_CA_init 1 = .ok (.invokespecial 3, 3) := by decide +kernel
theorem d_CA_init_4 : decode b_CA_init 4 = .ok (.aload_n 0, 1) := by decide +kernel
theorem d_CA_init_5 : decode b_CA_init 5 = .ok (.bipush 8, 2) := by decide +kernel
theorem d_CA_init_7 : decode b_CA_init 7 = .ok (.newarray .int, 2) := by decide +kernel
theorem d_CA_init_9 : decode b_CA_init 9 = .ok (.putfield 9, 3) := by decide +kernel
theorem d_CA_init_12 : decode b_CA_init 12 = .ok (.return_, 1) := by decide +kernel
theorem d_CA_assign_0 : decode b_CA_assign 0 = .ok (.iload_n 1, 1) := by decide +kernel
theorem d_CA_assign_1 : decode b_CA_assign 1 = .ok (.invokestatic 15, 3) := by decide +kernel
theorem d_CA_assign_4 : decode b_CA_assign 4 = .ok (.ifCond .ne 5, 3) := by decide +kernel
theorem d_CA_assign_7 : decode b_CA_assign 7 = .ok (.iconst 0, 1) := by decide +kernel
theorem d_CA_assign_8 : decode b_CA_assign 8 = .ok (.ireturn, 1) := by decide +kernel
theorem d_CA_assign_9 : decode b_CA_assign 9 = .ok (.aload_n 0, 1) := by decide +kernel
theorem d_CA_assign_10 : decode b_CA_assign 10 = .ok (.getfield 9, 3) := by decide +kernel
theorem d_CA_assign_13 : decode b_CA_assign 13 = .ok (.iload_n 1, 1) := by decide +kernel
theorem d_CA_assign_14 : decode b_CA_assign 14 = .ok (.iload_n 2, 1) := by decide +kernel
theorem d_CA_assign_15 : decode b_CA_assign 15 = .ok (.iastore, 1) := by decide +kernel
theorem d_CA_assign_16 : decode b_CA_assign 16 = .ok (.iconst 1, 1) := by decide +kernel
theorem d_CA_assign_17 : decode b_CA_assign 17 = .ok (.ireturn, 1) := by decide +kernel
theorem d_CA_variable_0 : decode b_CA_variable 0 = .ok (.iload_n 1, 1) := by decide +kernel
theorem d_CA_variable_1 : decode b_CA_variable 1 = .ok (.invokestatic 15, 3) := by decide +kernel
theorem d_CA_variable_4 : decode b_CA_variable 4 = .ok (.ifCond .eq 12, 3) := by decide +kernel
theorem d_CA_variable_7 : decode b_CA_variable 7 = .ok (.aload_n 0, 1) := by decide +kernel
theorem d_CA_variable_8 : decode b_CA_variable 8 = .ok (.getfield 9, 3) := by decide +kernel
theorem d_CA_variable_11 : decode b_CA_variable 11 = .ok (.iload_n 1, 1) := by decide +kernel
theorem d_CA_variable_12 : decode b_CA_variable 12 = .ok (.iaload, 1) := by decide +kernel
theorem d_CA_variable_13 : decode b_CA_variable 13 = .ok (.goto 4, 3) := by decide +kernel
theorem d_CA_variable_16 : decode b_CA_variable 16 = .ok (.iconst 0, 1) := by decide +kernel
theorem d_CA_variable_17 : decode b_CA_variable 17 = .ok (.ireturn, 1) := by decide +kernel
theorem d_CA_valueAt_0 : decode b_CA_valueAt 0 = .ok (.aload_n 0, 1) := by decide +kernel
theorem d_CA_valueAt_1 : decode b_CA_valueAt 1 = .ok (.iload_n 2, 1) := by decide +kernel
theorem d_CA_valueAt_2 : decode b_CA_valueAt 2 = .ok (.putfield 19, 3) := by decide +kernel
theorem d_CA_valueAt_5 : decode b_CA_valueAt 5 = .ok (.aload_n 0, 1) := by decide +kernel
theorem d_CA_valueAt_6 : decode b_CA_valueAt 6 = .ok (.aload_n 1, 1) := by decide +kernel
theorem d_CA_valueAt_7 : decode b_CA_valueAt 7 = .ok (.iconst 0, 1) := by decide +kernel
theorem d_CA_valueAt_8 : decode b_CA_valueAt 8 = .ok (.invokevirtual 23, 3) := by decide +kernel
theorem d_CA_valueAt_11 : decode b_CA_valueAt 11 = .ok (.ireturn, 1) := by decide +kernel
theorem d_CA_cursor_0 : decode b_CA_cursor 0 = .ok (.aload_n 0, 1) := by decide +kernel
theorem d_CA_cursor_1 : decode b_CA_cursor 1 = .ok (.getfield 19, 3) := by decide +kernel
theorem d_CA_cursor_4 : decode b_CA_cursor 4 = .ok (.ireturn, 1) := by decide +kernel
theorem d_CA_expression_0 : decode b_CA_expression 0 = .ok (.aload_n 0, 1) := by decide +kernel
theorem d_CA_expression_1 : decode b_CA_expression 1 = .ok (.aload_n 1, 1) := by decide +kernel
theorem d_CA_expression_2 : decode b_CA_expression 2 = .ok (.iload_n 2, 1) := by decide +kernel
theorem d_CA_expression_3 : decode b_CA_expression 3 = .ok (.invokevirtual 27, 3) := by decide +kernel
theorem d_CA_expression_6 : decode b_CA_expression 6 = .ok (.istore_n 3, 1) := by decide +kernel
theorem d_CA_expression_7 : decode b_CA_expression 7 = .ok (.iconst 0, 1) := by decide +kernel
theorem d_CA_expression_8 : decode b_CA_expression 8 = .ok (.istore 4, 2) := by decide +kernel
theorem d_CA_expression_10 : decode b_CA_expression 10 = .ok (.iload 4, 2) := by decide +kernel
theorem d_CA_expression_12 : decode b_CA_expression 12 = .ok (.bipush 60, 2) := by decide +kernel
theorem d_CA_expression_14 : decode b_CA_expression 14 = .ok (.if_icmp .ge 54, 3) := by decide +kernel
theorem d_CA_expression_17 : decode b_CA_expression 17 = .ok (.aload_n 1, 1) := by decide +kernel
theorem d_CA_expression_18 : decode b_CA_expression 18 = .ok (.aload_n 0, 1) := by decide +kernel
theorem d_CA_expression_19 : decode b_CA_expression 19 = .ok (.getfield 19, 3) := by decide +kernel
theorem d_CA_expression_22 : decode b_CA_expression 22 = .ok (.invokevirtual 30, 3) := by decide +kernel
theorem d_CA_expression_25 : decode b_CA_expression 25 = .ok (.invokestatic 36, 3) := by decide +kernel
theorem d_CA_expression_28 : decode b_CA_expression 28 = .ok (.istore 5, 2) := by decide +kernel
theorem d_CA_expression_30 : decode b_CA_expression 30 = .ok (.iload 5, 2) := by decide +kernel
theorem d_CA_expression_32 : decode b_CA_expression 32 = .ok (.iconst (-1), 1) := by decide +kernel
theorem d_CA_expression_33 : decode b_CA_expression 33 = .ok (.if_icmp .ne 6, 3) := by decide +kernel
theorem d_CA_expression_36 : decode b_CA_expression 36 = .ok (.goto 32, 3) := by decide +kernel
theorem d_CA_expression_39 : decode b_CA_expression 39 = .ok (.aload_n 0, 1) := by decide +kernel
theorem d_CA_expression_40 : decode b_CA_expression 40 = .ok (.dup, 1) := by decide +kernel
theorem d_CA_expression_41 : decode b_CA_expression 41 = .ok (.getfield 19, 3) := by decide +kernel
theorem d_CA_expression_44 : decode b_CA_expression 44 = .ok (.iconst 1, 1) := by decide +kernel
theorem d_CA_expression_45 : decode b_CA_expression 45 = .ok (.iadd, 1) := by decide +kernel
theorem d_CA_expression_46 : decode b_CA_expression 46 = .ok (.putfield 19, 3) := by decide +kernel
theorem d_CA_expression_49 : decode b_CA_expression 49 = .ok (.iload 5, 2) := by decide +kernel
theorem d_CA_expression_51 : decode b_CA_expression 51 = .ok (.iload_n 3, 1) := by decide +kernel
theorem d_CA_expression_52 : decode b_CA_expression 52 = .ok (.aload_n 0, 1) := by decide +kernel
theorem d_CA_expression_53 : decode b_CA_expression 53 = .ok (.aload_n 1, 1) := by decide +kernel
theorem d_CA_expression_54 : decode b_CA_expression 54 = .ok (.iload_n 2, 1) := by decide +kernel
theorem d_CA_expression_55 : decode b_CA_expression 55 = .ok (.invokevirtual 27, 3) := by decide +kernel
theorem d_CA_expression_58 : decode b_CA_expression 58 = .ok (.invokestatic 39, 3) := by decide +kernel
theorem d_CA_expression_61 : decode b_CA_expression 61 = .ok (.istore_n 3, 1) := by decide +kernel
theorem d_CA_expression_62 : decode b_CA_expression 62 = .ok (.iinc 4 1, 3) := by decide +kernel
theorem d_CA_expression_65 : decode b_CA_expression 65 = .ok (.goto (-55), 3) := by decide +kernel
theorem d_CA_expression_68 : decode b_CA_expression 68 = .ok (.iload_n 3, 1) := by decide +kernel
theorem d_CA_expression_69 : decode b_CA_expression 69 = .ok (.ireturn, 1) := by decide +kernel
theorem d_CA_operand_0 : decode b_CA_operand 0 = .ok (.aload_n 1, 1) := by decide +kernel
theorem d_CA_operand_1 : decode b_CA_operand 1 = .ok (.aload_n 0, 1) := by decide +kernel
theorem d_CA_operand_2 : decode b_CA_operand 2 = .ok (.getfield 19, 3) := by decide +kernel
theorem d_CA_operand_5 : decode b_CA_operand 5 = .ok (.invokevirtual 30, 3) := by decide +kernel
theorem d_CA_operand_8 : decode b_CA_operand 8 = .ok (.istore_n 3, 1) := by decide +kernel
theorem d_CA_operand_9 : decode b_CA_operand 9 = .ok (.iload_n 3, 1) := by decide +kernel
theorem d_CA_operand_10 : decode b_CA_operand 10 = .ok (.invokestatic 43, 3) := by decide +kernel
theorem d_CA_operand_13 : decode b_CA_operand 13 = .ok (.ifCond .eq 9, 3) := by decide +kernel
theorem d_CA_operand_16 : decode b_CA_operand 16 = .ok (.aload_n 0, 1) := by decide +kernel
theorem d_CA_operand_17 : decode b_CA_operand 17 = .ok (.aload_n 1, 1) := by decide +kernel
theorem d_CA_operand_18 : decode b_CA_operand 18 = .ok (.invokevirtual 46, 3) := by decide +kernel
theorem d_CA_operand_21 : decode b_CA_operand 21 = .ok (.ireturn, 1) := by decide +kernel
theorem d_CA_operand_22 : decode b_CA_operand 22 = .ok (.aload_n 0, 1) := by decide +kernel
theorem d_CA_operand_23 : decode b_CA_operand 23 = .ok (.dup, 1) := by decide +kernel
theorem d_CA_operand_24 : decode b_CA_operand 24 = .ok (.getfield 19, 3) := by decide +kernel
theorem d_CA_operand_27 : decode b_CA_operand 27 = .ok (.iconst 1, 1) := by decide +kernel
theorem d_CA_operand_28 : decode b_CA_operand 28 = .ok (.iadd, 1) := by decide +kernel
theorem d_CA_operand_29 : decode b_CA_operand 29 = .ok (.putfield 19, 3) := by decide +kernel
theorem d_CA_operand_32 : decode b_CA_operand 32 = .ok (.iload_n 3, 1) := by decide +kernel
theorem d_CA_operand_33 : decode b_CA_operand 33 = .ok (.invokestatic 50, 3) := by decide +kernel
theorem d_CA_operand_36 : decode b_CA_operand 36 = .ok (.ifCond .eq 13, 3) := by decide +kernel
theorem d_CA_operand_39 : decode b_CA_operand 39 = .ok (.aload_n 0, 1) := by decide +kernel
theorem d_CA_operand_40 : decode b_CA_operand 40 = .ok (.getfield 9, 3) := by decide +kernel
theorem d_CA_operand_43 : decode b_CA_operand 43 = .ok (.iload_n 3, 1) := by decide +kernel
theorem d_CA_operand_44 : decode b_CA_operand 44 = .ok (.bipush 97, 2) := by decide +kernel
theorem d_CA_operand_46 : decode b_CA_operand 46 = .ok (.isub, 1) := by decide +kernel
theorem d_CA_operand_47 : decode b_CA_operand 47 = .ok (.iaload, 1) := by decide +kernel
theorem d_CA_operand_48 : decode b_CA_operand 48 = .ok (.ireturn, 1) := by decide +kernel
theorem d_CA_operand_49 : decode b_CA_operand 49 = .ok (.iload_n 2, 1) := by decide +kernel
theorem d_CA_operand_50 : decode b_CA_operand 50 = .ok (.bipush 6, 2) := by decide +kernel
theorem d_CA_operand_52 : decode b_CA_operand 52 = .ok (.if_icmp .lt 5, 3) := by decide +kernel
theorem d_CA_operand_55 : decode b_CA_operand 55 = .ok (.iconst 0, 1) := by decide +kernel
theorem d_CA_operand_56 : decode b_CA_operand 56 = .ok (.ireturn, 1) := by decide +kernel
theorem d_CA_operand_57 : decode b_CA_operand 57 = .ok (.iload_n 3, 1) := by decide +kernel
theorem d_CA_operand_58 : decode b_CA_operand 58 = .ok (.bipush 126, 2) := by decide +kernel
theorem d_CA_operand_60 : decode b_CA_operand 60 = .ok (.if_icmp .ne 14, 3) := by decide +kernel
theorem d_CA_operand_63 : decode b_CA_operand 63 = .ok (.aload_n 0, 1) := by decide +kernel
theorem d_CA_operand_64 : decode b_CA_operand 64 = .ok (.aload_n 1, 1) := by decide +kernel
theorem d_CA_operand_65 : decode b_CA_operand 65 = .ok (.iload_n 2, 1) := by decide +kernel
theorem d_CA_operand_66 : decode b_CA_operand 66 = .ok (.iconst 1, 1) := by decide +kernel
theorem d_CA_operand_67 : decode b_CA_operand 67 = .ok (.iadd, 1) := by decide +kernel
theorem d_CA_operand_68 : decode b_CA_operand 68 = .ok (.invokevirtual 27, 3) := by decide +kernel
theorem d_CA_operand_71 : decode b_CA_operand 71 = .ok (.iconst (-1), 1) := by decide +kernel
theorem d_CA_operand_72 : decode b_CA_operand 72 = .ok (.ixor, 1) := by decide +kernel
theorem d_CA_operand_73 : decode b_CA_operand 73 = .ok (.ireturn, 1) := by decide +kernel
theorem d_CA_operand_74 : decode b_CA_operand 74 = .ok (.iload_n 3, 1) := by decide +kernel
theorem d_CA_operand_75 : decode b_CA_operand 75 = .ok (.bipush 45, 2) := by decide +kernel
theorem d_CA_operand_77 : decode b_CA_operand 77 = .ok (.if_icmp .ne 13, 3) := by decide +kernel
theorem d_CA_operand_80 : decode b_CA_operand 80 = .ok (.aload_n 0, 1) := by decide +kernel
theorem d_CA_operand_81 : decode b_CA_operand 81 = .ok (.aload_n 1, 1) := by decide +kernel
theorem d_CA_operand_82 : decode b_CA_operand 82 = .ok (.iload_n 2, 1) := by decide +kernel
theorem d_CA_operand_83 : decode b_CA_operand 83 = .ok (.iconst 1, 1) := by decide +kernel
theorem d_CA_operand_84 : decode b_CA_operand 84 = .ok (.iadd, 1) := by decide +kernel
theorem d_CA_operand_85 : decode b_CA_operand 85 = .ok (.invokevirtual 27, 3) := by decide +kernel
theorem d_CA_operand_88 : decode b_CA_operand 88 = .ok (.ineg, 1) := by decide +kernel
theorem d_CA_operand_89 : decode b_CA_operand 89 = .ok (.ireturn, 1) := by decide +kernel
theorem d_CA_operand_90 : decode b_CA_operand 90 = .ok (.aload_n 0, 1) := by decide +kernel
theorem d_CA_operand_91 : decode b_CA_operand 91 = .ok (.aload_n 1, 1) := by decide +kernel
theorem d_CA_operand_92 : decode b_CA_operand 92 = .ok (.iload_n 2, 1) := by decide +kernel
theorem d_CA_operand_93 : decode b_CA_operand 93 = .ok (.iconst 1, 1) := by decide +kernel
theorem d_CA_operand_94 : decode b_CA_operand 94 = .ok (.iadd, 1) := by decide +kernel
theorem d_CA_operand_95 : decode b_CA_operand 95 = .ok (.invokevirtual 23, 3) := by decide +kernel
theorem d_CA_operand_98 : decode b_CA_operand 98 = .ok (.istore 4, 2) := by decide +kernel
theorem d_CA_operand_100 : decode b_CA_operand 100 = .ok (.aload_n 0, 1) := by decide +kernel
theorem d_CA_operand_101 : decode b_CA_operand 101 = .ok (.dup, 1) := by decide +kernel
theorem d_CA_operand_102 : decode b_CA_operand 102 = .ok (.getfield 19, 3) := by decide +kernel
theorem d_CA_operand_105 : decode b_CA_operand 105 = .ok (.iconst 1, 1) := by decide +kernel
theorem d_CA_operand_106 : decode b_CA_operand 106 = .ok (.iadd, 1) := by decide +kernel
theorem d_CA_operand_107 : decode b_CA_operand 107 = .ok (.putfield 19, 3) := by decide +kernel
theorem d_CA_operand_110 : decode b_CA_operand 110 = .ok (.iload 4, 2) := by decide +kernel
theorem d_CA_operand_112 : decode b_CA_operand 112 = .ok (.ireturn, 1) := by decide +kernel
theorem d_CA_number_0 : decode b_CA_number 0 = .ok (.iconst 0, 1) := by decide +kernel
theorem d_CA_number_1 : decode b_CA_number 1 = .ok (.istore_n 2, 1) := by decide +kernel
theorem d_CA_number_2 : decode b_CA_number 2 = .ok (.iconst 0, 1) := by decide +kernel
theorem d_CA_number_3 : decode b_CA_number 3 = .ok (.istore_n 3, 1) := by decide +kernel
theorem d_CA_number_4 : decode b_CA_number 4 = .ok (.iload_n 3, 1) := by decide +kernel
theorem d_CA_number_5 : decode b_CA_number 5 = .ok (.iconst 4, 1) := by decide +kernel
theorem d_CA_number_6 : decode b_CA_number 6 = .ok (.if_icmp .ge 50, 3) := by decide +kernel
theorem d_CA_number_9 : decode b_CA_number 9 = .ok (.aload_n 1, 1) := by decide +kernel
theorem d_CA_number_10 : decode b_CA_number 10 = .ok (.aload_n 0, 1) := by decide +kernel
theorem d_CA_number_11 : decode b_CA_number 11 = .ok (.getfield 19, 3) := by decide +kernel
theorem d_CA_number_14 : decode b_CA_number 14 = .ok (.invokevirtual 30, 3) := by decide +kernel
theorem d_CA_number_17 : decode b_CA_number 17 = .ok (.invokestatic 43, 3) := by decide +kernel
theorem d_CA_number_20 : decode b_CA_number 20 = .ok (.ifCond .eq 36, 3) := by decide +kernel
theorem d_CA_number_23 : decode b_CA_number 23 = .ok (.iload_n 2, 1) := by decide +kernel
theorem d_CA_number_24 : decode b_CA_number 24 = .ok (.bipush 10, 2) := by decide +kernel
theorem d_CA_number_26 : decode b_CA_number 26 = .ok (.imul, 1) := by decide +kernel
theorem d_CA_number_27 : decode b_CA_number 27 = .ok (.aload_n 1, 1) := by decide +kernel
theorem d_CA_number_28 : decode b_CA_number 28 = .ok (.aload_n 0, 1) := by decide +kernel
theorem d_CA_number_29 : decode b_CA_number 29 = .ok (.getfield 19, 3) := by decide +kernel
theorem d_CA_number_32 : decode b_CA_number 32 = .ok (.invokevirtual 30, 3) := by decide +kernel
theorem d_CA_number_35 : decode b_CA_number 35 = .ok (.iadd, 1) := by decide +kernel
theorem d_CA_number_36 : decode b_CA_number 36 = .ok (.bipush 48, 2) := by decide +kernel
theorem d_CA_number_38 : decode b_CA_number 38 = .ok (.isub, 1) := by decide +kernel
theorem d_CA_number_39 : decode b_CA_number 39 = .ok (.istore_n 2, 1) := by decide +kernel
theorem d_CA_number_40 : decode b_CA_number 40 = .ok (.aload_n 0, 1) := by decide +kernel
theorem d_CA_number_41 : decode b_CA_number 41 = .ok (.dup, 1) := by decide +kernel
theorem d_CA_number_42 : decode b_CA_number 42 = .ok (.getfield 19, 3) := by decide +kernel
theorem d_CA_number_45 : decode b_CA_number 45 = .ok (.iconst 1, 1) := by decide +kernel
theorem d_CA_number_46 : decode b_CA_number 46 = .ok (.iadd, 1) := by decide +kernel
theorem d_CA_number_47 : decode b_CA_number 47 = .ok (.putfield 19, 3) := by decide +kernel
theorem d_CA_number_50 : decode b_CA_number 50 = .ok (.iinc 3 1, 3) := by decide +kernel
theorem d_CA_number_53 : decode b_CA_number 53 = .ok (.goto (-49), 3) := by decide +kernel
theorem d_CA_number_56 : decode b_CA_number 56 = .ok (.iload_n 2, 1) := by decide +kernel
theorem d_CA_number_57 : decode b_CA_number 57 = .ok (.ireturn, 1) := by decide +kernel
theorem d_MA_init_0 : decode b_MA_init 0 = .ok (.aload_n 0, 1) := by decide +kernel
theorem d_MA_init_1 : decode b_MA_init 1 = .ok (.invokespecial 3, 3) := by decide +kernel
theorem d_MA_init_4 : decode b_MA_init 4 = .ok (.aload_n 0, 1) := by decide +kernel
theorem d_MA_init_5 : decode b_MA_init 5 = .ok (.bipush 26, 2) := by decide +kernel
theorem d_MA_init_7 : decode b_MA_init 7 = .ok (.newarray .int, 2) := by decide +kernel
theorem d_MA_init_9 : decode b_MA_init 9 = .ok (.putfield 9, 3) := by decide +kernel
theorem d_MA_init_12 : decode b_MA_init 12 = .ok (.aload_n 0, 1) := by decide +kernel
theorem d_MA_init_13 : decode b_MA_init 13 = .ok (.bipush 26, 2) := by decide +kernel
theorem d_MA_init_15 : decode b_MA_init 15 = .ok (.newarray .int, 2) := by decide +kernel
theorem d_MA_init_17 : decode b_MA_init 17 = .ok (.putfield 15, 3) := by decide +kernel
theorem d_MA_init_20 : decode b_MA_init 20 = .ok (.aload_n 0, 1) := by decide +kernel
theorem d_MA_init_21 : decode b_MA_init 21 = .ok (.bipush 24, 2) := by decide +kernel
theorem d_MA_init_23 : decode b_MA_init 23 = .ok (.newarray .int, 2) := by decide +kernel
theorem d_MA_init_25 : decode b_MA_init 25 = .ok (.putfield 18, 3) := by decide +kernel
theorem d_MA_init_28 : decode b_MA_init 28 = .ok (.return_, 1) := by decide +kernel
theorem d_MA_isGoing_0 : decode b_MA_isGoing 0 = .ok (.aload_n 0, 1) := by decide +kernel
theorem d_MA_isGoing_1 : decode b_MA_isGoing 1 = .ok (.getfield 21, 3) := by decide +kernel
theorem d_MA_isGoing_4 : decode b_MA_isGoing 4 = .ok (.ifCond .le 7, 3) := by decide +kernel
theorem d_MA_isGoing_7 : decode b_MA_isGoing 7 = .ok (.iconst 1, 1) := by decide +kernel
theorem d_MA_isGoing_8 : decode b_MA_isGoing 8 = .ok (.goto 4, 3) := by decide +kernel
theorem d_MA_isGoing_11 : decode b_MA_isGoing 11 = .ok (.iconst 0, 1) := by decide +kernel
theorem d_MA_isGoing_12 : decode b_MA_isGoing 12 = .ok (.ireturn, 1) := by decide +kernel
theorem d_MA_depth_0 : decode b_MA_depth 0 = .ok (.aload_n 0, 1) := by decide +kernel
theorem d_MA_depth_1 : decode b_MA_depth 1 = .ok (.getfield 21, 3) := by decide +kernel
theorem d_MA_depth_4 : decode b_MA_depth 4 = .ok (.ireturn, 1) := by decide +kernel
theorem d_MA_outputCount_0 : decode b_MA_outputCount 0 = .ok (.aload_n 0, 1) := by decide +kernel
theorem d_MA_outputCount_1 : decode b_MA_outputCount 1 = .ok (.getfield 25, 3) := by decide +kernel
theorem d_MA_outputCount_4 : decode b_MA_outputCount 4 = .ok (.ireturn, 1) := by decide +kernel
theorem d_MA_hasKept_0 : decode b_MA_hasKept 0 = .ok (.iload_n 1, 1) := by decide +kernel
theorem d_MA_hasKept_1 : decode b_MA_hasKept 1 = .ok (.ifCond .lt 21, 3) := by decide +kernel
theorem d_MA_hasKept_4 : decode b_MA_hasKept 4 = .ok (.iload_n 1, 1) := by decide +kernel
theorem d_MA_hasKept_5 : decode b_MA_hasKept 5 = .ok (.bipush 24, 2) := by decide +kernel
theorem d_MA_hasKept_7 : decode b_MA_hasKept 7 = .ok (.if_icmp .ge 15, 3) := by decide +kernel
theorem d_MA_hasKept_10 : decode b_MA_hasKept 10 = .ok (.iload_n 1, 1) := by decide +kernel
theorem d_MA_hasKept_11 : decode b_MA_hasKept 11 = .ok (.aload_n 0, 1) := by decide +kernel
theorem d_MA_hasKept_12 : decode b_MA_hasKept 12 = .ok (.getfield 25, 3) := by decide +kernel
theorem d_MA_hasKept_15 : decode b_MA_hasKept 15 = .ok (.if_icmp .ge 7, 3) := by decide +kernel
theorem d_MA_hasKept_18 : decode b_MA_hasKept 18 = .ok (.iconst 1, 1) := by decide +kernel
theorem d_MA_hasKept_19 : decode b_MA_hasKept 19 = .ok (.goto 4, 3) := by decide +kernel
theorem d_MA_hasKept_22 : decode b_MA_hasKept 22 = .ok (.iconst 0, 1) := by decide +kernel
theorem d_MA_hasKept_23 : decode b_MA_hasKept 23 = .ok (.ireturn, 1) := by decide +kernel
theorem d_MA_kept_0 : decode b_MA_kept 0 = .ok (.aload_n 0, 1) := by decide +kernel
theorem d_MA_kept_1 : decode b_MA_kept 1 = .ok (.iload_n 1, 1) := by decide +kernel
theorem d_MA_kept_2 : decode b_MA_kept 2 = .ok (.invokevirtual 28, 3) := by decide +kernel
theorem d_MA_kept_5 : decode b_MA_kept 5 = .ok (.ifCond .eq 12, 3) := by decide +kernel
theorem d_MA_kept_8 : decode b_MA_kept 8 = .ok (.aload_n 0, 1) := by decide +kernel
theorem d_MA_kept_9 : decode b_MA_kept 9 = .ok (.getfield 18, 3) := by decide +kernel
theorem d_MA_kept_12 : decode b_MA_kept 12 = .ok (.iload_n 1, 1) := by decide +kernel
theorem d_MA_kept_13 : decode b_MA_kept 13 = .ok (.iaload, 1) := by decide +kernel
theorem d_MA_kept_14 : decode b_MA_kept 14 = .ok (.goto 4, 3) := by decide +kernel
theorem d_MA_kept_17 : decode b_MA_kept 17 = .ok (.iconst 0, 1) := by decide +kernel
theorem d_MA_kept_18 : decode b_MA_kept 18 = .ok (.ireturn, 1) := by decide +kernel
theorem d_MA_letterCode_0 : decode b_MA_letterCode 0 = .ok (.aload_n 0, 1) := by decide +kernel
theorem d_MA_letterCode_1 : decode b_MA_letterCode 1 = .ok (.getfield 21, 3) := by decide +kernel
theorem d_MA_letterCode_4 : decode b_MA_letterCode 4 = .ok (.ifCond .le 20, 3) := by decide +kernel
theorem d_MA_letterCode_7 : decode b_MA_letterCode 7 = .ok (.bipush 65, 2) := by decide +kernel
theorem d_MA_letterCode_9 : decode b_MA_letterCode 9 = .ok (.aload_n 0, 1) := by decide +kernel
theorem d_MA_letterCode_10 : decode b_MA_letterCode 10 = .ok (.getfield 9, 3) := by decide +kernel
theorem d_MA_letterCode_13 : decode b_MA_letterCode 13 = .ok (.aload_n 0, 1) := by decide +kernel
theorem d_MA_letterCode_14 : decode b_MA_letterCode 14 = .ok (.getfield 21, 3) := by decide +kernel
theorem d_MA_letterCode_17 : decode b_MA_letterCode 17 = .ok (.iconst 1, 1) := by decide +kernel
theorem d_MA_letterCode_18 : decode b_MA_letterCode 18 = .ok (.isub, 1) := by decide +kernel
theorem d_MA_letterCode_19 : decode b_MA_letterCode 19 = .ok (.iaload, 1) := by decide +kernel
theorem d_MA_letterCode_20 : decode b_MA_letterCode 20 = .ok (.iadd, 1) := by decide +kernel
theorem d_MA_letterCode_21 : decode b_MA_letterCode 21 = .ok (.goto 4, 3) := by decide +kernel
theorem d_MA_letterCode_24 : decode b_MA_letterCode 24 = .ok (.iconst 0, 1) := by decide +kernel
theorem d_MA_letterCode_25 : decode b_MA_letterCode 25 = .ok (.ireturn, 1) := by decide +kernel
theorem d_MA_statementNumber_0 : decode b_MA_statementNumber 0 = .ok (.aload_n 0, 1) := by decide +kernel
theorem d_MA_statementNumber_1 : decode b_MA_statementNumber 1 = .ok (.aload_n 1, 1) := by decide +kernel
theorem d_MA_statementNumber_2 : decode b_MA_statementNumber 2 = .ok (.invokevirtual 32, 3) := by decide +kernel
theorem d_MA_statementNumber_5 : decode b_MA_statementNumber 5 = .ok (.astore_n 2, 1) := by decide +kernel
theorem d_MA_statementNumber_6 : decode b_MA_statementNumber 6 = .ok (.aload_n 2, 1) := by decide +kernel
theorem d_MA_statementNumber_7 : decode b_MA_statementNumber 7 = .ok (.ifnonnull 7, 3) := by decide +kernel
theorem d_MA_statementNumber_10 : decode b_MA_statementNumber 10 = .ok (.iconst 0, 1) := by decide +kernel
theorem d_MA_statementNumber_11 : decode b_MA_statementNumber 11 = .ok (.goto 18, 3) := by decide +kernel
theorem d_MA_statementNumber_14 : decode b_MA_statementNumber 14 = .ok (.aload_n 2, 1) := by decide +kernel
theorem d_MA_statementNumber_15 : decode b_MA_statementNumber 15 = .ok (.aload_n 0, 1) := by decide +kernel
theorem d_MA_statementNumber_16 : decode b_MA_statementNumber 16 = .ok (.getfield 15, 3) := by decide +kernel
theorem d_MA_statementNumber_19 : decode b_MA_statementNumber 19 = .ok (.aload_n 0, 1) := by decide +kernel
theorem d_MA_statementNumber_20 : decode b_MA_statementNumber 20 = .ok (.getfield 21, 3) := by decide +kernel
theorem d_MA_statementNumber_23 : decode b_MA_statementNumber 23 = .ok (.iconst 1, 1) := by decide +kernel
theorem d_MA_statementNumber_24 : decode b_MA_statementNumber 24 = .ok (.isub, 1) := by decide +kernel
theorem d_MA_statementNumber_25 : decode b_MA_statementNumber 25 = .ok (.iaload, 1) := by decide +kernel
theorem d_MA_statementNumber_26 : decode b_MA_statementNumber 26 = .ok (.invokevirtual 36, 3) := by decide +kernel
theorem d_MA_statementNumber_29 : decode b_MA_statementNumber 29 = .ok (.ireturn, 1) := by decide +kernel
theorem d_MA_halt_0 : decode b_MA_halt 0 = .ok (.aload_n 0, 1) := by decide +kernel
theorem d_MA_halt_1 : decode b_MA_halt 1 = .ok (.iconst 0, 1) := by decide +kernel
theorem d_MA_halt_2 : decode b_MA_halt 2 = .ok (.putfield 21, 3) := by decide +kernel
theorem d_MA_halt_5 : decode b_MA_halt 5 = .ok (.return_, 1) := by decide +kernel
theorem d_MA_begin_0 : decode b_MA_begin 0 = .ok (.aload_n 0, 1) := by decide +kernel
theorem d_MA_begin_1 : decode b_MA_begin 1 = .ok (.iconst 0, 1) := by decide +kernel
theorem d_MA_begin_2 : decode b_MA_begin 2 = .ok (.putfield 25, 3) := by decide +kernel
theorem d_MA_begin_5 : decode b_MA_begin 5 = .ok (.aload_n 0, 1) := by decide +kernel
theorem d_MA_begin_6 : decode b_MA_begin 6 = .ok (.iconst 0, 1) := by decide +kernel
theorem d_MA_begin_7 : decode b_MA_begin 7 = .ok (.putfield 21, 3) := by decide +kernel
theorem d_MA_begin_10 : decode b_MA_begin 10 = .ok (.aload_n 0, 1) := by decide +kernel
theorem d_MA_begin_11 : decode b_MA_begin 11 = .ok (.aload_n 1, 1) := by decide +kernel
theorem d_MA_begin_12 : decode b_MA_begin 12 = .ok (.bipush 12, 2) := by decide +kernel
theorem d_MA_begin_14 : decode b_MA_begin 14 = .ok (.invokevirtual 42, 3) := by decide +kernel
theorem d_MA_begin_17 : decode b_MA_begin 17 = .ok (.aload_n 0, 1) := by decide +kernel
theorem d_MA_begin_18 : decode b_MA_begin 18 = .ok (.aload_n 1, 1) := by decide +kernel
theorem d_MA_begin_19 : decode b_MA_begin 19 = .ok (.invokevirtual 46, 3) := by decide +kernel
theorem d_MA_begin_22 : decode b_MA_begin 22 = .ok (.return_, 1) := by decide +kernel
theorem d_MA_step_0 : decode b_MA_step 0 = .ok (.aload_n 0, 1) := by decide +kernel
theorem d_MA_step_1 : decode b_MA_step 1 = .ok (.aload_n 1, 1) := by decide +kernel
theorem d_MA_step_2 : decode b_MA_step 2 = .ok (.invokevirtual 32, 3) := by decide +kernel
theorem d_MA_step_5 : decode b_MA_step 5 = .ok (.astore_n 3, 1) := by decide +kernel
theorem d_MA_step_6 : decode b_MA_step 6 = .ok (.aload_n 3, 1) := by decide +kernel
theorem d_MA_step_7 : decode b_MA_step 7 = .ok (.ifnonnull 4, 3) := by decide +kernel
theorem d_MA_step_10 : decode b_MA_step 10 = .ok (.return_, 1) := by decide +kernel
theorem d_MA_step_11 : decode b_MA_step 11 = .ok (.aload_n 0, 1) := by decide +kernel
theorem d_MA_step_12 : decode b_MA_step 12 = .ok (.getfield 21, 3) := by decide +kernel
theorem d_MA_step_15 : decode b_MA_step 15 = .ok (.iconst 1, 1) := by decide +kernel
theorem d_MA_step_16 : decode b_MA_step 16 = .ok (.isub, 1) := by decide +kernel
theorem d_MA_step_17 : decode b_MA_step 17 = .ok (.istore 4, 2) := by decide +kernel
theorem d_MA_step_19 : decode b_MA_step 19 = .ok (.aload_n 0, 1) := by decide +kernel
theorem d_MA_step_20 : decode b_MA_step 20 = .ok (.getfield 15, 3) := by decide +kernel
theorem d_MA_step_23 : decode b_MA_step 23 = .ok (.iload 4, 2) := by decide +kernel
theorem d_MA_step_25 : decode b_MA_step 25 = .ok (.iaload, 1) := by decide +kernel
theorem d_MA_step_26 : decode b_MA_step 26 = .ok (.istore 5, 2) := by decide +kernel
theorem d_MA_step_28 : decode b_MA_step 28 = .ok (.aload_n 3, 1) := by decide +kernel
theorem d_MA_step_29 : decode b_MA_step 29 = .ok (.iload 5, 2) := by decide +kernel
theorem d_MA_step_31 : decode b_MA_step 31 = .ok (.invokevirtual 50, 3) := by decide +kernel
theorem d_MA_step_34 : decode b_MA_step 34 = .ok (.istore 6, 2) := by decide +kernel
theorem d_MA_step_36 : decode b_MA_step 36 = .ok (.iload 6, 2) := by decide +kernel
theorem d_MA_step_38 : decode b_MA_step 38 = .ok (.invokestatic 53, 3) := by decide +kernel
theorem d_MA_step_41 : decode b_MA_step 41 = .ok (.ifCond .eq 27, 3) := by decide +kernel
theorem d_MA_step_44 : decode b_MA_step 44 = .ok (.aload_n 0, 1) := by decide +kernel
theorem d_MA_step_45 : decode b_MA_step 45 = .ok (.getfield 15, 3) := by decide +kernel
theorem d_MA_step_48 : decode b_MA_step 48 = .ok (.iload 4, 2) := by decide +kernel
theorem d_MA_step_50 : decode b_MA_step 50 = .ok (.iload 5, 2) := by decide +kernel
theorem d_MA_step_52 : decode b_MA_step 52 = .ok (.iconst 2, 1) := by decide +kernel
theorem d_MA_step_53 : decode b_MA_step 53 = .ok (.iadd, 1) := by decide +kernel
theorem d_MA_step_54 : decode b_MA_step 54 = .ok (.iastore, 1) := by decide +kernel
theorem d_MA_step_55 : decode b_MA_step 55 = .ok (.aload_n 0, 1) := by decide +kernel
theorem d_MA_step_56 : decode b_MA_step 56 = .ok (.aload_n 1, 1) := by decide +kernel
theorem d_MA_step_57 : decode b_MA_step 57 = .ok (.iload 6, 2) := by decide +kernel
theorem d_MA_step_59 : decode b_MA_step 59 = .ok (.bipush 65, 2) := by decide +kernel
theorem d_MA_step_61 : decode b_MA_step 61 = .ok (.isub, 1) := by decide +kernel
theorem d_MA_step_62 : decode b_MA_step 62 = .ok (.invokevirtual 42, 3) := by decide +kernel
theorem d_MA_step_65 : decode b_MA_step 65 = .ok (.goto 18, 3) := by decide +kernel
theorem d_MA_step_68 : decode b_MA_step 68 = .ok (.aload_n 0, 1) := by decide +kernel
theorem d_MA_step_69 : decode b_MA_step 69 = .ok (.getfield 15, 3) := by decide +kernel
theorem d_MA_step_72 : decode b_MA_step 72 = .ok (.iload 4, 2) := by decide +kernel
theorem d_MA_step_74 : decode b_MA_step 74 = .ok (.aload_n 0, 1) := by decide +kernel
theorem d_MA_step_75 : decode b_MA_step 75 = .ok (.aload_n 3, 1) := by decide +kernel
theorem d_MA_step_76 : decode b_MA_step 76 = .ok (.iload 5, 2) := by decide +kernel
theorem d_MA_step_78 : decode b_MA_step 78 = .ok (.aload_n 2, 1) := by decide +kernel
theorem d_MA_step_79 : decode b_MA_step 79 = .ok (.invokevirtual 56, 3) := by decide +kernel
theorem d_MA_step_82 : decode b_MA_step 82 = .ok (.iastore, 1) := by decide +kernel
theorem d_MA_step_83 : decode b_MA_step 83 = .ok (.aload_n 0, 1) := by decide +kernel
theorem d_MA_step_84 : decode b_MA_step 84 = .ok (.aload_n 1, 1) := by decide +kernel
theorem d_MA_step_85 : decode b_MA_step 85 = .ok (.invokevirtual 46, 3) := by decide +kernel
theorem d_MA_step_88 : decode b_MA_step 88 = .ok (.return_, 1) := by decide +kernel
theorem d_MA_currentText_0 : decode b_MA_currentText 0 = .ok (.aload_n 0, 1) := by decide +kernel
theorem d_MA_currentText_1 : decode b_MA_currentText 1 = .ok (.getfield 21, 3) := by decide +kernel
theorem d_MA_currentText_4 : decode b_MA_currentText 4 = .ok (.ifCond .le 21, 3) := by decide +kernel
theorem d_MA_currentText_7 : decode b_MA_currentText 7 = .ok (.aload_n 1, 1) := by decide +kernel
theorem d_MA_currentText_8 : decode b_MA_currentText 8 = .ok (.aload_n 0, 1) := by decide +kernel
theorem d_MA_currentText_9 : decode b_MA_currentText 9 = .ok (.getfield 9, 3) := by decide +kernel
theorem d_MA_currentText_12 : decode b_MA_currentText 12 = .ok (.aload_n 0, 1) := by decide +kernel
theorem d_MA_currentText_13 : decode b_MA_currentText 13 = .ok (.getfield 21, 3) := by decide +kernel
theorem d_MA_currentText_16 : decode b_MA_currentText 16 = .ok (.iconst 1, 1) := by decide +kernel
theorem d_MA_currentText_17 : decode b_MA_currentText 17 = .ok (.isub, 1) := by decide +kernel
theorem d_MA_currentText_18 : decode b_MA_currentText 18 = .ok (.iaload, 1) := by decide +kernel
theorem d_MA_currentText_19 : decode b_MA_currentText 19 = .ok (.invokevirtual 60, 3) := by decide +kernel
theorem d_MA_currentText_22 : decode b_MA_currentText 22 = .ok (.goto 4, 3) := by decide +kernel
theorem d_MA_currentText_25 : decode b_MA_currentText 25 = .ok (.aconst_null, 1) := by decide +kernel
theorem d_MA_currentText_26 : decode b_MA_currentText 26 = .ok (.areturn, 1) := by decide +kernel
theorem d_MA_enter_0 : decode b_MA_enter 0 = .ok (.aload_n 1, 1) := by decide +kernel
theorem d_MA_enter_1 : decode b_MA_enter 1 = .ok (.iload_n 2, 1) := by decide +kernel
theorem d_MA_enter_2 : decode b_MA_enter 2 = .ok (.invokevirtual 60, 3) := by decide +kernel
theorem d_MA_enter_5 : decode b_MA_enter 5 = .ok (.astore_n 3, 1) := by decide +kernel
theorem d_MA_enter_6 : decode b_MA_enter 6 = .ok (.aload_n 3, 1) := by decide +kernel
theorem d_MA_enter_7 : decode b_MA_enter 7 = .ok (.ifnull 12, 3) := by decide +kernel
theorem d_MA_enter_10 : decode b_MA_enter 10 = .ok (.aload_n 0, 1) := by decide +kernel
theorem d_MA_enter_11 : decode b_MA_enter 11 = .ok (.getfield 21, 3) := by decide +kernel
theorem d_MA_enter_14 : decode b_MA_enter 14 = .ok (.bipush 26, 2) := by decide +kernel
theorem d_MA_enter_16 : decode b_MA_enter 16 = .ok (.if_icmp .lt 4, 3) := by decide +kernel
theorem d_MA_enter_19 : decode b_MA_enter 19 = .ok (.return_, 1) := by decide +kernel
theorem d_MA_enter_20 : decode b_MA_enter 20 = .ok (.aload_n 0, 1) := by decide +kernel
theorem d_MA_enter_21 : decode b_MA_enter 21 = .ok (.getfield 9, 3) := by decide +kernel
theorem d_MA_enter_24 : decode b_MA_enter 24 = .ok (.aload_n 0, 1) := by decide +kernel
theorem d_MA_enter_25 : decode b_MA_enter 25 = .ok (.getfield 21, 3) := by decide +kernel
theorem d_MA_enter_28 : decode b_MA_enter 28 = .ok (.iload_n 2, 1) := by decide +kernel
theorem d_MA_enter_29 : decode b_MA_enter 29 = .ok (.iastore, 1) := by decide +kernel
theorem d_MA_enter_30 : decode b_MA_enter 30 = .ok (.aload_n 0, 1) := by decide +kernel
theorem d_MA_enter_31 : decode b_MA_enter 31 = .ok (.getfield 15, 3) := by decide +kernel
theorem d_MA_enter_34 : decode b_MA_enter 34 = .ok (.aload_n 0, 1) := by decide +kernel
theorem d_MA_enter_35 : decode b_MA_enter 35 = .ok (.getfield 21, 3) := by decide +kernel
theorem d_MA_enter_38 : decode b_MA_enter 38 = .ok (.aload_n 3, 1) := by decide +kernel
theorem d_MA_enter_39 : decode b_MA_enter 39 = .ok (.iload_n 2, 1) := by decide +kernel
theorem d_MA_enter_40 : decode b_MA_enter 40 = .ok (.invokevirtual 66, 3) := by decide +kernel
theorem d_MA_enter_43 : decode b_MA_enter 43 = .ok (.iastore, 1) := by decide +kernel
theorem d_MA_enter_44 : decode b_MA_enter 44 = .ok (.aload_n 0, 1) := by decide +kernel
theorem d_MA_enter_45 : decode b_MA_enter 45 = .ok (.dup, 1) := by decide +kernel
theorem d_MA_enter_46 : decode b_MA_enter 46 = .ok (.getfield 21, 3) := by decide +kernel
theorem d_MA_enter_49 : decode b_MA_enter 49 = .ok (.iconst 1, 1) := by decide +kernel
theorem d_MA_enter_50 : decode b_MA_enter 50 = .ok (.iadd, 1) := by decide +kernel
theorem d_MA_enter_51 : decode b_MA_enter 51 = .ok (.putfield 21, 3) := by decide +kernel
theorem d_MA_enter_54 : decode b_MA_enter 54 = .ok (.return_, 1) := by decide +kernel
theorem d_MA_placeBehind_0 : decode b_MA_placeBehind 0 = .ok (.aload_n 1, 1) := by decide +kernel
theorem d_MA_placeBehind_1 : decode b_MA_placeBehind 1 = .ok (.iload_n 2, 1) := by decide +kernel
theorem d_MA_placeBehind_2 : decode b_MA_placeBehind 2 = .ok (.invokevirtual 50, 3) := by decide +kernel
theorem d_MA_placeBehind_5 : decode b_MA_placeBehind 5 = .ok (.istore 4, 2) := by decide +kernel
theorem d_MA_placeBehind_7 : decode b_MA_placeBehind 7 = .ok (.iload 4, 2) := by decide +kernel
theorem d_MA_placeBehind_9 : decode b_MA_placeBehind 9 = .ok (.invokestatic 69, 3) := by decide +kernel
theorem d_MA_placeBehind_12 : decode b_MA_placeBehind 12 = .ok (.istore 5, 2) := by decide +kernel
theorem d_MA_placeBehind_14 : decode b_MA_placeBehind 14 = .ok (.aload_n 3, 1) := by decide +kernel
theorem d_MA_placeBehind_15 : decode b_MA_placeBehind 15 = .ok (.aload_n 1, 1) := by decide +kernel
theorem d_MA_placeBehind_16 : decode b_MA_placeBehind 16 = .ok (.iload 5, 2) := by decide +kernel
theorem d_MA_placeBehind_18 : decode b_MA_placeBehind 18 = .ok (.ifCond .eq 9, 3) := by decide +kernel
theorem d_MA_placeBehind_21 : decode b_MA_placeBehind 21 = .ok (.iload_n 2, 1) := by decide +kernel
theorem d_MA_placeBehind_22 : decode b_MA_placeBehind 22 = .ok (.iconst 2, 1) := by decide +kernel
theorem d_MA_placeBehind_23 : decode b_MA_placeBehind 23 = .ok (.iadd, 1) := by decide +kernel
theorem d_MA_placeBehind_24 : decode b_MA_placeBehind 24 = .ok (.goto 6, 3) := by decide +kernel
theorem d_MA_placeBehind_27 : decode b_MA_placeBehind 27 = .ok (.iload_n 2, 1) := by decide +kernel
theorem d_MA_placeBehind_28 : decode b_MA_placeBehind 28 = .ok (.iconst 1, 1) := by decide +kernel
theorem d_MA_placeBehind_29 : decode b_MA_placeBehind 29 = .ok (.iadd, 1) := by decide +kernel
theorem d_MA_placeBehind_30 : decode b_MA_placeBehind 30 = .ok (.invokevirtual 72, 3) := by decide +kernel
theorem d_MA_placeBehind_33 : decode b_MA_placeBehind 33 = .ok (.istore 6, 2) := by decide +kernel
theorem d_MA_placeBehind_35 : decode b_MA_placeBehind 35 = .ok (.aload_n 3, 1) := by decide +kernel
theorem d_MA_placeBehind_36 : decode b_MA_placeBehind 36 = .ok (.invokevirtual 78, 3) := by decide +kernel
theorem d_MA_placeBehind_39 : decode b_MA_placeBehind 39 = .ok (.iconst 1, 1) := by decide +kernel
theorem d_MA_placeBehind_40 : decode b_MA_placeBehind 40 = .ok (.iadd, 1) := by decide +kernel
theorem d_MA_placeBehind_41 : decode b_MA_placeBehind 41 = .ok (.istore 7, 2) := by decide +kernel
theorem d_MA_placeBehind_43 : decode b_MA_placeBehind 43 = .ok (.iload 5, 2) := by decide +kernel
theorem d_MA_placeBehind_45 : decode b_MA_placeBehind 45 = .ok (.ifCond .eq 18, 3) := by decide +kernel
theorem d_MA_placeBehind_48 : decode b_MA_placeBehind 48 = .ok (.aload_n 3, 1) := by decide +kernel
theorem d_MA_placeBehind_49 : decode b_MA_placeBehind 49 = .ok (.iload 4, 2) := by decide +kernel
theorem d_MA_placeBehind_51 : decode b_MA_placeBehind 51 = .ok (.bipush 97, 2) := by decide +kernel
theorem d_MA_placeBehind_53 : decode b_MA_placeBehind 53 = .ok (.isub, 1) := by decide +kernel
theorem d_MA_placeBehind_54 : decode b_MA_placeBehind 54 = .ok (.iload 6, 2) := by decide +kernel
theorem d_MA_placeBehind_56 : decode b_MA_placeBehind 56 = .ok (.invokevirtual 82, 3) := by decide +kernel
theorem d_MA_placeBehind_59 : decode b_MA_placeBehind 59 = .ok (.pop, 1) := by decide +kernel
theorem d_MA_placeBehind_60 : decode b_MA_placeBehind 60 = .ok (.iload 7, 2) := by decide +kernel
theorem d_MA_placeBehind_62 : decode b_MA_placeBehind 62 = .ok (.ireturn, 1) := by decide +kernel
theorem d_MA_placeBehind_63 : decode b_MA_placeBehind 63 = .ok (.iload 4, 2) := by decide +kernel
theorem d_MA_placeBehind_65 : decode b_MA_placeBehind 65 = .ok (.bipush 33, 2) := by decide +kernel
theorem d_MA_placeBehind_67 : decode b_MA_placeBehind 67 = .ok (.if_icmp .ne 12, 3) := by decide +kernel
theorem d_MA_placeBehind_70 : decode b_MA_placeBehind 70 = .ok (.aload_n 0, 1) := by decide +kernel
theorem d_MA_placeBehind_71 : decode b_MA_placeBehind 71 = .ok (.iload 6, 2) := by decide +kernel
theorem d_MA_placeBehind_73 : decode b_MA_placeBehind 73 = .ok (.invokevirtual 86, 3) := by decide +kernel
theorem d_MA_placeBehind_76 : decode b_MA_placeBehind 76 = .ok (.iload 7, 2) := by decide +kernel
theorem d_MA_placeBehind_78 : decode b_MA_placeBehind 78 = .ok (.ireturn, 1) := by decide +kernel
theorem d_MA_placeBehind_79 : decode b_MA_placeBehind 79 = .ok (.iload 6, 2) := by decide +kernel
theorem d_MA_placeBehind_81 : decode b_MA_placeBehind 81 = .ok (.ifCond .eq 8, 3) := by decide +kernel
theorem d_MA_placeBehind_84 : decode b_MA_placeBehind 84 = .ok (.iload 7, 2) := by decide +kernel
theorem d_MA_placeBehind_86 : decode b_MA_placeBehind 86 = .ok (.goto 8, 3) := by decide +kernel
theorem d_MA_placeBehind_89 : decode b_MA_placeBehind 89 = .ok (.aload_n 1, 1) := by decide +kernel
theorem d_MA_placeBehind_90 : decode b_MA_placeBehind 90 = .ok (.iload_n 2, 1) := by decide +kernel
theorem d_MA_placeBehind_91 : decode b_MA_placeBehind 91 = .ok (.invokevirtual 90, 3) := by decide +kernel
theorem d_MA_placeBehind_94 : decode b_MA_placeBehind 94 = .ok (.ireturn, 1) := by decide +kernel
end
section
theorem d_MA_keep_0 : decode b_MA_keep 0 = .ok (.aload_n 0, 1) := by decide +kernel
theorem d_MA_keep_1 : decode b_MA_keep 1 = .ok (.getfield 25, 3) := by decide +kernel
theorem d_MA_keep_4 : decode b_MA_keep 4 = .ok (.bipush 24, 2) := by decide +kernel
theorem d_MA_keep_6 : decode b_MA_keep 6 = .ok (.if_icmp .ge 13, 3) := by decide +kernel
theorem d_MA_keep_9 : decode b_MA_keep 9 = .ok (.aload_n 0, 1) := by decide +kernel
theorem d_MA_keep_10 : decode b_MA_keep 10 = .ok (.getfield 18, 3) := by decide +kernel
theorem d_MA_keep_13 : decode b_MA_keep 13 = .ok (.aload_n 0, 1) := by decide +kernel
theorem d_MA_keep_14 : decode b_MA_keep 14 = .ok (.getfield 25, 3) := by decide +kernel
theorem d_MA_keep_17 : decode b_MA_keep 17 = .ok (.iload_n 1, 1) := by decide +kernel
theorem d_MA_keep_18 : decode b_MA_keep 18 = .ok (.iastore, 1) := by decide +kernel
theorem d_MA_keep_19 : decode b_MA_keep 19 = .ok (.aload_n 0, 1) := by decide +kernel
theorem d_MA_keep_20 : decode b_MA_keep 20 = .ok (.dup, 1) := by decide +kernel
theorem d_MA_keep_21 : decode b_MA_keep 21 = .ok (.getfield 25, 3) := by decide +kernel
theorem d_MA_keep_24 : decode b_MA_keep 24 = .ok (.iconst 1, 1) := by decide +kernel
theorem d_MA_keep_25 : decode b_MA_keep 25 = .ok (.iadd, 1) := by decide +kernel
theorem d_MA_keep_26 : decode b_MA_keep 26 = .ok (.putfield 25, 3) := by decide +kernel
theorem d_MA_keep_29 : decode b_MA_keep 29 = .ok (.return_, 1) := by decide +kernel
theorem d_MA_leaveEndedBlocks_0 : decode b_MA_leaveEndedBlocks 0 = .ok (.iconst 0, 1) := by decide +kernel
theorem d_MA_leaveEndedBlocks_1 : decode b_MA_leaveEndedBlocks 1 = .ok (.istore_n 2, 1) := by decide +kernel
theorem d_MA_leaveEndedBlocks_2 : decode b_MA_leaveEndedBlocks 2 = .ok (.iload_n 2, 1) := by decide +kernel
theorem d_MA_leaveEndedBlocks_3 : decode b_MA_leaveEndedBlocks 3 = .ok (.sipush 156, 3) := by decide +kernel
theorem d_MA_leaveEndedBlocks_6 : decode b_MA_leaveEndedBlocks 6 = .ok (.if_icmp .ge 92, 3) := by decide +kernel
theorem d_MA_leaveEndedBlocks_9 : decode b_MA_leaveEndedBlocks 9 = .ok (.aload_n 0, 1) := by decide +kernel
theorem d_MA_leaveEndedBlocks_10 : decode b_MA_leaveEndedBlocks 10 = .ok (.aload_n 1, 1) := by decide +kernel
theorem d_MA_leaveEndedBlocks_11 : decode b_MA_leaveEndedBlocks 11 = .ok (.invokevirtual 32, 3) := by decide +kernel
theorem d_MA_leaveEndedBlocks_14 : decode b_MA_leaveEndedBlocks 14 = .ok (.astore_n 3, 1) := by decide +kernel
theorem d_MA_leaveEndedBlocks_15 : decode b_MA_leaveEndedBlocks 15 = .ok (.aload_n 3, 1) := by decide +kernel
theorem d_MA_leaveEndedBlocks_16 : decode b_MA_leaveEndedBlocks 16 = .ok (.ifnull 23, 3) := by decide +kernel
theorem d_MA_leaveEndedBlocks_19 : decode b_MA_leaveEndedBlocks 19 = .ok (.aload_n 3, 1) := by decide +kernel
theorem d_MA_leaveEndedBlocks_20 : decode b_MA_leaveEndedBlocks 20 = .ok (.aload_n 0, 1) := by decide +kernel
theorem d_MA_leaveEndedBlocks_21 : decode b_MA_leaveEndedBlocks 21 = .ok (.getfield 15, 3) := by decide +kernel
theorem d_MA_leaveEndedBlocks_24 : decode b_MA_leaveEndedBlocks 24 = .ok (.aload_n 0, 1) := by decide +kernel
theorem d_MA_leaveEndedBlocks_25 : decode b_MA_leaveEndedBlocks 25 = .ok (.getfield 21, 3) := by decide +kernel
theorem d_MA_leaveEndedBlocks_28 : decode b_MA_leaveEndedBlocks 28 = .ok (.iconst 1, 1) := by decide +kernel
theorem d_MA_leaveEndedBlocks_29 : decode b_MA_leaveEndedBlocks 29 = .ok (.isub, 1) := by decide +kernel
theorem d_MA_leaveEndedBlocks_30 : decode b_MA_leaveEndedBlocks 30 = .ok (.iaload, 1) := by decide +kernel
theorem d_MA_leaveEndedBlocks_31 : decode b_MA_leaveEndedBlocks 31 = .ok (.invokevirtual 50, 3) := by decide +kernel
theorem d_MA_leaveEndedBlocks_34 : decode b_MA_leaveEndedBlocks 34 = .ok (.bipush 125, 2) := by decide +kernel
theorem d_MA_leaveEndedBlocks_36 : decode b_MA_leaveEndedBlocks 36 = .ok (.if_icmp .eq 4, 3) := by decide +kernel
theorem d_MA_leaveEndedBlocks_39 : decode b_MA_leaveEndedBlocks 39 = .ok (.return_, 1) := by decide +kernel
theorem d_MA_leaveEndedBlocks_40 : decode b_MA_leaveEndedBlocks 40 = .ok (.aload_n 0, 1) := by decide +kernel
theorem d_MA_leaveEndedBlocks_41 : decode b_MA_leaveEndedBlocks 41 = .ok (.getfield 15, 3) := by decide +kernel
theorem d_MA_leaveEndedBlocks_44 : decode b_MA_leaveEndedBlocks 44 = .ok (.aload_n 0, 1) := by decide +kernel
theorem d_MA_leaveEndedBlocks_45 : decode b_MA_leaveEndedBlocks 45 = .ok (.getfield 21, 3) := by decide +kernel
theorem d_MA_leaveEndedBlocks_48 : decode b_MA_leaveEndedBlocks 48 = .ok (.iconst 1, 1) := by decide +kernel
theorem d_MA_leaveEndedBlocks_49 : decode b_MA_leaveEndedBlocks 49 = .ok (.isub, 1) := by decide +kernel
theorem d_MA_leaveEndedBlocks_50 : decode b_MA_leaveEndedBlocks 50 = .ok (.iaload, 1) := by decide +kernel
theorem d_MA_leaveEndedBlocks_51 : decode b_MA_leaveEndedBlocks 51 = .ok (.istore 4, 2) := by decide +kernel
theorem d_MA_leaveEndedBlocks_53 : decode b_MA_leaveEndedBlocks 53 = .ok (.aload_n 3, 1) := by decide +kernel
theorem d_MA_leaveEndedBlocks_54 : decode b_MA_leaveEndedBlocks 54 = .ok (.iload 4, 2) := by decide +kernel
theorem d_MA_leaveEndedBlocks_56 : decode b_MA_leaveEndedBlocks 56 = .ok (.invokevirtual 93, 3) := by decide +kernel
theorem d_MA_leaveEndedBlocks_59 : decode b_MA_leaveEndedBlocks 59 = .ok (.ifCond .eq 16, 3) := by decide +kernel
theorem d_MA_leaveEndedBlocks_62 : decode b_MA_leaveEndedBlocks 62 = .ok (.aload_n 0, 1) := by decide +kernel
theorem d_MA_leaveEndedBlocks_63 : decode b_MA_leaveEndedBlocks 63 = .ok (.dup, 1) := by decide +kernel
theorem d_MA_leaveEndedBlocks_64 : decode b_MA_leaveEndedBlocks 64 = .ok (.getfield 21, 3) := by decide +kernel
theorem d_MA_leaveEndedBlocks_67 : decode b_MA_leaveEndedBlocks 67 = .ok (.iconst 1, 1) := by decide +kernel
theorem d_MA_leaveEndedBlocks_68 : decode b_MA_leaveEndedBlocks 68 = .ok (.isub, 1) := by decide +kernel
theorem d_MA_leaveEndedBlocks_69 : decode b_MA_leaveEndedBlocks 69 = .ok (.putfield 21, 3) := by decide +kernel
theorem d_MA_leaveEndedBlocks_72 : decode b_MA_leaveEndedBlocks 72 = .ok (.goto 20, 3) := by decide +kernel
theorem d_MA_leaveEndedBlocks_75 : decode b_MA_leaveEndedBlocks 75 = .ok (.aload_n 0, 1) := by decide +kernel
theorem d_MA_leaveEndedBlocks_76 : decode b_MA_leaveEndedBlocks 76 = .ok (.getfield 15, 3) := by decide +kernel
theorem d_MA_leaveEndedBlocks_79 : decode b_MA_leaveEndedBlocks 79 = .ok (.aload_n 0, 1) := by decide +kernel
theorem d_MA_leaveEndedBlocks_80 : decode b_MA_leaveEndedBlocks 80 = .ok (.getfield 21, 3) := by decide +kernel
theorem d_MA_leaveEndedBlocks_83 : decode b_MA_leaveEndedBlocks 83 = .ok (.iconst 1, 1) := by decide +kernel
theorem d_MA_leaveEndedBlocks_84 : decode b_MA_leaveEndedBlocks 84 = .ok (.isub, 1) := by decide +kernel
theorem d_MA_leaveEndedBlocks_85 : decode b_MA_leaveEndedBlocks 85 = .ok (.aload_n 3, 1) := by decide +kernel
theorem d_MA_leaveEndedBlocks_86 : decode b_MA_leaveEndedBlocks 86 = .ok (.iload 4, 2) := by decide +kernel
theorem d_MA_leaveEndedBlocks_88 : decode b_MA_leaveEndedBlocks 88 = .ok (.invokevirtual 96, 3) := by decide +kernel
theorem d_MA_leaveEndedBlocks_91 : decode b_MA_leaveEndedBlocks 91 = .ok (.iastore, 1) := by decide +kernel
theorem d_MA_leaveEndedBlocks_92 : decode b_MA_leaveEndedBlocks 92 = .ok (.iinc 2 1, 3) := by decide +kernel
theorem d_MA_leaveEndedBlocks_95 : decode b_MA_leaveEndedBlocks 95 = .ok (.goto (-93), 3) := by decide +kernel
theorem d_MA_leaveEndedBlocks_98 : decode b_MA_leaveEndedBlocks 98 = .ok (.return_, 1) := by decide +kernel
theorem d_MT_init_0 : decode b_MT_init 0 = .ok (.aload_n 0, 1) := by decide +kernel
theorem d_MT_init_1 : decode b_MT_init 1 = .ok (.invokespecial 3, 3) := by decide +kernel
theorem d_MT_init_4 : decode b_MT_init 4 = .ok (.aload_n 0, 1) := by decide +kernel
theorem d_MT_init_5 : decode b_MT_init 5 = .ok (.bipush 60, 2) := by decide +kernel
theorem d_MT_init_7 : decode b_MT_init 7 = .ok (.newarray .int, 2) := by decide +kernel
theorem d_MT_init_9 : decode b_MT_init 9 = .ok (.putfield 9, 3) := by decide +kernel
theorem d_MT_init_12 : decode b_MT_init 12 = .ok (.aload_n 0, 1) := by decide +kernel
theorem d_MT_init_13 : decode b_MT_init 13 = .ok (.bipush 60, 2) := by decide +kernel
theorem d_MT_init_15 : decode b_MT_init 15 = .ok (.newarray .int, 2) := by decide +kernel
theorem d_MT_init_17 : decode b_MT_init 17 = .ok (.putfield 15, 3) := by decide +kernel
theorem d_MT_init_20 : decode b_MT_init 20 = .ok (.aload_n 0, 1) := by decide +kernel
theorem d_MT_init_21 : decode b_MT_init 21 = .ok (.bipush 60, 2) := by decide +kernel
theorem d_MT_init_23 : decode b_MT_init 23 = .ok (.newarray .int, 2) := by decide +kernel
theorem d_MT_init_25 : decode b_MT_init 25 = .ok (.putfield 18, 3) := by decide +kernel
theorem d_MT_init_28 : decode b_MT_init 28 = .ok (.aload_n 0, 1) := by decide +kernel
theorem d_MT_init_29 : decode b_MT_init 29 = .ok (.bipush 60, 2) := by decide +kernel
theorem d_MT_init_31 : decode b_MT_init 31 = .ok (.newarray .int, 2) := by decide +kernel
theorem d_MT_init_33 : decode b_MT_init 33 = .ok (.putfield 21, 3) := by decide +kernel
theorem d_MT_init_36 : decode b_MT_init 36 = .ok (.aload_n 0, 1) := by decide +kernel
theorem d_MT_init_37 : decode b_MT_init 37 = .ok (.bipush 26, 2) := by decide +kernel
theorem d_MT_init_39 : decode b_MT_init 39 = .ok (.newarray .int, 2) := by decide +kernel
theorem d_MT_init_41 : decode b_MT_init 41 = .ok (.putfield 24, 3) := by decide +kernel
theorem d_MT_init_44 : decode b_MT_init 44 = .ok (.aload_n 0, 1) := by decide +kernel
theorem d_MT_init_45 : decode b_MT_init 45 = .ok (.bipush 26, 2) := by decide +kernel
theorem d_MT_init_47 : decode b_MT_init 47 = .ok (.newarray .int, 2) := by decide +kernel
theorem d_MT_init_49 : decode b_MT_init 49 = .ok (.putfield 27, 3) := by decide +kernel
theorem d_MT_init_52 : decode b_MT_init 52 = .ok (.aload_n 0, 1) := by decide +kernel
theorem d_MT_init_53 : decode b_MT_init 53 = .ok (.iconst 1, 1) := by decide +kernel
theorem d_MT_init_54 : decode b_MT_init 54 = .ok (.putfield 30, 3) := by decide +kernel
theorem d_MT_init_57 : decode b_MT_init 57 = .ok (.return_, 1) := by decide +kernel
theorem d_MT_append_0 : decode b_MT_append 0 = .ok (.aload_n 0, 1) := by decide +kernel
theorem d_MT_append_1 : decode b_MT_append 1 = .ok (.getfield 34, 3) := by decide +kernel
theorem d_MT_append_4 : decode b_MT_append 4 = .ok (.bipush 60, 2) := by decide +kernel
theorem d_MT_append_6 : decode b_MT_append 6 = .ok (.if_icmp .lt 5, 3) := by decide +kernel
theorem d_MT_append_9 : decode b_MT_append 9 = .ok (.iconst 0, 1) := by decide +kernel
theorem d_MT_append_10 : decode b_MT_append 10 = .ok (.ireturn, 1) := by decide +kernel
theorem d_MT_append_11 : decode b_MT_append 11 = .ok (.aload_n 0, 1) := by decide +kernel
theorem d_MT_append_12 : decode b_MT_append 12 = .ok (.getfield 9, 3) := by decide +kernel
theorem d_MT_append_15 : decode b_MT_append 15 = .ok (.aload_n 0, 1) := by decide +kernel
theorem d_MT_append_16 : decode b_MT_append 16 = .ok (.getfield 34, 3) := by decide +kernel
theorem d_MT_append_19 : decode b_MT_append 19 = .ok (.iload_n 1, 1) := by decide +kernel
theorem d_MT_append_20 : decode b_MT_append 20 = .ok (.iastore, 1) := by decide +kernel
theorem d_MT_append_21 : decode b_MT_append 21 = .ok (.aload_n 0, 1) := by decide +kernel
theorem d_MT_append_22 : decode b_MT_append 22 = .ok (.dup, 1) := by decide +kernel
theorem d_MT_append_23 : decode b_MT_append 23 = .ok (.getfield 34, 3) := by decide +kernel
theorem d_MT_append_26 : decode b_MT_append 26 = .ok (.iconst 1, 1) := by decide +kernel
theorem d_MT_append_27 : decode b_MT_append 27 = .ok (.iadd, 1) := by decide +kernel
theorem d_MT_append_28 : decode b_MT_append 28 = .ok (.putfield 34, 3) := by decide +kernel
theorem d_MT_append_31 : decode b_MT_append 31 = .ok (.aload_n 0, 1) := by decide +kernel
theorem d_MT_append_32 : decode b_MT_append 32 = .ok (.iconst 0, 1) := by decide +kernel
theorem d_MT_append_33 : decode b_MT_append 33 = .ok (.putfield 30, 3) := by decide +kernel
theorem d_MT_append_36 : decode b_MT_append 36 = .ok (.iconst 1, 1) := by decide +kernel
theorem d_MT_append_37 : decode b_MT_append 37 = .ok (.ireturn, 1) := by decide +kernel
theorem d_MT_empty_0 : decode b_MT_empty 0 = .ok (.aload_n 0, 1) := by decide +kernel
theorem d_MT_empty_1 : decode b_MT_empty 1 = .ok (.iconst 0, 1) := by decide +kernel
theorem d_MT_empty_2 : decode b_MT_empty 2 = .ok (.putfield 34, 3) := by decide +kernel
theorem d_MT_empty_5 : decode b_MT_empty 5 = .ok (.aload_n 0, 1) := by decide +kernel
theorem d_MT_empty_6 : decode b_MT_empty 6 = .ok (.invokevirtual 38, 3) := by decide +kernel
theorem d_MT_empty_9 : decode b_MT_empty 9 = .ok (.aload_n 0, 1) := by decide +kernel
theorem d_MT_empty_10 : decode b_MT_empty 10 = .ok (.iconst 1, 1) := by decide +kernel
theorem d_MT_empty_11 : decode b_MT_empty 11 = .ok (.putfield 30, 3) := by decide +kernel
theorem d_MT_empty_14 : decode b_MT_empty 14 = .ok (.return_, 1) := by decide +kernel
theorem d_MT_forget_0 : decode b_MT_forget 0 = .ok (.aload_n 0, 1) := by decide +kernel
theorem d_MT_forget_1 : decode b_MT_forget 1 = .ok (.iconst 0, 1) := by decide +kernel
theorem d_MT_forget_2 : decode b_MT_forget 2 = .ok (.putfield 41, 3) := by decide +kernel
theorem d_MT_forget_5 : decode b_MT_forget 5 = .ok (.aload_n 0, 1) := by decide +kernel
theorem d_MT_forget_6 : decode b_MT_forget 6 = .ok (.iconst 0, 1) := by decide +kernel
theorem d_MT_forget_7 : decode b_MT_forget 7 = .ok (.putfield 44, 3) := by decide +kernel
theorem d_MT_forget_10 : decode b_MT_forget 10 = .ok (.return_, 1) := by decide +kernel
theorem d_MT_mark_0 : decode b_MT_mark 0 = .ok (.aload_n 0, 1) := by decide +kernel
theorem d_MT_mark_1 : decode b_MT_mark 1 = .ok (.iload_n 1, 1) := by decide +kernel
theorem d_MT_mark_2 : decode b_MT_mark 2 = .ok (.putfield 30, 3) := by decide +kernel
theorem d_MT_mark_5 : decode b_MT_mark 5 = .ok (.return_, 1) := by decide +kernel
theorem d_MT_addProcedure_0 : decode b_MT_addProcedure 0 = .ok (.iload_n 1, 1) := by decide +kernel
theorem d_MT_addProcedure_1 : decode b_MT_addProcedure 1 = .ok (.invokestatic 47, 3) := by decide +kernel
theorem d_MT_addProcedure_4 : decode b_MT_addProcedure 4 = .ok (.ifCond .ne 4, 3) := by decide +kernel
theorem d_MT_addProcedure_7 : decode b_MT_addProcedure 7 = .ok (.return_, 1) := by decide +kernel
theorem d_MT_addProcedure_8 : decode b_MT_addProcedure 8 = .ok (.aload_n 0, 1) := by decide +kernel
theorem d_MT_addProcedure_9 : decode b_MT_addProcedure 9 = .ok (.aload_n 0, 1) := by decide +kernel
theorem d_MT_addProcedure_10 : decode b_MT_addProcedure 10 = .ok (.getfield 44, 3) := by decide +kernel
theorem d_MT_addProcedure_13 : decode b_MT_addProcedure 13 = .ok (.ifCond .ne 14, 3) := by decide +kernel
theorem d_MT_addProcedure_16 : decode b_MT_addProcedure 16 = .ok (.aload_n 0, 1) := by decide +kernel
theorem d_MT_addProcedure_17 : decode b_MT_addProcedure 17 = .ok (.getfield 41, 3) := by decide +kernel
theorem d_MT_addProcedure_20 : decode b_MT_addProcedure 20 = .ok (.iload_n 1, 1) := by decide +kernel
theorem d_MT_addProcedure_21 : decode b_MT_addProcedure 21 = .ok (.invokestatic 51, 3) := by decide +kernel
theorem d_MT_addProcedure_24 : decode b_MT_addProcedure 24 = .ok (.ifCond .eq 7, 3) := by decide +kernel
theorem d_MT_addProcedure_27 : decode b_MT_addProcedure 27 = .ok (.iconst 1, 1) := by decide +kernel
theorem d_MT_addProcedure_28 : decode b_MT_addProcedure 28 = .ok (.goto 4, 3) := by decide +kernel
theorem d_MT_addProcedure_31 : decode b_MT_addProcedure 31 = .ok (.iconst 0, 1) := by decide +kernel
theorem d_MT_addProcedure_32 : decode b_MT_addProcedure 32 = .ok (.putfield 44, 3) := by decide +kernel
theorem d_MT_addProcedure_35 : decode b_MT_addProcedure 35 = .ok (.aload_n 0, 1) := by decide +kernel
theorem d_MT_addProcedure_36 : decode b_MT_addProcedure 36 = .ok (.dup, 1) := by decide +kernel
theorem d_MT_addProcedure_37 : decode b_MT_addProcedure 37 = .ok (.getfield 41, 3) := by decide +kernel
theorem d_MT_addProcedure_40 : decode b_MT_addProcedure 40 = .ok (.iconst 1, 1) := by decide +kernel
theorem d_MT_addProcedure_41 : decode b_MT_addProcedure 41 = .ok (.iload_n 1, 1) := by decide +kernel
theorem d_MT_addProcedure_42 : decode b_MT_addProcedure 42 = .ok (.ishl, 1) := by decide +kernel
theorem d_MT_addProcedure_43 : decode b_MT_addProcedure 43 = .ok (.ior, 1) := by decide +kernel
theorem d_MT_addProcedure_44 : decode b_MT_addProcedure 44 = .ok (.putfield 41, 3) := by decide +kernel
theorem d_MT_addProcedure_47 : decode b_MT_addProcedure 47 = .ok (.aload_n 0, 1) := by decide +kernel
theorem d_MT_addProcedure_48 : decode b_MT_addProcedure 48 = .ok (.getfield 24, 3) := by decide +kernel
theorem d_MT_addProcedure_51 : decode b_MT_addProcedure 51 = .ok (.iload_n 1, 1) := by decide +kernel
theorem d_MT_addProcedure_52 : decode b_MT_addProcedure 52 = .ok (.iload_n 2, 1) := by decide +kernel
theorem d_MT_addProcedure_53 : decode b_MT_addProcedure 53 = .ok (.iastore, 1) := by decide +kernel
theorem d_MT_addProcedure_54 : decode b_MT_addProcedure 54 = .ok (.aload_n 0, 1) := by decide +kernel
theorem d_MT_addProcedure_55 : decode b_MT_addProcedure 55 = .ok (.getfield 27, 3) := by decide +kernel
theorem d_MT_addProcedure_58 : decode b_MT_addProcedure 58 = .ok (.iload_n 1, 1) := by decide +kernel
theorem d_MT_addProcedure_59 : decode b_MT_addProcedure 59 = .ok (.iconst 0, 1) := by decide +kernel
theorem d_MT_addProcedure_60 : decode b_MT_addProcedure 60 = .ok (.iastore, 1) := by decide +kernel
theorem d_MT_addProcedure_61 : decode b_MT_addProcedure 61 = .ok (.return_, 1) := by decide +kernel
theorem d_MT_addCall_0 : decode b_MT_addCall 0 = .ok (.iload_n 1, 1) := by decide +kernel
theorem d_MT_addCall_1 : decode b_MT_addCall 1 = .ok (.invokestatic 47, 3) := by decide +kernel
theorem d_MT_addCall_4 : decode b_MT_addCall 4 = .ok (.ifCond .eq 22, 3) := by decide +kernel
theorem d_MT_addCall_7 : decode b_MT_addCall 7 = .ok (.iload_n 2, 1) := by decide +kernel
theorem d_MT_addCall_8 : decode b_MT_addCall 8 = .ok (.invokestatic 47, 3) := by decide +kernel
theorem d_MT_addCall_11 : decode b_MT_addCall 11 = .ok (.ifCond .eq 15, 3) := by decide +kernel
theorem d_MT_addCall_14 : decode b_MT_addCall 14 = .ok (.aload_n 0, 1) := by decide +kernel
theorem d_MT_addCall_15 : decode b_MT_addCall 15 = .ok (.getfield 27, 3) := by decide +kernel
theorem d_MT_addCall_18 : decode b_MT_addCall 18 = .ok (.iload_n 1, 1) := by decide +kernel
theorem d_MT_addCall_19 : decode b_MT_addCall 19 = .ok (.dup2, 1) := by decide +kernel
theorem d_MT_addCall_20 : decode b_MT_addCall 20 = .ok (.iaload, 1) := by decide +kernel
theorem d_MT_addCall_21 : decode b_MT_addCall 21 = .ok (.iconst 1, 1) := by decide +kernel
theorem d_MT_addCall_22 : decode b_MT_addCall 22 = .ok (.iload_n 2, 1) := by decide +kernel
theorem d_MT_addCall_23 : decode b_MT_addCall 23 = .ok (.ishl, 1) := by decide +kernel
theorem d_MT_addCall_24 : decode b_MT_addCall 24 = .ok (.ior, 1) := by decide +kernel
theorem d_MT_addCall_25 : decode b_MT_addCall 25 = .ok (.iastore, 1) := by decide +kernel
theorem d_MT_addCall_26 : decode b_MT_addCall 26 = .ok (.return_, 1) := by decide +kernel
theorem d_MT_addStatement_0 : decode b_MT_addStatement 0 = .ok (.aload_n 0, 1) := by decide +kernel
theorem d_MT_addStatement_1 : decode b_MT_addStatement 1 = .ok (.iload_n 1, 1) := by decide +kernel
theorem d_MT_addStatement_2 : decode b_MT_addStatement 2 = .ok (.invokevirtual 55, 3) := by decide +kernel
theorem d_MT_addStatement_5 : decode b_MT_addStatement 5 = .ok (.ifCond .eq 10, 3) := by decide +kernel
theorem d_MT_addStatement_8 : decode b_MT_addStatement 8 = .ok (.aload_n 0, 1) := by decide +kernel
theorem d_MT_addStatement_9 : decode b_MT_addStatement 9 = .ok (.getfield 15, 3) := by decide +kernel
theorem d_MT_addStatement_12 : decode b_MT_addStatement 12 = .ok (.iload_n 1, 1) := by decide +kernel
theorem d_MT_addStatement_13 : decode b_MT_addStatement 13 = .ok (.iload_n 2, 1) := by decide +kernel
theorem d_MT_addStatement_14 : decode b_MT_addStatement 14 = .ok (.iastore, 1) := by decide +kernel
theorem d_MT_addStatement_15 : decode b_MT_addStatement 15 = .ok (.return_, 1) := by decide +kernel
theorem d_MT_addBlock_0 : decode b_MT_addBlock 0 = .ok (.aload_n 0, 1) := by decide +kernel
theorem d_MT_addBlock_1 : decode b_MT_addBlock 1 = .ok (.iload_n 1, 1) := by decide +kernel
theorem d_MT_addBlock_2 : decode b_MT_addBlock 2 = .ok (.invokevirtual 55, 3) := by decide +kernel
theorem d_MT_addBlock_5 : decode b_MT_addBlock 5 = .ok (.ifCond .eq 25, 3) := by decide +kernel
theorem d_MT_addBlock_8 : decode b_MT_addBlock 8 = .ok (.aload_n 0, 1) := by decide +kernel
theorem d_MT_addBlock_9 : decode b_MT_addBlock 9 = .ok (.iload_n 2, 1) := by decide +kernel
theorem d_MT_addBlock_10 : decode b_MT_addBlock 10 = .ok (.invokevirtual 55, 3) := by decide +kernel
theorem d_MT_addBlock_13 : decode b_MT_addBlock 13 = .ok (.ifCond .eq 17, 3) := by decide +kernel
theorem d_MT_addBlock_16 : decode b_MT_addBlock 16 = .ok (.aload_n 0, 1) := by decide +kernel
theorem d_MT_addBlock_17 : decode b_MT_addBlock 17 = .ok (.getfield 18, 3) := by decide +kernel
theorem d_MT_addBlock_20 : decode b_MT_addBlock 20 = .ok (.iload_n 2, 1) := by decide +kernel
theorem d_MT_addBlock_21 : decode b_MT_addBlock 21 = .ok (.iload_n 1, 1) := by decide +kernel
theorem d_MT_addBlock_22 : decode b_MT_addBlock 22 = .ok (.iastore, 1) := by decide +kernel
theorem d_MT_addBlock_23 : decode b_MT_addBlock 23 = .ok (.aload_n 0, 1) := by decide +kernel
theorem d_MT_addBlock_24 : decode b_MT_addBlock 24 = .ok (.getfield 21, 3) := by decide +kernel
theorem d_MT_addBlock_27 : decode b_MT_addBlock 27 = .ok (.iload_n 1, 1) := by decide +kernel
theorem d_MT_addBlock_28 : decode b_MT_addBlock 28 = .ok (.iload_n 2, 1) := by decide +kernel
theorem d_MT_addBlock_29 : decode b_MT_addBlock 29 = .ok (.iastore, 1) := by decide +kernel
theorem d_MT_addBlock_30 : decode b_MT_addBlock 30 = .ok (.return_, 1) := by decide +kernel
theorem d_MT_length_0 : decode b_MT_length 0 = .ok (.aload_n 0, 1) := by decide +kernel
theorem d_MT_length_1 : decode b_MT_length 1 = .ok (.getfield 34, 3) := by decide +kernel
theorem d_MT_length_4 : decode b_MT_length 4 = .ok (.ireturn, 1) := by decide +kernel
theorem d_MT_defined_0 : decode b_MT_defined 0 = .ok (.aload_n 0, 1) := by decide +kernel
theorem d_MT_defined_1 : decode b_MT_defined 1 = .ok (.getfield 41, 3) := by decide +kernel
theorem d_MT_defined_4 : decode b_MT_defined 4 = .ok (.ireturn, 1) := by decide +kernel
theorem d_MT_hasTwins_0 : decode b_MT_hasTwins 0 = .ok (.aload_n 0, 1) := by decide +kernel
theorem d_MT_hasTwins_1 : decode b_MT_hasTwins 1 = .ok (.getfield 44, 3) := by decide +kernel
theorem d_MT_hasTwins_4 : decode b_MT_hasTwins 4 = .ok (.ireturn, 1) := by decide +kernel
theorem d_MT_isCompiled_0 : decode b_MT_isCompiled 0 = .ok (.aload_n 0, 1) := by decide +kernel
theorem d_MT_isCompiled_1 : decode b_MT_isCompiled 1 = .ok (.getfield 30, 3) := by decide +kernel
theorem d_MT_isCompiled_4 : decode b_MT_isCompiled 4 = .ok (.ireturn, 1) := by decide +kernel
theorem d_MT_signAt_0 : decode b_MT_signAt 0 = .ok (.iload_n 1, 1) := by decide +kernel
theorem d_MT_signAt_1 : decode b_MT_signAt 1 = .ok (.ifCond .lt 20, 3) := by decide +kernel
theorem d_MT_signAt_4 : decode b_MT_signAt 4 = .ok (.iload_n 1, 1) := by decide +kernel
theorem d_MT_signAt_5 : decode b_MT_signAt 5 = .ok (.aload_n 0, 1) := by decide +kernel
theorem d_MT_signAt_6 : decode b_MT_signAt 6 = .ok (.getfield 34, 3) := by decide +kernel
theorem d_MT_signAt_9 : decode b_MT_signAt 9 = .ok (.if_icmp .ge 12, 3) := by decide +kernel
theorem d_MT_signAt_12 : decode b_MT_signAt 12 = .ok (.aload_n 0, 1) := by decide +kernel
theorem d_MT_signAt_13 : decode b_MT_signAt 13 = .ok (.getfield 9, 3) := by decide +kernel
theorem d_MT_signAt_16 : decode b_MT_signAt 16 = .ok (.iload_n 1, 1) := by decide +kernel
theorem d_MT_signAt_17 : decode b_MT_signAt 17 = .ok (.iaload, 1) := by decide +kernel
theorem d_MT_signAt_18 : decode b_MT_signAt 18 = .ok (.goto 4, 3) := by decide +kernel
theorem d_MT_signAt_21 : decode b_MT_signAt 21 = .ok (.iconst 0, 1) := by decide +kernel
theorem d_MT_signAt_22 : decode b_MT_signAt 22 = .ok (.ireturn, 1) := by decide +kernel
theorem d_MT_numberAt_0 : decode b_MT_numberAt 0 = .ok (.aload_n 0, 1) := by decide +kernel
theorem d_MT_numberAt_1 : decode b_MT_numberAt 1 = .ok (.iload_n 1, 1) := by decide +kernel
theorem d_MT_numberAt_2 : decode b_MT_numberAt 2 = .ok (.invokevirtual 55, 3) := by decide +kernel
theorem d_MT_numberAt_5 : decode b_MT_numberAt 5 = .ok (.ifCond .eq 12, 3) := by decide +kernel
theorem d_MT_numberAt_8 : decode b_MT_numberAt 8 = .ok (.aload_n 0, 1) := by decide +kernel
theorem d_MT_numberAt_9 : decode b_MT_numberAt 9 = .ok (.getfield 15, 3) := by decide +kernel
theorem d_MT_numberAt_12 : decode b_MT_numberAt 12 = .ok (.iload_n 1, 1) := by decide +kernel
theorem d_MT_numberAt_13 : decode b_MT_numberAt 13 = .ok (.iaload, 1) := by decide +kernel
theorem d_MT_numberAt_14 : decode b_MT_numberAt 14 = .ok (.goto 4, 3) := by decide +kernel
theorem d_MT_numberAt_17 : decode b_MT_numberAt 17 = .ok (.iconst 0, 1) := by decide +kernel
theorem d_MT_numberAt_18 : decode b_MT_numberAt 18 = .ok (.ireturn, 1) := by decide +kernel
theorem d_MT_callsOf_0 : decode b_MT_callsOf 0 = .ok (.iload_n 1, 1) := by decide +kernel
theorem d_MT_callsOf_1 : decode b_MT_callsOf 1 = .ok (.invokestatic 47, 3) := by decide +kernel
theorem d_MT_callsOf_4 : decode b_MT_callsOf 4 = .ok (.ifCond .eq 12, 3) := by decide +kernel
theorem d_MT_callsOf_7 : decode b_MT_callsOf 7 = .ok (.aload_n 0, 1) := by decide +kernel
theorem d_MT_callsOf_8 : decode b_MT_callsOf 8 = .ok (.getfield 27, 3) := by decide +kernel
theorem d_MT_callsOf_11 : decode b_MT_callsOf 11 = .ok (.iload_n 1, 1) := by decide +kernel
theorem d_MT_callsOf_12 : decode b_MT_callsOf 12 = .ok (.iaload, 1) := by decide +kernel
theorem d_MT_callsOf_13 : decode b_MT_callsOf 13 = .ok (.goto 4, 3) := by decide +kernel
theorem d_MT_callsOf_16 : decode b_MT_callsOf 16 = .ok (.iconst 0, 1) := by decide +kernel
theorem d_MT_callsOf_17 : decode b_MT_callsOf 17 = .ok (.ireturn, 1) := by decide +kernel
theorem d_MT_firstPlaceOf_0 : decode b_MT_firstPlaceOf 0 = .ok (.iload_n 1, 1) := by decide +kernel
theorem d_MT_firstPlaceOf_1 : decode b_MT_firstPlaceOf 1 = .ok (.invokestatic 47, 3) := by decide +kernel
theorem d_MT_firstPlaceOf_4 : decode b_MT_firstPlaceOf 4 = .ok (.ifCond .eq 14, 3) := by decide +kernel
theorem d_MT_firstPlaceOf_7 : decode b_MT_firstPlaceOf 7 = .ok (.aload_n 0, 1) := by decide +kernel
theorem d_MT_firstPlaceOf_8 : decode b_MT_firstPlaceOf 8 = .ok (.getfield 24, 3) := by decide +kernel
theorem d_MT_firstPlaceOf_11 : decode b_MT_firstPlaceOf 11 = .ok (.iload_n 1, 1) := by decide +kernel
theorem d_MT_firstPlaceOf_12 : decode b_MT_firstPlaceOf 12 = .ok (.iaload, 1) := by decide +kernel
theorem d_MT_firstPlaceOf_13 : decode b_MT_firstPlaceOf 13 = .ok (.iconst 2, 1) := by decide +kernel
theorem d_MT_firstPlaceOf_14 : decode b_MT_firstPlaceOf 14 = .ok (.iadd, 1) := by decide +kernel
theorem d_MT_firstPlaceOf_15 : decode b_MT_firstPlaceOf 15 = .ok (.goto 4, 3) := by decide +kernel
theorem d_MT_firstPlaceOf_18 : decode b_MT_firstPlaceOf 18 = .ok (.iconst 0, 1) := by decide +kernel
theorem d_MT_firstPlaceOf_19 : decode b_MT_firstPlaceOf 19 = .ok (.ireturn, 1) := by decide +kernel
theorem d_MT_endsProcedure_0 : decode b_MT_endsProcedure 0 = .ok (.aload_n 0, 1) := by decide +kernel
theorem d_MT_endsProcedure_1 : decode b_MT_endsProcedure 1 = .ok (.iload_n 1, 1) := by decide +kernel
theorem d_MT_endsProcedure_2 : decode b_MT_endsProcedure 2 = .ok (.invokevirtual 55, 3) := by decide +kernel
theorem d_MT_endsProcedure_5 : decode b_MT_endsProcedure 5 = .ok (.ifCond .eq 23, 3) := by decide +kernel
theorem d_MT_endsProcedure_8 : decode b_MT_endsProcedure 8 = .ok (.aload_n 0, 1) := by decide +kernel
theorem d_MT_endsProcedure_9 : decode b_MT_endsProcedure 9 = .ok (.aload_n 0, 1) := by decide +kernel
theorem d_MT_endsProcedure_10 : decode b_MT_endsProcedure 10 = .ok (.getfield 18, 3) := by decide +kernel
theorem d_MT_endsProcedure_13 : decode b_MT_endsProcedure 13 = .ok (.iload_n 1, 1) := by decide +kernel
theorem d_MT_endsProcedure_14 : decode b_MT_endsProcedure 14 = .ok (.iaload, 1) := by decide +kernel
theorem d_MT_endsProcedure_15 : decode b_MT_endsProcedure 15 = .ok (.invokevirtual 58, 3) := by decide +kernel
theorem d_MT_endsProcedure_18 : decode b_MT_endsProcedure 18 = .ok (.invokestatic 62, 3) := by decide +kernel
theorem d_MT_endsProcedure_21 : decode b_MT_endsProcedure 21 = .ok (.ifCond .eq 7, 3) := by decide +kernel
theorem d_MT_endsProcedure_24 : decode b_MT_endsProcedure 24 = .ok (.iconst 1, 1) := by decide +kernel
theorem d_MT_endsProcedure_25 : decode b_MT_endsProcedure 25 = .ok (.goto 4, 3) := by decide +kernel
theorem d_MT_endsProcedure_28 : decode b_MT_endsProcedure 28 = .ok (.iconst 0, 1) := by decide +kernel
theorem d_MT_endsProcedure_29 : decode b_MT_endsProcedure 29 = .ok (.ireturn, 1) := by decide +kernel
theorem d_MT_behindBlock_0 : decode b_MT_behindBlock 0 = .ok (.aload_n 0, 1) := by decide +kernel
theorem d_MT_behindBlock_1 : decode b_MT_behindBlock 1 = .ok (.iload_n 1, 1) := by decide +kernel
theorem d_MT_behindBlock_2 : decode b_MT_behindBlock 2 = .ok (.invokevirtual 55, 3) := by decide +kernel
theorem d_MT_behindBlock_5 : decode b_MT_behindBlock 5 = .ok (.ifCond .ne 5, 3) := by decide +kernel
theorem d_MT_behindBlock_8 : decode b_MT_behindBlock 8 = .ok (.iload_n 1, 1) := by decide +kernel
theorem d_MT_behindBlock_9 : decode b_MT_behindBlock 9 = .ok (.ireturn, 1) := by decide +kernel
theorem d_MT_behindBlock_10 : decode b_MT_behindBlock 10 = .ok (.aload_n 0, 1) := by decide +kernel
theorem d_MT_behindBlock_11 : decode b_MT_behindBlock 11 = .ok (.aload_n 0, 1) := by decide +kernel
theorem d_MT_behindBlock_12 : decode b_MT_behindBlock 12 = .ok (.getfield 18, 3) := by decide +kernel
theorem d_MT_behindBlock_15 : decode b_MT_behindBlock 15 = .ok (.iload_n 1, 1) := by decide +kernel
theorem d_MT_behindBlock_16 : decode b_MT_behindBlock 16 = .ok (.iaload, 1) := by decide +kernel
theorem d_MT_behindBlock_17 : decode b_MT_behindBlock 17 = .ok (.invokevirtual 58, 3) := by decide +kernel
theorem d_MT_behindBlock_20 : decode b_MT_behindBlock 20 = .ok (.bipush 64, 2) := by decide +kernel
theorem d_MT_behindBlock_22 : decode b_MT_behindBlock 22 = .ok (.if_icmp .ne 10, 3) := by decide +kernel
theorem d_MT_behindBlock_25 : decode b_MT_behindBlock 25 = .ok (.aload_n 0, 1) := by decide +kernel
theorem d_MT_behindBlock_26 : decode b_MT_behindBlock 26 = .ok (.getfield 18, 3) := by decide +kernel
theorem d_MT_behindBlock_29 : decode b_MT_behindBlock 29 = .ok (.iload_n 1, 1) := by decide +kernel
theorem d_MT_behindBlock_30 : decode b_MT_behindBlock 30 = .ok (.iaload, 1) := by decide +kernel
theorem d_MT_behindBlock_31 : decode b_MT_behindBlock 31 = .ok (.ireturn, 1) := by decide +kernel
theorem d_MT_behindBlock_32 : decode b_MT_behindBlock 32 = .ok (.iload_n 1, 1) := by decide +kernel
theorem d_MT_behindBlock_33 : decode b_MT_behindBlock 33 = .ok (.iconst 1, 1) := by decide +kernel
theorem d_MT_behindBlock_34 : decode b_MT_behindBlock 34 = .ok (.iadd, 1) := by decide +kernel
theorem d_MT_behindBlock_35 : decode b_MT_behindBlock 35 = .ok (.istore_n 2, 1) := by decide +kernel
theorem d_MT_behindBlock_36 : decode b_MT_behindBlock 36 = .ok (.aload_n 0, 1) := by decide +kernel
theorem d_MT_behindBlock_37 : decode b_MT_behindBlock 37 = .ok (.iload_n 2, 1) := by decide +kernel
theorem d_MT_behindBlock_38 : decode b_MT_behindBlock 38 = .ok (.invokevirtual 58, 3) := by decide +kernel
theorem d_MT_behindBlock_41 : decode b_MT_behindBlock 41 = .ok (.bipush 58, 2) := by decide +kernel
theorem d_MT_behindBlock_43 : decode b_MT_behindBlock 43 = .ok (.if_icmp .ne 11, 3) := by decide +kernel
theorem d_MT_behindBlock_46 : decode b_MT_behindBlock 46 = .ok (.aload_n 0, 1) := by decide +kernel
theorem d_MT_behindBlock_47 : decode b_MT_behindBlock 47 = .ok (.iload_n 2, 1) := by decide +kernel
theorem d_MT_behindBlock_48 : decode b_MT_behindBlock 48 = .ok (.invokevirtual 65, 3) := by decide +kernel
theorem d_MT_behindBlock_51 : decode b_MT_behindBlock 51 = .ok (.goto 4, 3) := by decide +kernel
theorem d_MT_behindBlock_54 : decode b_MT_behindBlock 54 = .ok (.iload_n 2, 1) := by decide +kernel
theorem d_MT_behindBlock_55 : decode b_MT_behindBlock 55 = .ok (.ireturn, 1) := by decide +kernel
theorem d_MT_placeIfZero_0 : decode b_MT_placeIfZero 0 = .ok (.aload_n 0, 1) := by decide +kernel
theorem d_MT_placeIfZero_1 : decode b_MT_placeIfZero 1 = .ok (.iload_n 1, 1) := by decide +kernel
theorem d_MT_placeIfZero_2 : decode b_MT_placeIfZero 2 = .ok (.invokevirtual 65, 3) := by decide +kernel
theorem d_MT_placeIfZero_5 : decode b_MT_placeIfZero 5 = .ok (.istore_n 2, 1) := by decide +kernel
theorem d_MT_placeIfZero_6 : decode b_MT_placeIfZero 6 = .ok (.aload_n 0, 1) := by decide +kernel
theorem d_MT_placeIfZero_7 : decode b_MT_placeIfZero 7 = .ok (.iload_n 2, 1) := by decide +kernel
theorem d_MT_placeIfZero_8 : decode b_MT_placeIfZero 8 = .ok (.invokevirtual 58, 3) := by decide +kernel
theorem d_MT_placeIfZero_11 : decode b_MT_placeIfZero 11 = .ok (.bipush 58, 2) := by decide +kernel
theorem d_MT_placeIfZero_13 : decode b_MT_placeIfZero 13 = .ok (.if_icmp .ne 9, 3) := by decide +kernel
theorem d_MT_placeIfZero_16 : decode b_MT_placeIfZero 16 = .ok (.iload_n 2, 1) := by decide +kernel
theorem d_MT_placeIfZero_17 : decode b_MT_placeIfZero 17 = .ok (.iconst 2, 1) := by decide +kernel
theorem d_MT_placeIfZero_18 : decode b_MT_placeIfZero 18 = .ok (.iadd, 1) := by decide +kernel
theorem d_MT_placeIfZero_19 : decode b_MT_placeIfZero 19 = .ok (.goto 4, 3) := by decide +kernel
theorem d_MT_placeIfZero_22 : decode b_MT_placeIfZero 22 = .ok (.iload_n 2, 1) := by decide +kernel
theorem d_MT_placeIfZero_23 : decode b_MT_placeIfZero 23 = .ok (.ireturn, 1) := by decide +kernel
theorem d_MT_behindEndOf_0 : decode b_MT_behindEndOf 0 = .ok (.aload_n 0, 1) := by decide +kernel
theorem d_MT_behindEndOf_1 : decode b_MT_behindEndOf 1 = .ok (.iload_n 1, 1) := by decide +kernel
theorem d_MT_behindEndOf_2 : decode b_MT_behindEndOf 2 = .ok (.invokevirtual 55, 3) := by decide +kernel
theorem d_MT_behindEndOf_5 : decode b_MT_behindEndOf 5 = .ok (.ifCond .eq 14, 3) := by decide +kernel
theorem d_MT_behindEndOf_8 : decode b_MT_behindEndOf 8 = .ok (.aload_n 0, 1) := by decide +kernel
theorem d_MT_behindEndOf_9 : decode b_MT_behindEndOf 9 = .ok (.getfield 21, 3) := by decide +kernel
theorem d_MT_behindEndOf_12 : decode b_MT_behindEndOf 12 = .ok (.iload_n 1, 1) := by decide +kernel
theorem d_MT_behindEndOf_13 : decode b_MT_behindEndOf 13 = .ok (.iaload, 1) := by decide +kernel
theorem d_MT_behindEndOf_14 : decode b_MT_behindEndOf 14 = .ok (.iconst 1, 1) := by decide +kernel
theorem d_MT_behindEndOf_15 : decode b_MT_behindEndOf 15 = .ok (.iadd, 1) := by decide +kernel
theorem d_MT_behindEndOf_16 : decode b_MT_behindEndOf 16 = .ok (.goto 4, 3) := by decide +kernel
theorem d_MT_behindEndOf_19 : decode b_MT_behindEndOf 19 = .ok (.iload_n 1, 1) := by decide +kernel
theorem d_MT_behindEndOf_20 : decode b_MT_behindEndOf 20 = .ok (.ireturn, 1) := by decide +kernel
theorem d_MT_isPlace_0 : decode b_MT_isPlace 0 = .ok (.iload_n 1, 1) := by decide +kernel
theorem d_MT_isPlace_1 : decode b_MT_isPlace 1 = .ok (.ifCond .lt 15, 3) := by decide +kernel
theorem d_MT_isPlace_4 : decode b_MT_isPlace 4 = .ok (.iload_n 1, 1) := by decide +kernel
theorem d_MT_isPlace_5 : decode b_MT_isPlace 5 = .ok (.aload_n 0, 1) := by decide +kernel
theorem d_MT_isPlace_6 : decode b_MT_isPlace 6 = .ok (.getfield 34, 3) := by decide +kernel
theorem d_MT_isPlace_9 : decode b_MT_isPlace 9 = .ok (.if_icmp .ge 7, 3) := by decide +kernel
theorem d_MT_isPlace_12 : decode b_MT_isPlace 12 = .ok (.iconst 1, 1) := by decide +kernel
theorem d_MT_isPlace_13 : decode b_MT_isPlace 13 = .ok (.goto 4, 3) := by decide +kernel
theorem d_MT_isPlace_16 : decode b_MT_isPlace 16 = .ok (.iconst 0, 1) := by decide +kernel
theorem d_MT_isPlace_17 : decode b_MT_isPlace 17 = .ok (.ireturn, 1) := by decide +kernel
theorem d_PR_init_0 : decode b_PR_init 0 = .ok (.aload_n 0, 1) := by decide +kernel
theorem d_PR_init_1 : decode b_PR_init 1 = .ok (.invokespecial 3, 3) := by decide +kernel
theorem d_PR_init_4 : decode b_PR_init 4 = .ok (.aload_n 0, 1) := by decide +kernel
theorem d_PR_init_5 : decode b_PR_init 5 = .ok (.bipush 26, 2) := by decide +kernel
theorem d_PR_init_7 : decode b_PR_init 7 = .ok (.anewarray 9, 3) := by decide +kernel
theorem d_PR_init_10 : decode b_PR_init 10 = .ok (.putfield 11, 3) := by decide +kernel
theorem d_PR_init_13 : decode b_PR_init 13 = .ok (.aload_n 0, 1) := by decide +kernel
theorem d_PR_init_14 : decode b_PR_init 14 = .ok (.bipush 26, 2) := by decide +kernel
theorem d_PR_init_16 : decode b_PR_init 16 = .ok (.newarray .int, 2) := by decide +kernel
theorem d_PR_init_18 : decode b_PR_init 18 = .ok (.putfield 17, 3) := by decide +kernel
theorem d_PR_init_21 : decode b_PR_init 21 = .ok (.return_, 1) := by decide +kernel
theorem d_PR_join_0 : decode b_PR_join 0 = .ok (.aload_n 0, 1) := by decide +kernel
theorem d_PR_join_1 : decode b_PR_join 1 = .ok (.invokevirtual 21, 3) := by decide +kernel
theorem d_PR_join_4 : decode b_PR_join 4 = .ok (.iconst 0, 1) := by decide +kernel
theorem d_PR_join_5 : decode b_PR_join 5 = .ok (.istore_n 2, 1) := by decide +kernel
theorem d_PR_join_6 : decode b_PR_join 6 = .ok (.iload_n 2, 1) := by decide +kernel
theorem d_PR_join_7 : decode b_PR_join 7 = .ok (.aload_n 1, 1) := by decide +kernel
theorem d_PR_join_8 : decode b_PR_join 8 = .ok (.arraylength, 1) := by decide +kernel
theorem d_PR_join_9 : decode b_PR_join 9 = .ok (.if_icmp .ge 48, 3) := by decide +kernel
theorem d_PR_join_12 : decode b_PR_join 12 = .ok (.aload_n 0, 1) := by decide +kernel
theorem d_PR_join_13 : decode b_PR_join 13 = .ok (.getfield 24, 3) := by decide +kernel
theorem d_PR_join_16 : decode b_PR_join 16 = .ok (.aload_n 1, 1) := by decide +kernel
theorem d_PR_join_17 : decode b_PR_join 17 = .ok (.iload_n 2, 1) := by decide +kernel
theorem d_PR_join_18 : decode b_PR_join 18 = .ok (.aaload, 1) := by decide +kernel
theorem d_PR_join_19 : decode b_PR_join 19 = .ok (.invokevirtual 28, 3) := by decide +kernel
theorem d_PR_join_22 : decode b_PR_join 22 = .ok (.iand, 1) := by decide +kernel
theorem d_PR_join_23 : decode b_PR_join 23 = .ok (.ifCond .eq 6, 3) := by decide +kernel
theorem d_PR_join_26 : decode b_PR_join 26 = .ok (.bipush (-3), 2) := by decide +kernel
theorem d_PR_join_28 : decode b_PR_join 28 = .ok (.ireturn, 1) := by decide +kernel
theorem d_PR_join_29 : decode b_PR_join 29 = .ok (.aload_n 0, 1) := by decide +kernel
theorem d_PR_join_30 : decode b_PR_join 30 = .ok (.dup, 1) := by decide +kernel
theorem d_PR_join_31 : decode b_PR_join 31 = .ok (.getfield 24, 3) := by decide +kernel
theorem d_PR_join_34 : decode b_PR_join 34 = .ok (.aload_n 1, 1) := by decide +kernel
theorem d_PR_join_35 : decode b_PR_join 35 = .ok (.iload_n 2, 1) := by decide +kernel
theorem d_PR_join_36 : decode b_PR_join 36 = .ok (.aaload, 1) := by decide +kernel
theorem d_PR_join_37 : decode b_PR_join 37 = .ok (.invokevirtual 28, 3) := by decide +kernel
theorem d_PR_join_40 : decode b_PR_join 40 = .ok (.ior, 1) := by decide +kernel
theorem d_PR_join_41 : decode b_PR_join 41 = .ok (.putfield 24, 3) := by decide +kernel
theorem d_PR_join_44 : decode b_PR_join 44 = .ok (.aload_n 0, 1) := by decide +kernel
theorem d_PR_join_45 : decode b_PR_join 45 = .ok (.aload_n 1, 1) := by decide +kernel
theorem d_PR_join_46 : decode b_PR_join 46 = .ok (.iload_n 2, 1) := by decide +kernel
theorem d_PR_join_47 : decode b_PR_join 47 = .ok (.aaload, 1) := by decide +kernel
theorem d_PR_join_48 : decode b_PR_join 48 = .ok (.invokevirtual 31, 3) := by decide +kernel
theorem d_PR_join_51 : decode b_PR_join 51 = .ok (.iinc 2 1, 3) := by decide +kernel
theorem d_PR_join_54 : decode b_PR_join 54 = .ok (.goto (-48), 3) := by decide +kernel
theorem d_PR_join_57 : decode b_PR_join 57 = .ok (.aload_n 0, 1) := by decide +kernel
theorem d_PR_join_58 : decode b_PR_join 58 = .ok (.invokevirtual 35, 3) := by decide +kernel
theorem d_PR_join_61 : decode b_PR_join 61 = .ok (.ifCond .eq 6, 3) := by decide +kernel
theorem d_PR_join_64 : decode b_PR_join 64 = .ok (.bipush (-4), 2) := by decide +kernel
theorem d_PR_join_66 : decode b_PR_join 66 = .ok (.ireturn, 1) := by decide +kernel
theorem d_PR_join_67 : decode b_PR_join 67 = .ok (.aload_n 0, 1) := by decide +kernel
theorem d_PR_join_68 : decode b_PR_join 68 = .ok (.invokevirtual 39, 3) := by decide +kernel
theorem d_PR_join_71 : decode b_PR_join 71 = .ok (.aload_n 0, 1) := by decide +kernel
theorem d_PR_join_72 : decode b_PR_join 72 = .ok (.invokevirtual 42, 3) := by decide +kernel
theorem d_PR_join_75 : decode b_PR_join 75 = .ok (.ifCond .eq 8, 3) := by decide +kernel
theorem d_PR_join_78 : decode b_PR_join 78 = .ok (.bipush (-5), 2) := by decide +kernel
theorem d_PR_join_80 : decode b_PR_join 80 = .ok (.goto 10, 3) := by decide +kernel
theorem d_PR_join_83 : decode b_PR_join 83 = .ok (.aload_n 0, 1) := by decide +kernel
theorem d_PR_join_84 : decode b_PR_join 84 = .ok (.getfield 24, 3) := by decide +kernel
theorem d_PR_join_87 : decode b_PR_join 87 = .ok (.invokestatic 45, 3) := by decide +kernel
theorem d_PR_join_90 : decode b_PR_join 90 = .ok (.ireturn, 1) := by decide +kernel
theorem d_PR_homeOf_0 : decode b_PR_homeOf 0 = .ok (.iload_n 1, 1) := by decide +kernel
theorem d_PR_homeOf_1 : decode b_PR_homeOf 1 = .ok (.invokestatic 51, 3) := by decide +kernel
theorem d_PR_homeOf_4 : decode b_PR_homeOf 4 = .ok (.ifCond .eq 12, 3) := by decide +kernel
theorem d_PR_homeOf_7 : decode b_PR_homeOf 7 = .ok (.aload_n 0, 1) := by decide +kernel
theorem d_PR_homeOf_8 : decode b_PR_homeOf 8 = .ok (.getfield 11, 3) := by decide +kernel
theorem d_PR_homeOf_11 : decode b_PR_homeOf 11 = .ok (.iload_n 1, 1) := by decide +kernel
theorem d_PR_homeOf_12 : decode b_PR_homeOf 12 = .ok (.aaload, 1) := by decide +kernel
theorem d_PR_homeOf_13 : decode b_PR_homeOf 13 = .ok (.goto 4, 3) := by decide +kernel
theorem d_PR_homeOf_16 : decode b_PR_homeOf 16 = .ok (.aconst_null, 1) := by decide +kernel
theorem d_PR_homeOf_17 : decode b_PR_homeOf 17 = .ok (.areturn, 1) := by decide +kernel
theorem d_PR_forget_0 : decode b_PR_forget 0 = .ok (.aload_n 0, 1) := by decide +kernel
theorem d_PR_forget_1 : decode b_PR_forget 1 = .ok (.iconst 0, 1) := by decide +kernel
theorem d_PR_forget_2 : decode b_PR_forget 2 = .ok (.putfield 24, 3) := by decide +kernel
theorem d_PR_forget_5 : decode b_PR_forget 5 = .ok (.iconst 0, 1) := by decide +kernel
theorem d_PR_forget_6 : decode b_PR_forget 6 = .ok (.istore_n 1, 1) := by decide +kernel
theorem d_PR_forget_7 : decode b_PR_forget 7 = .ok (.iload_n 1, 1) := by decide +kernel
theorem d_PR_forget_8 : decode b_PR_forget 8 = .ok (.bipush 26, 2) := by decide +kernel
theorem d_PR_forget_10 : decode b_PR_forget 10 = .ok (.if_icmp .ge 23, 3) := by decide +kernel
theorem d_PR_forget_13 : decode b_PR_forget 13 = .ok (.aload_n 0, 1) := by decide +kernel
theorem d_PR_forget_14 : decode b_PR_forget 14 = .ok (.getfield 11, 3) := by decide +kernel
theorem d_PR_forget_17 : decode b_PR_forget 17 = .ok (.iload_n 1, 1) := by decide +kernel
theorem d_PR_forget_18 : decode b_PR_forget 18 = .ok (.aconst_null, 1) := by decide +kernel
theorem d_PR_forget_19 : decode b_PR_forget 19 = .ok (.aastore, 1) := by decide +kernel
theorem d_PR_forget_20 : decode b_PR_forget 20 = .ok (.aload_n 0, 1) := by decide +kernel
theorem d_PR_forget_21 : decode b_PR_forget 21 = .ok (.getfield 17, 3) := by decide +kernel
theorem d_PR_forget_24 : decode b_PR_forget 24 = .ok (.iload_n 1, 1) := by decide +kernel
theorem d_PR_forget_25 : decode b_PR_forget 25 = .ok (.iconst 0, 1) := by decide +kernel
theorem d_PR_forget_26 : decode b_PR_forget 26 = .ok (.iastore, 1) := by decide +kernel
theorem d_PR_forget_27 : decode b_PR_forget 27 = .ok (.iinc 1 1, 3) := by decide +kernel
theorem d_PR_forget_30 : decode b_PR_forget 30 = .ok (.goto (-23), 3) := by decide +kernel
theorem d_PR_forget_33 : decode b_PR_forget 33 = .ok (.return_, 1) := by decide +kernel
theorem d_PR_takeOver_0 : decode b_PR_takeOver 0 = .ok (.iconst 0, 1) := by decide +kernel
theorem d_PR_takeOver_1 : decode b_PR_takeOver 1 = .ok (.istore_n 2, 1) := by decide +kernel
theorem d_PR_takeOver_2 : decode b_PR_takeOver 2 = .ok (.iload_n 2, 1) := by decide +kernel
theorem d_PR_takeOver_3 : decode b_PR_takeOver 3 = .ok (.bipush 26, 2) := by decide +kernel
theorem d_PR_takeOver_5 : decode b_PR_takeOver 5 = .ok (.if_icmp .ge 38, 3) := by decide +kernel
theorem d_PR_takeOver_8 : decode b_PR_takeOver 8 = .ok (.aload_n 1, 1) := by decide +kernel
theorem d_PR_takeOver_9 : decode b_PR_takeOver 9 = .ok (.invokevirtual 28, 3) := by decide +kernel
theorem d_PR_takeOver_12 : decode b_PR_takeOver 12 = .ok (.iload_n 2, 1) := by decide +kernel
theorem d_PR_takeOver_13 : decode b_PR_takeOver 13 = .ok (.invokestatic 55, 3) := by decide +kernel
theorem d_PR_takeOver_16 : decode b_PR_takeOver 16 = .ok (.ifCond .eq 21, 3) := by decide +kernel
theorem d_PR_takeOver_19 : decode b_PR_takeOver 19 = .ok (.aload_n 0, 1) := by decide +kernel
theorem d_PR_takeOver_20 : decode b_PR_takeOver 20 = .ok (.getfield 11, 3) := by decide +kernel
theorem d_PR_takeOver_23 : decode b_PR_takeOver 23 = .ok (.iload_n 2, 1) := by decide +kernel
theorem d_PR_takeOver_24 : decode b_PR_takeOver 24 = .ok (.aload_n 1, 1) := by decide +kernel
theorem d_PR_takeOver_25 : decode b_PR_takeOver 25 = .ok (.aastore, 1) := by decide +kernel
theorem d_PR_takeOver_26 : decode b_PR_takeOver 26 = .ok (.aload_n 0, 1) := by decide +kernel
theorem d_PR_takeOver_27 : decode b_PR_takeOver 27 = .ok (.getfield 17, 3) := by decide +kernel
theorem d_PR_takeOver_30 : decode b_PR_takeOver 30 = .ok (.iload_n 2, 1) := by decide +kernel
theorem d_PR_takeOver_31 : decode b_PR_takeOver 31 = .ok (.aload_n 1, 1) := by decide +kernel
theorem d_PR_takeOver_32 : decode b_PR_takeOver 32 = .ok (.iload_n 2, 1) := by decide +kernel
theorem d_PR_takeOver_33 : decode b_PR_takeOver 33 = .ok (.invokevirtual 59, 3) := by decide +kernel
theorem d_PR_takeOver_36 : decode b_PR_takeOver 36 = .ok (.iastore, 1) := by decide +kernel
theorem d_PR_takeOver_37 : decode b_PR_takeOver 37 = .ok (.iinc 2 1, 3) := by decide +kernel
theorem d_PR_takeOver_40 : decode b_PR_takeOver 40 = .ok (.goto (-38), 3) := by decide +kernel
theorem d_PR_takeOver_43 : decode b_PR_takeOver 43 = .ok (.return_, 1) := by decide +kernel
theorem d_PR_lacksOne_0 : decode b_PR_lacksOne 0 = .ok (.sipush 4096, 3) := by decide +kernel
theorem d_PR_lacksOne_3 : decode b_PR_lacksOne 3 = .ok (.istore_n 1, 1) := by decide +kernel
theorem d_PR_lacksOne_4 : decode b_PR_lacksOne 4 = .ok (.iconst 0, 1) := by decide +kernel
theorem d_PR_lacksOne_5 : decode b_PR_lacksOne 5 = .ok (.istore_n 2, 1) := by decide +kernel
theorem d_PR_lacksOne_6 : decode b_PR_lacksOne 6 = .ok (.iload_n 2, 1) := by decide +kernel
theorem d_PR_lacksOne_7 : decode b_PR_lacksOne 7 = .ok (.bipush 26, 2) := by decide +kernel
theorem d_PR_lacksOne_9 : decode b_PR_lacksOne 9 = .ok (.if_icmp .ge 18, 3) := by decide +kernel
theorem d_PR_lacksOne_12 : decode b_PR_lacksOne 12 = .ok (.iload_n 1, 1) := by decide +kernel
theorem d_PR_lacksOne_13 : decode b_PR_lacksOne 13 = .ok (.aload_n 0, 1) := by decide +kernel
theorem d_PR_lacksOne_14 : decode b_PR_lacksOne 14 = .ok (.getfield 17, 3) := by decide +kernel
theorem d_PR_lacksOne_17 : decode b_PR_lacksOne 17 = .ok (.iload_n 2, 1) := by decide +kernel
theorem d_PR_lacksOne_18 : decode b_PR_lacksOne 18 = .ok (.iaload, 1) := by decide +kernel
theorem d_PR_lacksOne_19 : decode b_PR_lacksOne 19 = .ok (.ior, 1) := by decide +kernel
theorem d_PR_lacksOne_20 : decode b_PR_lacksOne 20 = .ok (.istore_n 1, 1) := by decide +kernel
theorem d_PR_lacksOne_21 : decode b_PR_lacksOne 21 = .ok (.iinc 2 1, 3) := by decide +kernel
theorem d_PR_lacksOne_24 : decode b_PR_lacksOne 24 = .ok (.goto (-18), 3) := by decide +kernel
theorem d_PR_lacksOne_27 : decode b_PR_lacksOne 27 = .ok (.iload_n 1, 1) := by decide +kernel
theorem d_PR_lacksOne_28 : decode b_PR_lacksOne 28 = .ok (.aload_n 0, 1) := by decide +kernel
theorem d_PR_lacksOne_29 : decode b_PR_lacksOne 29 = .ok (.getfield 24, 3) := by decide +kernel
theorem d_PR_lacksOne_32 : decode b_PR_lacksOne 32 = .ok (.iconst (-1), 1) := by decide +kernel
theorem d_PR_lacksOne_33 : decode b_PR_lacksOne 33 = .ok (.ixor, 1) := by decide +kernel
theorem d_PR_lacksOne_34 : decode b_PR_lacksOne 34 = .ok (.iand, 1) := by decide +kernel
theorem d_PR_lacksOne_35 : decode b_PR_lacksOne 35 = .ok (.ifCond .eq 7, 3) := by decide +kernel
theorem d_PR_lacksOne_38 : decode b_PR_lacksOne 38 = .ok (.iconst 1, 1) := by decide +kernel
theorem d_PR_lacksOne_39 : decode b_PR_lacksOne 39 = .ok (.goto 4, 3) := by decide +kernel
theorem d_PR_lacksOne_42 : decode b_PR_lacksOne 42 = .ok (.iconst 0, 1) := by decide +kernel
theorem d_PR_lacksOne_43 : decode b_PR_lacksOne 43 = .ok (.ireturn, 1) := by decide +kernel
theorem d_PR_followChains_0 : decode b_PR_followChains 0 = .ok (.iconst 0, 1) := by decide +kernel
theorem d_PR_followChains_1 : decode b_PR_followChains 1 = .ok (.istore_n 1, 1) := by decide +kernel
theorem d_PR_followChains_2 : decode b_PR_followChains 2 = .ok (.iload_n 1, 1) := by decide +kernel
theorem d_PR_followChains_3 : decode b_PR_followChains 3 = .ok (.bipush 26, 2) := by decide +kernel
theorem d_PR_followChains_5 : decode b_PR_followChains 5 = .ok (.if_icmp .ge 51, 3) := by decide +kernel
theorem d_PR_followChains_8 : decode b_PR_followChains 8 = .ok (.iconst 0, 1) := by decide +kernel
theorem d_PR_followChains_9 : decode b_PR_followChains 9 = .ok (.istore_n 2, 1) := by decide +kernel
theorem d_PR_followChains_10 : decode b_PR_followChains 10 = .ok (.iload_n 2, 1) := by decide +kernel
theorem d_PR_followChains_11 : decode b_PR_followChains 11 = .ok (.bipush 26, 2) := by decide +kernel
theorem d_PR_followChains_13 : decode b_PR_followChains 13 = .ok (.if_icmp .ge 37, 3) := by decide +kernel
theorem d_PR_followChains_16 : decode b_PR_followChains 16 = .ok (.aload_n 0, 1) := by decide +kernel
theorem d_PR_followChains_17 : decode b_PR_followChains 17 = .ok (.getfield 17, 3) := by decide +kernel
theorem d_PR_followChains_20 : decode b_PR_followChains 20 = .ok (.iload_n 2, 1) := by decide +kernel
theorem d_PR_followChains_21 : decode b_PR_followChains 21 = .ok (.iaload, 1) := by decide +kernel
theorem d_PR_followChains_22 : decode b_PR_followChains 22 = .ok (.iload_n 1, 1) := by decide +kernel
theorem d_PR_followChains_23 : decode b_PR_followChains 23 = .ok (.invokestatic 55, 3) := by decide +kernel
theorem d_PR_followChains_26 : decode b_PR_followChains 26 = .ok (.ifCond .eq 18, 3) := by decide +kernel
theorem d_PR_followChains_29 : decode b_PR_followChains 29 = .ok (.aload_n 0, 1) := by decide +kernel
theorem d_PR_followChains_30 : decode b_PR_followChains 30 = .ok (.getfield 17, 3) := by decide +kernel
theorem d_PR_followChains_33 : decode b_PR_followChains 33 = .ok (.iload_n 2, 1) := by decide +kernel
theorem d_PR_followChains_34 : decode b_PR_followChains 34 = .ok (.dup2, 1) := by decide +kernel
theorem d_PR_followChains_35 : decode b_PR_followChains 35 = .ok (.iaload, 1) := by decide +kernel
theorem d_PR_followChains_36 : decode b_PR_followChains 36 = .ok (.aload_n 0, 1) := by decide +kernel
theorem d_PR_followChains_37 : decode b_PR_followChains 37 = .ok (.getfield 17, 3) := by decide +kernel
theorem d_PR_followChains_40 : decode b_PR_followChains 40 = .ok (.iload_n 1, 1) := by decide +kernel
theorem d_PR_followChains_41 : decode b_PR_followChains 41 = .ok (.iaload, 1) := by decide +kernel
theorem d_PR_followChains_42 : decode b_PR_followChains 42 = .ok (.ior, 1) := by decide +kernel
theorem d_PR_followChains_43 : decode b_PR_followChains 43 = .ok (.iastore, 1) := by decide +kernel
theorem d_PR_followChains_44 : decode b_PR_followChains 44 = .ok (.iinc 2 1, 3) := by decide +kernel
theorem d_PR_followChains_47 : decode b_PR_followChains 47 = .ok (.goto (-37), 3) := by decide +kernel
theorem d_PR_followChains_50 : decode b_PR_followChains 50 = .ok (.iinc 1 1, 3) := by decide +kernel
theorem d_PR_followChains_53 : decode b_PR_followChains 53 = .ok (.goto (-51), 3) := by decide +kernel
theorem d_PR_followChains_56 : decode b_PR_followChains 56 = .ok (.return_, 1) := by decide +kernel
theorem d_PR_hasCircle_0 : decode b_PR_hasCircle 0 = .ok (.iconst 0, 1) := by decide +kernel
theorem d_PR_hasCircle_1 : decode b_PR_hasCircle 1 = .ok (.istore_n 1, 1) := by decide +kernel
theorem d_PR_hasCircle_2 : decode b_PR_hasCircle 2 = .ok (.iload_n 1, 1) := by decide +kernel
theorem d_PR_hasCircle_3 : decode b_PR_hasCircle 3 = .ok (.bipush 26, 2) := by decide +kernel
theorem d_PR_hasCircle_5 : decode b_PR_hasCircle 5 = .ok (.if_icmp .ge 24, 3) := by decide +kernel
theorem d_PR_hasCircle_8 : decode b_PR_hasCircle 8 = .ok (.aload_n 0, 1) := by decide +kernel
theorem d_PR_hasCircle_9 : decode b_PR_hasCircle 9 = .ok (.getfield 17, 3) := by decide +kernel
theorem d_PR_hasCircle_12 : decode b_PR_hasCircle 12 = .ok (.iload_n 1, 1) := by decide +kernel
theorem d_PR_hasCircle_13 : decode b_PR_hasCircle 13 = .ok (.iaload, 1) := by decide +kernel
theorem d_PR_hasCircle_14 : decode b_PR_hasCircle 14 = .ok (.iload_n 1, 1) := by decide +kernel
theorem d_PR_hasCircle_15 : decode b_PR_hasCircle 15 = .ok (.invokestatic 55, 3) := by decide +kernel
theorem d_PR_hasCircle_18 : decode b_PR_hasCircle 18 = .ok (.ifCond .eq 5, 3) := by decide +kernel
theorem d_PR_hasCircle_21 : decode b_PR_hasCircle 21 = .ok (.iconst 1, 1) := by decide +kernel
theorem d_PR_hasCircle_22 : decode b_PR_hasCircle 22 = .ok (.ireturn, 1) := by decide +kernel
theorem d_PR_hasCircle_23 : decode b_PR_hasCircle 23 = .ok (.iinc 1 1, 3) := by decide +kernel
theorem d_PR_hasCircle_26 : decode b_PR_hasCircle 26 = .ok (.goto (-24), 3) := by decide +kernel
theorem d_PR_hasCircle_29 : decode b_PR_hasCircle 29 = .ok (.iconst 0, 1) := by decide +kernel
theorem d_PR_hasCircle_30 : decode b_PR_hasCircle 30 = .ok (.ireturn, 1) := by decide +kernel
theorem d_RD_init_0 : decode b_RD_init 0 = .ok (.aload_n 0, 1) := by decide +kernel
theorem d_RD_init_1 : decode b_RD_init 1 = .ok (.invokespecial 3, 3) := by decide +kernel
theorem d_RD_init_4 : decode b_RD_init 4 = .ok (.aload_n 0, 1) := by decide +kernel
theorem d_RD_init_5 : decode b_RD_init 5 = .ok (.bipush 6, 2) := by decide +kernel
theorem d_RD_init_7 : decode b_RD_init 7 = .ok (.newarray .int, 2) := by decide +kernel
theorem d_RD_init_9 : decode b_RD_init 9 = .ok (.putfield 9, 3) := by decide +kernel
theorem d_RD_init_12 : decode b_RD_init 12 = .ok (.return_, 1) := by decide +kernel
theorem d_RD_faultOf_0 : decode b_RD_faultOf 0 = .ok (.aload_n 1, 1) := by decide +kernel
theorem d_RD_faultOf_1 : decode b_RD_faultOf 1 = .ok (.invokevirtual 15, 3) := by decide +kernel
theorem d_RD_faultOf_4 : decode b_RD_faultOf 4 = .ok (.aload_n 0, 1) := by decide +kernel
theorem d_RD_faultOf_5 : decode b_RD_faultOf 5 = .ok (.iconst 0, 1) := by decide +kernel
theorem d_RD_faultOf_6 : decode b_RD_faultOf 6 = .ok (.putfield 20, 3) := by decide +kernel
theorem d_RD_faultOf_9 : decode b_RD_faultOf 9 = .ok (.aload_n 0, 1) := by decide +kernel
theorem d_RD_faultOf_10 : decode b_RD_faultOf 10 = .ok (.iconst 0, 1) := by decide +kernel
theorem d_RD_faultOf_11 : decode b_RD_faultOf 11 = .ok (.putfield 24, 3) := by decide +kernel
theorem d_RD_faultOf_14 : decode b_RD_faultOf 14 = .ok (.aload_n 1, 1) := by decide +kernel
theorem d_RD_faultOf_15 : decode b_RD_faultOf 15 = .ok (.invokevirtual 27, 3) := by decide +kernel
theorem d_RD_faultOf_18 : decode b_RD_faultOf 18 = .ok (.istore_n 2, 1) := by decide +kernel
theorem d_RD_faultOf_19 : decode b_RD_faultOf 19 = .ok (.iconst 0, 1) := by decide +kernel
theorem d_RD_faultOf_20 : decode b_RD_faultOf 20 = .ok (.istore_n 3, 1) := by decide +kernel
theorem d_RD_faultOf_21 : decode b_RD_faultOf 21 = .ok (.iload_n 3, 1) := by decide +kernel
theorem d_RD_faultOf_22 : decode b_RD_faultOf 22 = .ok (.iload_n 2, 1) := by decide +kernel
theorem d_RD_faultOf_23 : decode b_RD_faultOf 23 = .ok (.if_icmp .ge 20, 3) := by decide +kernel
theorem d_RD_faultOf_26 : decode b_RD_faultOf 26 = .ok (.aload_n 0, 1) := by decide +kernel
theorem d_RD_faultOf_27 : decode b_RD_faultOf 27 = .ok (.aload_n 1, 1) := by decide +kernel
theorem d_RD_faultOf_28 : decode b_RD_faultOf 28 = .ok (.iload_n 3, 1) := by decide +kernel
theorem d_RD_faultOf_29 : decode b_RD_faultOf 29 = .ok (.invokevirtual 31, 3) := by decide +kernel
theorem d_RD_faultOf_32 : decode b_RD_faultOf 32 = .ok (.ifCond .ne 5, 3) := by decide +kernel
theorem d_RD_faultOf_35 : decode b_RD_faultOf 35 = .ok (.iload_n 3, 1) := by decide +kernel
theorem d_RD_faultOf_36 : decode b_RD_faultOf 36 = .ok (.ireturn, 1) := by decide +kernel
theorem d_RD_faultOf_37 : decode b_RD_faultOf 37 = .ok (.iinc 3 1, 3) := by decide +kernel
theorem d_RD_faultOf_40 : decode b_RD_faultOf 40 = .ok (.goto (-19), 3) := by decide +kernel
theorem d_RD_faultOf_43 : decode b_RD_faultOf 43 = .ok (.aload_n 0, 1) := by decide +kernel
theorem d_RD_faultOf_44 : decode b_RD_faultOf 44 = .ok (.getfield 24, 3) := by decide +kernel
theorem d_RD_faultOf_47 : decode b_RD_faultOf 47 = .ok (.ifCond .ne 8, 3) := by decide +kernel
theorem d_RD_faultOf_50 : decode b_RD_faultOf 50 = .ok (.bipush (-2), 2) := by decide +kernel
theorem d_RD_faultOf_52 : decode b_RD_faultOf 52 = .ok (.goto 4, 3) := by decide +kernel
theorem d_RD_faultOf_55 : decode b_RD_faultOf 55 = .ok (.iload_n 2, 1) := by decide +kernel
theorem d_RD_faultOf_56 : decode b_RD_faultOf 56 = .ok (.ireturn, 1) := by decide +kernel
theorem d_RD_takes_0 : decode b_RD_takes 0 = .ok (.aload_n 1, 1) := by decide +kernel
theorem d_RD_takes_1 : decode b_RD_takes 1 = .ok (.iload_n 2, 1) := by decide +kernel
theorem d_RD_takes_2 : decode b_RD_takes 2 = .ok (.invokevirtual 35, 3) := by decide +kernel
theorem d_RD_takes_5 : decode b_RD_takes 5 = .ok (.istore_n 3, 1) := by decide +kernel
theorem d_RD_takes_6 : decode b_RD_takes 6 = .ok (.aload_n 0, 1) := by decide +kernel
theorem d_RD_takes_7 : decode b_RD_takes 7 = .ok (.getfield 24, 3) := by decide +kernel
theorem d_RD_takes_10 : decode b_RD_takes 10 = .ok (.tableswitch 175 0 7 #[46, 53, 77, 84, 106, 127, 147, 154], 46) := by decide +kernel
theorem d_RD_takes_56 : decode b_RD_takes 56 = .ok (.aload_n 0, 1) := by decide +kernel
theorem d_RD_takes_57 : decode b_RD_takes 57 = .ok (.aload_n 1, 1) := by decide +kernel
theorem d_RD_takes_58 : decode b_RD_takes 58 = .ok (.iload_n 2, 1) := by decide +kernel
theorem d_RD_takes_59 : decode b_RD_takes 59 = .ok (.invokevirtual 39, 3) := by decide +kernel
theorem d_RD_takes_62 : decode b_RD_takes 62 = .ok (.ireturn, 1) := by decide +kernel
theorem d_RD_takes_63 : decode b_RD_takes 63 = .ok (.iload_n 3, 1) := by decide +kernel
theorem d_RD_takes_64 : decode b_RD_takes 64 = .ok (.bipush 123, 2) := by decide +kernel
theorem d_RD_takes_66 : decode b_RD_takes 66 = .ok (.if_icmp .ne 19, 3) := by decide +kernel
theorem d_RD_takes_69 : decode b_RD_takes 69 = .ok (.aload_n 0, 1) := by decide +kernel
theorem d_RD_takes_70 : decode b_RD_takes 70 = .ok (.aload_n 0, 1) := by decide +kernel
theorem d_RD_takes_71 : decode b_RD_takes 71 = .ok (.getfield 42, 3) := by decide +kernel
theorem d_RD_takes_74 : decode b_RD_takes 74 = .ok (.iconst 2, 1) := by decide +kernel
theorem d_RD_takes_75 : decode b_RD_takes 75 = .ok (.invokevirtual 45, 3) := by decide +kernel
theorem d_RD_takes_78 : decode b_RD_takes 78 = .ok (.ifCond .eq 7, 3) := by decide +kernel
theorem d_RD_takes_81 : decode b_RD_takes 81 = .ok (.iconst 1, 1) := by decide +kernel
theorem d_RD_takes_82 : decode b_RD_takes 82 = .ok (.goto 4, 3) := by decide +kernel
theorem d_RD_takes_85 : decode b_RD_takes 85 = .ok (.iconst 0, 1) := by decide +kernel
theorem d_RD_takes_86 : decode b_RD_takes 86 = .ok (.ireturn, 1) := by decide +kernel
theorem d_RD_takes_87 : decode b_RD_takes 87 = .ok (.aload_n 0, 1) := by decide +kernel
theorem d_RD_takes_88 : decode b_RD_takes 88 = .ok (.aload_n 1, 1) := by decide +kernel
theorem d_RD_takes_89 : decode b_RD_takes 89 = .ok (.iload_n 2, 1) := by decide +kernel
theorem d_RD_takes_90 : decode b_RD_takes 90 = .ok (.invokevirtual 49, 3) := by decide +kernel
theorem d_RD_takes_93 : decode b_RD_takes 93 = .ok (.ireturn, 1) := by decide +kernel
theorem d_RD_takes_94 : decode b_RD_takes 94 = .ok (.iload_n 3, 1) := by decide +kernel
theorem d_RD_takes_95 : decode b_RD_takes 95 = .ok (.bipush 58, 2) := by decide +kernel
theorem d_RD_takes_97 : decode b_RD_takes 97 = .ok (.if_icmp .ne 12, 3) := by decide +kernel
theorem d_RD_takes_100 : decode b_RD_takes 100 = .ok (.aload_n 0, 1) := by decide +kernel
theorem d_RD_takes_101 : decode b_RD_takes 101 = .ok (.iload_n 2, 1) := by decide +kernel
theorem d_RD_takes_102 : decode b_RD_takes 102 = .ok (.iconst 1, 1) := by decide +kernel
theorem d_RD_takes_103 : decode b_RD_takes 103 = .ok (.invokevirtual 52, 3) := by decide +kernel
theorem d_RD_takes_106 : decode b_RD_takes 106 = .ok (.goto 9, 3) := by decide +kernel
theorem d_RD_takes_109 : decode b_RD_takes 109 = .ok (.aload_n 0, 1) := by decide +kernel
theorem d_RD_takes_110 : decode b_RD_takes 110 = .ok (.aload_n 1, 1) := by decide +kernel
theorem d_RD_takes_111 : decode b_RD_takes 111 = .ok (.iload_n 2, 1) := by decide +kernel
theorem d_RD_takes_112 : decode b_RD_takes 112 = .ok (.invokevirtual 49, 3) := by decide +kernel
theorem d_RD_takes_115 : decode b_RD_takes 115 = .ok (.ireturn, 1) := by decide +kernel
theorem d_RD_takes_116 : decode b_RD_takes 116 = .ok (.iload_n 3, 1) := by decide +kernel
theorem d_RD_takes_117 : decode b_RD_takes 117 = .ok (.bipush 61, 2) := by decide +kernel
theorem d_RD_takes_119 : decode b_RD_takes 119 = .ok (.if_icmp .ne 16, 3) := by decide +kernel
theorem d_RD_takes_122 : decode b_RD_takes 122 = .ok (.aload_n 0, 1) := by decide +kernel
theorem d_RD_takes_123 : decode b_RD_takes 123 = .ok (.bipush 6, 2) := by decide +kernel
theorem d_RD_takes_125 : decode b_RD_takes 125 = .ok (.invokevirtual 55, 3) := by decide +kernel
theorem d_RD_takes_128 : decode b_RD_takes 128 = .ok (.ifCond .eq 7, 3) := by decide +kernel
theorem d_RD_takes_131 : decode b_RD_takes 131 = .ok (.iconst 1, 1) := by decide +kernel
theorem d_RD_takes_132 : decode b_RD_takes 132 = .ok (.goto 4, 3) := by decide +kernel
theorem d_RD_takes_135 : decode b_RD_takes 135 = .ok (.iconst 0, 1) := by decide +kernel
theorem d_RD_takes_136 : decode b_RD_takes 136 = .ok (.ireturn, 1) := by decide +kernel
theorem d_RD_takes_137 : decode b_RD_takes 137 = .ok (.iload_n 3, 1) := by decide +kernel
theorem d_RD_takes_138 : decode b_RD_takes 138 = .ok (.bipush 59, 2) := by decide +kernel
theorem d_RD_takes_140 : decode b_RD_takes 140 = .ok (.if_icmp .ne 15, 3) := by decide +kernel
theorem d_RD_takes_143 : decode b_RD_takes 143 = .ok (.aload_n 0, 1) := by decide +kernel
theorem d_RD_takes_144 : decode b_RD_takes 144 = .ok (.iconst 2, 1) := by decide +kernel
theorem d_RD_takes_145 : decode b_RD_takes 145 = .ok (.invokevirtual 55, 3) := by decide +kernel
theorem d_RD_takes_148 : decode b_RD_takes 148 = .ok (.ifCond .eq 7, 3) := by decide +kernel
theorem d_RD_takes_151 : decode b_RD_takes 151 = .ok (.iconst 1, 1) := by decide +kernel
theorem d_RD_takes_152 : decode b_RD_takes 152 = .ok (.goto 4, 3) := by decide +kernel
theorem d_RD_takes_155 : decode b_RD_takes 155 = .ok (.iconst 0, 1) := by decide +kernel
theorem d_RD_takes_156 : decode b_RD_takes 156 = .ok (.ireturn, 1) := by decide +kernel
theorem d_RD_takes_157 : decode b_RD_takes 157 = .ok (.aload_n 0, 1) := by decide +kernel
theorem d_RD_takes_158 : decode b_RD_takes 158 = .ok (.aload_n 1, 1) := by decide +kernel
theorem d_RD_takes_159 : decode b_RD_takes 159 = .ok (.iload_n 2, 1) := by decide +kernel
theorem d_RD_takes_160 : decode b_RD_takes 160 = .ok (.invokevirtual 59, 3) := by decide +kernel
theorem d_RD_takes_163 : decode b_RD_takes 163 = .ok (.ireturn, 1) := by decide +kernel
theorem d_RD_takes_164 : decode b_RD_takes 164 = .ok (.iload_n 3, 1) := by decide +kernel
theorem d_RD_takes_165 : decode b_RD_takes 165 = .ok (.invokestatic 62, 3) := by decide +kernel
theorem d_RD_takes_168 : decode b_RD_takes 168 = .ok (.ifCond .eq 10, 3) := by decide +kernel
theorem d_RD_takes_171 : decode b_RD_takes 171 = .ok (.aload_n 0, 1) := by decide +kernel
theorem d_RD_takes_172 : decode b_RD_takes 172 = .ok (.invokevirtual 65, 3) := by decide +kernel
theorem d_RD_takes_175 : decode b_RD_takes 175 = .ok (.goto 9, 3) := by decide +kernel
theorem d_RD_takes_178 : decode b_RD_takes 178 = .ok (.aload_n 0, 1) := by decide +kernel
theorem d_RD_takes_179 : decode b_RD_takes 179 = .ok (.aload_n 1, 1) := by decide +kernel
theorem d_RD_takes_180 : decode b_RD_takes 180 = .ok (.iload_n 2, 1) := by decide +kernel
theorem d_RD_takes_181 : decode b_RD_takes 181 = .ok (.invokevirtual 69, 3) := by decide +kernel
theorem d_RD_takes_184 : decode b_RD_takes 184 = .ok (.ireturn, 1) := by decide +kernel
theorem d_RD_takes_185 : decode b_RD_takes 185 = .ok (.aload_n 0, 1) := by decide +kernel
theorem d_RD_takes_186 : decode b_RD_takes 186 = .ok (.aload_n 1, 1) := by decide +kernel
theorem d_RD_takes_187 : decode b_RD_takes 187 = .ok (.iload_n 2, 1) := by decide +kernel
theorem d_RD_takes_188 : decode b_RD_takes 188 = .ok (.invokevirtual 69, 3) := by decide +kernel
theorem d_RD_takes_191 : decode b_RD_takes 191 = .ok (.ireturn, 1) := by decide +kernel
theorem d_RD_takesProcedure_0 : decode b_RD_takesProcedure 0 = .ok (.aload_n 1, 1) := by decide +kernel
theorem d_RD_takesProcedure_1 : decode b_RD_takesProcedure 1 = .ok (.iload_n 2, 1) := by decide +kernel
theorem d_RD_takesProcedure_2 : decode b_RD_takesProcedure 2 = .ok (.invokevirtual 35, 3) := by decide +kernel
theorem d_RD_takesProcedure_5 : decode b_RD_takesProcedure 5 = .ok (.istore_n 3, 1) := by decide +kernel
theorem d_RD_takesProcedure_6 : decode b_RD_takesProcedure 6 = .ok (.iload_n 3, 1) := by decide +kernel
theorem d_RD_takesProcedure_7 : decode b_RD_takesProcedure 7 = .ok (.invokestatic 72, 3) := by decide +kernel
theorem d_RD_takesProcedure_10 : decode b_RD_takesProcedure 10 = .ok (.ifCond .ne 5, 3) := by decide +kernel
theorem d_RD_takesProcedure_13 : decode b_RD_takesProcedure 13 = .ok (.iconst 0, 1) := by decide +kernel
theorem d_RD_takesProcedure_14 : decode b_RD_takesProcedure 14 = .ok (.ireturn, 1) := by decide +kernel
theorem d_RD_takesProcedure_15 : decode b_RD_takesProcedure 15 = .ok (.aload_n 0, 1) := by decide +kernel
theorem d_RD_takesProcedure_16 : decode b_RD_takesProcedure 16 = .ok (.iload_n 3, 1) := by decide +kernel
theorem d_RD_takesProcedure_17 : decode b_RD_takesProcedure 17 = .ok (.bipush 65, 2) := by decide +kernel
theorem d_RD_takesProcedure_19 : decode b_RD_takesProcedure 19 = .ok (.isub, 1) := by decide +kernel
theorem d_RD_takesProcedure_20 : decode b_RD_takesProcedure 20 = .ok (.putfield 75, 3) := by decide +kernel
theorem d_RD_takesProcedure_23 : decode b_RD_takesProcedure 23 = .ok (.aload_n 0, 1) := by decide +kernel
theorem d_RD_takesProcedure_24 : decode b_RD_takesProcedure 24 = .ok (.iconst 0, 1) := by decide +kernel
theorem d_RD_takesProcedure_25 : decode b_RD_takesProcedure 25 = .ok (.putfield 78, 3) := by decide +kernel
theorem d_RD_takesProcedure_28 : decode b_RD_takesProcedure 28 = .ok (.aload_n 1, 1) := by decide +kernel
theorem d_RD_takesProcedure_29 : decode b_RD_takesProcedure 29 = .ok (.aload_n 0, 1) := by decide +kernel
theorem d_RD_takesProcedure_30 : decode b_RD_takesProcedure 30 = .ok (.getfield 75, 3) := by decide +kernel
theorem d_RD_takesProcedure_33 : decode b_RD_takesProcedure 33 = .ok (.iload_n 2, 1) := by decide +kernel
theorem d_RD_takesProcedure_34 : decode b_RD_takesProcedure 34 = .ok (.invokevirtual 81, 3) := by decide +kernel
theorem d_RD_takesProcedure_37 : decode b_RD_takesProcedure 37 = .ok (.aload_n 0, 1) := by decide +kernel
theorem d_RD_takesProcedure_38 : decode b_RD_takesProcedure 38 = .ok (.iload_n 2, 1) := by decide +kernel
theorem d_RD_takesProcedure_39 : decode b_RD_takesProcedure 39 = .ok (.iconst 1, 1) := by decide +kernel
theorem d_RD_takesProcedure_40 : decode b_RD_takesProcedure 40 = .ok (.invokevirtual 52, 3) := by decide +kernel
theorem d_RD_takesProcedure_43 : decode b_RD_takesProcedure 43 = .ok (.ireturn, 1) := by decide +kernel
theorem d_RD_takesStatement_0 : decode b_RD_takesStatement 0 = .ok (.aload_n 1, 1) := by decide +kernel
theorem d_RD_takesStatement_1 : decode b_RD_takesStatement 1 = .ok (.iload_n 2, 1) := by decide +kernel
theorem d_RD_takesStatement_2 : decode b_RD_takesStatement 2 = .ok (.invokevirtual 35, 3) := by decide +kernel
theorem d_RD_takesStatement_5 : decode b_RD_takesStatement 5 = .ok (.istore_n 3, 1) := by decide +kernel
theorem d_RD_takesStatement_6 : decode b_RD_takesStatement 6 = .ok (.iload_n 3, 1) := by decide +kernel
theorem d_RD_takesStatement_7 : decode b_RD_takesStatement 7 = .ok (.bipush 125, 2) := by decide +kernel
theorem d_RD_takesStatement_9 : decode b_RD_takesStatement 9 = .ok (.if_icmp .ne 10, 3) := by decide +kernel
theorem d_RD_takesStatement_12 : decode b_RD_takesStatement 12 = .ok (.aload_n 0, 1) := by decide +kernel
theorem d_RD_takesStatement_13 : decode b_RD_takesStatement 13 = .ok (.aload_n 1, 1) := by decide +kernel
theorem d_RD_takesStatement_14 : decode b_RD_takesStatement 14 = .ok (.iload_n 2, 1) := by decide +kernel
theorem d_RD_takesStatement_15 : decode b_RD_takesStatement 15 = .ok (.invokevirtual 85, 3) := by decide +kernel
theorem d_RD_takesStatement_18 : decode b_RD_takesStatement 18 = .ok (.ireturn, 1) := by decide +kernel
theorem d_RD_takesStatement_19 : decode b_RD_takesStatement 19 = .ok (.iload_n 3, 1) := by decide +kernel
theorem d_RD_takesStatement_20 : decode b_RD_takesStatement 20 = .ok (.invokestatic 88, 3) := by decide +kernel
theorem d_RD_takesStatement_23 : decode b_RD_takesStatement 23 = .ok (.istore 4, 2) := by decide +kernel
theorem d_RD_takesStatement_25 : decode b_RD_takesStatement 25 = .ok (.iload 4, 2) := by decide +kernel
theorem d_RD_takesStatement_27 : decode b_RD_takesStatement 27 = .ok (.iconst 2, 1) := by decide +kernel
theorem d_RD_takesStatement_28 : decode b_RD_takesStatement 28 = .ok (.if_icmp .ne 5, 3) := by decide +kernel
theorem d_RD_takesStatement_31 : decode b_RD_takesStatement 31 = .ok (.iconst 0, 1) := by decide +kernel
theorem d_RD_takesStatement_32 : decode b_RD_takesStatement 32 = .ok (.ireturn, 1) := by decide +kernel
theorem d_RD_takesStatement_33 : decode b_RD_takesStatement 33 = .ok (.iload 4, 2) := by decide +kernel
theorem d_RD_takesStatement_35 : decode b_RD_takesStatement 35 = .ok (.iconst 5, 1) := by decide +kernel
theorem d_RD_takesStatement_36 : decode b_RD_takesStatement 36 = .ok (.if_icmp .ne 15, 3) := by decide +kernel
theorem d_RD_takesStatement_39 : decode b_RD_takesStatement 39 = .ok (.aload_n 1, 1) := by decide +kernel
theorem d_RD_takesStatement_40 : decode b_RD_takesStatement 40 = .ok (.aload_n 0, 1) := by decide +kernel
theorem d_RD_takesStatement_41 : decode b_RD_takesStatement 41 = .ok (.getfield 75, 3) := by decide +kernel
theorem d_RD_takesStatement_44 : decode b_RD_takesStatement 44 = .ok (.iload_n 3, 1) := by decide +kernel
theorem d_RD_takesStatement_45 : decode b_RD_takesStatement 45 = .ok (.bipush 65, 2) := by decide +kernel
theorem d_RD_takesStatement_47 : decode b_RD_takesStatement 47 = .ok (.isub, 1) := by decide +kernel
theorem d_RD_takesStatement_48 : decode b_RD_takesStatement 48 = .ok (.invokevirtual 91, 3) := by decide +kernel
theorem d_RD_takesStatement_51 : decode b_RD_takesStatement 51 = .ok (.aload_n 0, 1) := by decide +kernel
theorem d_RD_takesStatement_52 : decode b_RD_takesStatement 52 = .ok (.dup, 1) := by decide +kernel
theorem d_RD_takesStatement_53 : decode b_RD_takesStatement 53 = .ok (.getfield 78, 3) := by decide +kernel
theorem d_RD_takesStatement_56 : decode b_RD_takesStatement 56 = .ok (.iconst 1, 1) := by decide +kernel
theorem d_RD_takesStatement_57 : decode b_RD_takesStatement 57 = .ok (.iadd, 1) := by decide +kernel
theorem d_RD_takesStatement_58 : decode b_RD_takesStatement 58 = .ok (.putfield 78, 3) := by decide +kernel
theorem d_RD_takesStatement_61 : decode b_RD_takesStatement 61 = .ok (.aload_n 1, 1) := by decide +kernel
theorem d_RD_takesStatement_62 : decode b_RD_takesStatement 62 = .ok (.iload_n 2, 1) := by decide +kernel
theorem d_RD_takesStatement_63 : decode b_RD_takesStatement 63 = .ok (.aload_n 0, 1) := by decide +kernel
theorem d_RD_takesStatement_64 : decode b_RD_takesStatement 64 = .ok (.getfield 78, 3) := by decide +kernel
theorem d_RD_takesStatement_67 : decode b_RD_takesStatement 67 = .ok (.invokevirtual 94, 3) := by decide +kernel
theorem d_RD_takesStatement_70 : decode b_RD_takesStatement 70 = .ok (.aload_n 0, 1) := by decide +kernel
theorem d_RD_takesStatement_71 : decode b_RD_takesStatement 71 = .ok (.iload_n 3, 1) := by decide +kernel
theorem d_RD_takesStatement_72 : decode b_RD_takesStatement 72 = .ok (.bipush 63, 2) := by decide +kernel
theorem d_RD_takesStatement_74 : decode b_RD_takesStatement 74 = .ok (.if_icmp .eq 9, 3) := by decide +kernel
theorem d_RD_takesStatement_77 : decode b_RD_takesStatement 77 = .ok (.iload_n 3, 1) := by decide +kernel
theorem d_RD_takesStatement_78 : decode b_RD_takesStatement 78 = .ok (.bipush 64, 2) := by decide +kernel
theorem d_RD_takesStatement_80 : decode b_RD_takesStatement 80 = .ok (.if_icmp .ne 8, 3) := by decide +kernel
theorem d_RD_takesStatement_83 : decode b_RD_takesStatement 83 = .ok (.bipush 123, 2) := by decide +kernel
theorem d_RD_takesStatement_85 : decode b_RD_takesStatement 85 = .ok (.goto 5, 3) := by decide +kernel
theorem d_RD_takesStatement_88 : decode b_RD_takesStatement 88 = .ok (.bipush 59, 2) := by decide +kernel
theorem d_RD_takesStatement_90 : decode b_RD_takesStatement 90 = .ok (.putfield 97, 3) := by decide +kernel
theorem d_RD_takesStatement_93 : decode b_RD_takesStatement 93 = .ok (.aload_n 0, 1) := by decide +kernel
theorem d_RD_takesStatement_94 : decode b_RD_takesStatement 94 = .ok (.iload_n 2, 1) := by decide +kernel
theorem d_RD_takesStatement_95 : decode b_RD_takesStatement 95 = .ok (.iload 4, 2) := by decide +kernel
theorem d_RD_takesStatement_97 : decode b_RD_takesStatement 97 = .ok (.invokevirtual 52, 3) := by decide +kernel
theorem d_RD_takesStatement_100 : decode b_RD_takesStatement 100 = .ok (.ireturn, 1) := by decide +kernel
theorem d_RD_behindFirstSign_0 : decode b_RD_behindFirstSign 0 = .ok (.iload_n 0, 1) := by decide +kernel
theorem d_RD_behindFirstSign_1 : decode b_RD_behindFirstSign 1 = .ok (.invokestatic 100, 3) := by decide +kernel
theorem d_RD_behindFirstSign_4 : decode b_RD_behindFirstSign 4 = .ok (.ifCond .eq 5, 3) := by decide +kernel
theorem d_RD_behindFirstSign_7 : decode b_RD_behindFirstSign 7 = .ok (.iconst 4, 1) := by decide +kernel
theorem d_RD_behindFirstSign_8 : decode b_RD_behindFirstSign 8 = .ok (.ireturn, 1) := by decide +kernel
theorem d_RD_behindFirstSign_9 : decode b_RD_behindFirstSign 9 = .ok (.iload_n 0, 1) := by decide +kernel
theorem d_RD_behindFirstSign_10 : decode b_RD_behindFirstSign 10 = .ok (.invokestatic 72, 3) := by decide +kernel
theorem d_RD_behindFirstSign_13 : decode b_RD_behindFirstSign 13 = .ok (.ifCond .eq 5, 3) := by decide +kernel
theorem d_RD_behindFirstSign_16 : decode b_RD_behindFirstSign 16 = .ok (.iconst 5, 1) := by decide +kernel
theorem d_RD_behindFirstSign_17 : decode b_RD_behindFirstSign 17 = .ok (.ireturn, 1) := by decide +kernel
theorem d_RD_behindFirstSign_18 : decode b_RD_behindFirstSign 18 = .ok (.iload_n 0, 1) := by decide +kernel
theorem d_RD_behindFirstSign_19 : decode b_RD_behindFirstSign 19 = .ok (.bipush 33, 2) := by decide +kernel
theorem d_RD_behindFirstSign_21 : decode b_RD_behindFirstSign 21 = .ok (.if_icmp .eq 15, 3) := by decide +kernel
theorem d_RD_behindFirstSign_24 : decode b_RD_behindFirstSign 24 = .ok (.iload_n 0, 1) := by decide +kernel
theorem d_RD_behindFirstSign_25 : decode b_RD_behindFirstSign 25 = .ok (.bipush 63, 2) := by decide +kernel
theorem d_RD_behindFirstSign_27 : decode b_RD_behindFirstSign 27 = .ok (.if_icmp .eq 9, 3) := by decide +kernel
theorem d_RD_behindFirstSign_30 : decode b_RD_behindFirstSign 30 = .ok (.iload_n 0, 1) := by decide +kernel
theorem d_RD_behindFirstSign_31 : decode b_RD_behindFirstSign 31 = .ok (.bipush 64, 2) := by decide +kernel
theorem d_RD_behindFirstSign_33 : decode b_RD_behindFirstSign 33 = .ok (.if_icmp .ne 8, 3) := by decide +kernel
theorem d_RD_behindFirstSign_36 : decode b_RD_behindFirstSign 36 = .ok (.bipush 6, 2) := by decide +kernel
theorem d_RD_behindFirstSign_38 : decode b_RD_behindFirstSign 38 = .ok (.goto 4, 3) := by decide +kernel
theorem d_RD_behindFirstSign_41 : decode b_RD_behindFirstSign 41 = .ok (.iconst 2, 1) := by decide +kernel
theorem d_RD_behindFirstSign_42 : decode b_RD_behindFirstSign 42 = .ok (.ireturn, 1) := by decide +kernel
theorem d_RD_closesBlock_0 : decode b_RD_closesBlock 0 = .ok (.aload_n 0, 1) := by decide +kernel
theorem d_RD_closesBlock_1 : decode b_RD_closesBlock 1 = .ok (.getfield 20, 3) := by decide +kernel
theorem d_RD_closesBlock_4 : decode b_RD_closesBlock 4 = .ok (.iconst 1, 1) := by decide +kernel
theorem d_RD_closesBlock_5 : decode b_RD_closesBlock 5 = .ok (.if_icmp .ge 5, 3) := by decide +kernel
theorem d_RD_closesBlock_8 : decode b_RD_closesBlock 8 = .ok (.iconst 0, 1) := by decide +kernel
theorem d_RD_closesBlock_9 : decode b_RD_closesBlock 9 = .ok (.ireturn, 1) := by decide +kernel
theorem d_RD_closesBlock_10 : decode b_RD_closesBlock 10 = .ok (.aload_n 0, 1) := by decide +kernel
theorem d_RD_closesBlock_11 : decode b_RD_closesBlock 11 = .ok (.dup, 1) := by decide +kernel
theorem d_RD_closesBlock_12 : decode b_RD_closesBlock 12 = .ok (.getfield 20, 3) := by decide +kernel
theorem d_RD_closesBlock_15 : decode b_RD_closesBlock 15 = .ok (.iconst 1, 1) := by decide +kernel
theorem d_RD_closesBlock_16 : decode b_RD_closesBlock 16 = .ok (.isub, 1) := by decide +kernel
theorem d_RD_closesBlock_17 : decode b_RD_closesBlock 17 = .ok (.putfield 20, 3) := by decide +kernel
theorem d_RD_closesBlock_20 : decode b_RD_closesBlock 20 = .ok (.aload_n 0, 1) := by decide +kernel
theorem d_RD_closesBlock_21 : decode b_RD_closesBlock 21 = .ok (.getfield 9, 3) := by decide +kernel
theorem d_RD_closesBlock_24 : decode b_RD_closesBlock 24 = .ok (.aload_n 0, 1) := by decide +kernel
theorem d_RD_closesBlock_25 : decode b_RD_closesBlock 25 = .ok (.getfield 20, 3) := by decide +kernel
theorem d_RD_closesBlock_28 : decode b_RD_closesBlock 28 = .ok (.iaload, 1) := by decide +kernel
theorem d_RD_closesBlock_29 : decode b_RD_closesBlock 29 = .ok (.istore_n 3, 1) := by decide +kernel
theorem d_RD_closesBlock_30 : decode b_RD_closesBlock 30 = .ok (.aload_n 1, 1) := by decide +kernel
theorem d_RD_closesBlock_31 : decode b_RD_closesBlock 31 = .ok (.iload_n 3, 1) := by decide +kernel
theorem d_RD_closesBlock_32 : decode b_RD_closesBlock 32 = .ok (.iload_n 2, 1) := by decide +kernel
theorem d_RD_closesBlock_33 : decode b_RD_closesBlock 33 = .ok (.invokevirtual 103, 3) := by decide +kernel
theorem d_RD_closesBlock_36 : decode b_RD_closesBlock 36 = .ok (.aload_n 1, 1) := by decide +kernel
theorem d_RD_closesBlock_37 : decode b_RD_closesBlock 37 = .ok (.iload_n 3, 1) := by decide +kernel
theorem d_RD_closesBlock_38 : decode b_RD_closesBlock 38 = .ok (.invokevirtual 35, 3) := by decide +kernel
theorem d_RD_closesBlock_41 : decode b_RD_closesBlock 41 = .ok (.istore 4, 2) := by decide +kernel
theorem d_RD_closesBlock_43 : decode b_RD_closesBlock 43 = .ok (.iload 4, 2) := by decide +kernel
theorem d_RD_closesBlock_45 : decode b_RD_closesBlock 45 = .ok (.invokestatic 72, 3) := by decide +kernel
theorem d_RD_closesBlock_48 : decode b_RD_closesBlock 48 = .ok (.ifCond .eq 9, 3) := by decide +kernel
theorem d_RD_closesBlock_51 : decode b_RD_closesBlock 51 = .ok (.aload_n 0, 1) := by decide +kernel
theorem d_RD_closesBlock_52 : decode b_RD_closesBlock 52 = .ok (.iconst 0, 1) := by decide +kernel
theorem d_RD_closesBlock_53 : decode b_RD_closesBlock 53 = .ok (.invokevirtual 55, 3) := by decide +kernel
theorem d_RD_closesBlock_56 : decode b_RD_closesBlock 56 = .ok (.ireturn, 1) := by decide +kernel
theorem d_RD_closesBlock_57 : decode b_RD_closesBlock 57 = .ok (.aload_n 0, 1) := by decide +kernel
theorem d_RD_closesBlock_58 : decode b_RD_closesBlock 58 = .ok (.iload 4, 2) := by decide +kernel
theorem d_RD_closesBlock_60 : decode b_RD_closesBlock 60 = .ok (.bipush 63, 2) := by decide +kernel
theorem d_RD_closesBlock_62 : decode b_RD_closesBlock 62 = .ok (.if_icmp .ne 7, 3) := by decide +kernel
theorem d_RD_closesBlock_65 : decode b_RD_closesBlock 65 = .ok (.iconst 3, 1) := by decide +kernel
theorem d_RD_closesBlock_66 : decode b_RD_closesBlock 66 = .ok (.goto 4, 3) := by decide +kernel
theorem d_RD_closesBlock_69 : decode b_RD_closesBlock 69 = .ok (.iconst 2, 1) := by decide +kernel
theorem d_RD_closesBlock_70 : decode b_RD_closesBlock 70 = .ok (.invokevirtual 55, 3) := by decide +kernel
theorem d_RD_closesBlock_73 : decode b_RD_closesBlock 73 = .ok (.ireturn, 1) := by decide +kernel
theorem d_RD_takesOperand_0 : decode b_RD_takesOperand 0 = .ok (.aload_n 1, 1) := by decide +kernel
theorem d_RD_takesOperand_1 : decode b_RD_takesOperand 1 = .ok (.iload_n 2, 1) := by decide +kernel
theorem d_RD_takesOperand_2 : decode b_RD_takesOperand 2 = .ok (.invokevirtual 35, 3) := by decide +kernel
theorem d_RD_takesOperand_5 : decode b_RD_takesOperand 5 = .ok (.istore_n 3, 1) := by decide +kernel
theorem d_RD_takesOperand_6 : decode b_RD_takesOperand 6 = .ok (.iload_n 3, 1) := by decide +kernel
theorem d_RD_takesOperand_7 : decode b_RD_takesOperand 7 = .ok (.bipush 40, 2) := by decide +kernel
theorem d_RD_takesOperand_9 : decode b_RD_takesOperand 9 = .ok (.if_icmp .eq 10, 3) := by decide +kernel
theorem d_RD_takesOperand_12 : decode b_RD_takesOperand 12 = .ok (.iload_n 3, 1) := by decide +kernel
theorem d_RD_takesOperand_13 : decode b_RD_takesOperand 13 = .ok (.invokestatic 106, 3) := by decide +kernel
theorem d_RD_takesOperand_16 : decode b_RD_takesOperand 16 = .ok (.ifCond .eq 11, 3) := by decide +kernel
theorem d_RD_takesOperand_19 : decode b_RD_takesOperand 19 = .ok (.aload_n 0, 1) := by decide +kernel
theorem d_RD_takesOperand_20 : decode b_RD_takesOperand 20 = .ok (.iload_n 2, 1) := by decide +kernel
theorem d_RD_takesOperand_21 : decode b_RD_takesOperand 21 = .ok (.bipush 6, 2) := by decide +kernel
theorem d_RD_takesOperand_23 : decode b_RD_takesOperand 23 = .ok (.invokevirtual 45, 3) := by decide +kernel
theorem d_RD_takesOperand_26 : decode b_RD_takesOperand 26 = .ok (.ireturn, 1) := by decide +kernel
theorem d_RD_takesOperand_27 : decode b_RD_takesOperand 27 = .ok (.iload_n 3, 1) := by decide +kernel
theorem d_RD_takesOperand_28 : decode b_RD_takesOperand 28 = .ok (.invokestatic 100, 3) := by decide +kernel
theorem d_RD_takesOperand_31 : decode b_RD_takesOperand 31 = .ok (.ifCond .eq 11, 3) := by decide +kernel
theorem d_RD_takesOperand_34 : decode b_RD_takesOperand 34 = .ok (.aload_n 0, 1) := by decide +kernel
theorem d_RD_takesOperand_35 : decode b_RD_takesOperand 35 = .ok (.aload_n 1, 1) := by decide +kernel
theorem d_RD_takesOperand_36 : decode b_RD_takesOperand 36 = .ok (.bipush 8, 2) := by decide +kernel
theorem d_RD_takesOperand_38 : decode b_RD_takesOperand 38 = .ok (.invokevirtual 109, 3) := by decide +kernel
theorem d_RD_takesOperand_41 : decode b_RD_takesOperand 41 = .ok (.ireturn, 1) := by decide +kernel
theorem d_RD_takesOperand_42 : decode b_RD_takesOperand 42 = .ok (.aload_n 0, 1) := by decide +kernel
theorem d_RD_takesOperand_43 : decode b_RD_takesOperand 43 = .ok (.iconst 1, 1) := by decide +kernel
theorem d_RD_takesOperand_44 : decode b_RD_takesOperand 44 = .ok (.putfield 112, 3) := by decide +kernel
theorem d_RD_takesOperand_47 : decode b_RD_takesOperand 47 = .ok (.iload_n 3, 1) := by decide +kernel
theorem d_RD_takesOperand_48 : decode b_RD_takesOperand 48 = .ok (.invokestatic 62, 3) := by decide +kernel
theorem d_RD_takesOperand_51 : decode b_RD_takesOperand 51 = .ok (.ifCond .eq 17, 3) := by decide +kernel
theorem d_RD_takesOperand_54 : decode b_RD_takesOperand 54 = .ok (.aload_n 0, 1) := by decide +kernel
theorem d_RD_takesOperand_55 : decode b_RD_takesOperand 55 = .ok (.aload_n 1, 1) := by decide +kernel
theorem d_RD_takesOperand_56 : decode b_RD_takesOperand 56 = .ok (.bipush 7, 2) := by decide +kernel
theorem d_RD_takesOperand_58 : decode b_RD_takesOperand 58 = .ok (.invokevirtual 109, 3) := by decide +kernel
theorem d_RD_takesOperand_61 : decode b_RD_takesOperand 61 = .ok (.ifCond .eq 7, 3) := by decide +kernel
theorem d_RD_takesOperand_64 : decode b_RD_takesOperand 64 = .ok (.iconst 1, 1) := by decide +kernel
theorem d_RD_takesOperand_65 : decode b_RD_takesOperand 65 = .ok (.goto 4, 3) := by decide +kernel
theorem d_RD_takesOperand_68 : decode b_RD_takesOperand 68 = .ok (.iconst 0, 1) := by decide +kernel
theorem d_RD_takesOperand_69 : decode b_RD_takesOperand 69 = .ok (.ireturn, 1) := by decide +kernel
theorem d_RD_takesDigit_0 : decode b_RD_takesDigit 0 = .ok (.aload_n 0, 1) := by decide +kernel
theorem d_RD_takesDigit_1 : decode b_RD_takesDigit 1 = .ok (.dup, 1) := by decide +kernel
theorem d_RD_takesDigit_2 : decode b_RD_takesDigit 2 = .ok (.getfield 112, 3) := by decide +kernel
theorem d_RD_takesDigit_5 : decode b_RD_takesDigit 5 = .ok (.iconst 1, 1) := by decide +kernel
theorem d_RD_takesDigit_6 : decode b_RD_takesDigit 6 = .ok (.iadd, 1) := by decide +kernel
theorem d_RD_takesDigit_7 : decode b_RD_takesDigit 7 = .ok (.putfield 112, 3) := by decide +kernel
theorem d_RD_takesDigit_10 : decode b_RD_takesDigit 10 = .ok (.aload_n 0, 1) := by decide +kernel
theorem d_RD_takesDigit_11 : decode b_RD_takesDigit 11 = .ok (.getfield 112, 3) := by decide +kernel
theorem d_RD_takesDigit_14 : decode b_RD_takesDigit 14 = .ok (.iconst 4, 1) := by decide +kernel
theorem d_RD_takesDigit_15 : decode b_RD_takesDigit 15 = .ok (.if_icmp .gt 7, 3) := by decide +kernel
theorem d_RD_takesDigit_18 : decode b_RD_takesDigit 18 = .ok (.iconst 1, 1) := by decide +kernel
theorem d_RD_takesDigit_19 : decode b_RD_takesDigit 19 = .ok (.goto 4, 3) := by decide +kernel
theorem d_RD_takesDigit_22 : decode b_RD_takesDigit 22 = .ok (.iconst 0, 1) := by decide +kernel
theorem d_RD_takesDigit_23 : decode b_RD_takesDigit 23 = .ok (.ireturn, 1) := by decide +kernel
theorem d_RD_takesOperator_0 : decode b_RD_takesOperator 0 = .ok (.aload_n 1, 1) := by decide +kernel
theorem d_RD_takesOperator_1 : decode b_RD_takesOperator 1 = .ok (.iload_n 2, 1) := by decide +kernel
theorem d_RD_takesOperator_2 : decode b_RD_takesOperator 2 = .ok (.invokevirtual 35, 3) := by decide +kernel
theorem d_RD_takesOperator_5 : decode b_RD_takesOperator 5 = .ok (.istore_n 3, 1) := by decide +kernel
theorem d_RD_takesOperator_6 : decode b_RD_takesOperator 6 = .ok (.iload_n 3, 1) := by decide +kernel
theorem d_RD_takesOperator_7 : decode b_RD_takesOperator 7 = .ok (.invokestatic 115, 3) := by decide +kernel
theorem d_RD_takesOperator_10 : decode b_RD_takesOperator 10 = .ok (.iconst (-1), 1) := by decide +kernel
theorem d_RD_takesOperator_11 : decode b_RD_takesOperator 11 = .ok (.if_icmp .eq 10, 3) := by decide +kernel
theorem d_RD_takesOperator_14 : decode b_RD_takesOperator 14 = .ok (.aload_n 0, 1) := by decide +kernel
theorem d_RD_takesOperator_15 : decode b_RD_takesOperator 15 = .ok (.bipush 6, 2) := by decide +kernel
theorem d_RD_takesOperator_17 : decode b_RD_takesOperator 17 = .ok (.invokevirtual 55, 3) := by decide +kernel
theorem d_RD_takesOperator_20 : decode b_RD_takesOperator 20 = .ok (.ireturn, 1) := by decide +kernel
theorem d_RD_takesOperator_21 : decode b_RD_takesOperator 21 = .ok (.aload_n 0, 1) := by decide +kernel
theorem d_RD_takesOperator_22 : decode b_RD_takesOperator 22 = .ok (.aload_n 1, 1) := by decide +kernel
theorem d_RD_takesOperator_23 : decode b_RD_takesOperator 23 = .ok (.invokevirtual 118, 3) := by decide +kernel
theorem d_RD_takesOperator_26 : decode b_RD_takesOperator 26 = .ok (.bipush 40, 2) := by decide +kernel
theorem d_RD_takesOperator_28 : decode b_RD_takesOperator 28 = .ok (.if_icmp .ne 7, 3) := by decide +kernel
theorem d_RD_takesOperator_31 : decode b_RD_takesOperator 31 = .ok (.iconst 1, 1) := by decide +kernel
theorem d_RD_takesOperator_32 : decode b_RD_takesOperator 32 = .ok (.goto 4, 3) := by decide +kernel
theorem d_RD_takesOperator_35 : decode b_RD_takesOperator 35 = .ok (.iconst 0, 1) := by decide +kernel
theorem d_RD_takesOperator_36 : decode b_RD_takesOperator 36 = .ok (.istore 4, 2) := by decide +kernel
theorem d_RD_takesOperator_38 : decode b_RD_takesOperator 38 = .ok (.iload_n 3, 1) := by decide +kernel
theorem d_RD_takesOperator_39 : decode b_RD_takesOperator 39 = .ok (.iload 4, 2) := by decide +kernel
theorem d_RD_takesOperator_41 : decode b_RD_takesOperator 41 = .ok (.ifCond .eq 8, 3) := by decide +kernel
theorem d_RD_takesOperator_44 : decode b_RD_takesOperator 44 = .ok (.bipush 41, 2) := by decide +kernel
theorem d_RD_takesOperator_46 : decode b_RD_takesOperator 46 = .ok (.goto 7, 3) := by decide +kernel
theorem d_RD_takesOperator_49 : decode b_RD_takesOperator 49 = .ok (.aload_n 0, 1) := by decide +kernel
theorem d_RD_takesOperator_50 : decode b_RD_takesOperator 50 = .ok (.getfield 97, 3) := by decide +kernel
theorem d_RD_takesOperator_53 : decode b_RD_takesOperator 53 = .ok (.if_icmp .eq 5, 3) := by decide +kernel
theorem d_RD_takesOperator_56 : decode b_RD_takesOperator 56 = .ok (.iconst 0, 1) := by decide +kernel
theorem d_RD_takesOperator_57 : decode b_RD_takesOperator 57 = .ok (.ireturn, 1) := by decide +kernel
theorem d_RD_takesOperator_58 : decode b_RD_takesOperator 58 = .ok (.iload 4, 2) := by decide +kernel
theorem d_RD_takesOperator_60 : decode b_RD_takesOperator 60 = .ok (.ifCond .eq 21, 3) := by decide +kernel
theorem d_RD_takesOperator_63 : decode b_RD_takesOperator 63 = .ok (.aload_n 0, 1) := by decide +kernel
theorem d_RD_takesOperator_64 : decode b_RD_takesOperator 64 = .ok (.dup, 1) := by decide +kernel
theorem d_RD_takesOperator_65 : decode b_RD_takesOperator 65 = .ok (.getfield 20, 3) := by decide +kernel
theorem d_RD_takesOperator_68 : decode b_RD_takesOperator 68 = .ok (.iconst 1, 1) := by decide +kernel
theorem d_RD_takesOperator_69 : decode b_RD_takesOperator 69 = .ok (.isub, 1) := by decide +kernel
theorem d_RD_takesOperator_70 : decode b_RD_takesOperator 70 = .ok (.putfield 20, 3) := by decide +kernel
theorem d_RD_takesOperator_73 : decode b_RD_takesOperator 73 = .ok (.aload_n 0, 1) := by decide +kernel
theorem d_RD_takesOperator_74 : decode b_RD_takesOperator 74 = .ok (.aload_n 1, 1) := by decide +kernel
theorem d_RD_takesOperator_75 : decode b_RD_takesOperator 75 = .ok (.bipush 8, 2) := by decide +kernel
theorem d_RD_takesOperator_77 : decode b_RD_takesOperator 77 = .ok (.invokevirtual 109, 3) := by decide +kernel
theorem d_RD_takesOperator_80 : decode b_RD_takesOperator 80 = .ok (.ireturn, 1) := by decide +kernel
theorem d_RD_takesOperator_81 : decode b_RD_takesOperator 81 = .ok (.iload_n 3, 1) := by decide +kernel
theorem d_RD_takesOperator_82 : decode b_RD_takesOperator 82 = .ok (.bipush 123, 2) := by decide +kernel
theorem d_RD_takesOperator_84 : decode b_RD_takesOperator 84 = .ok (.if_icmp .ne 15, 3) := by decide +kernel
theorem d_RD_takesOperator_87 : decode b_RD_takesOperator 87 = .ok (.aload_n 0, 1) := by decide +kernel
theorem d_RD_takesOperator_88 : decode b_RD_takesOperator 88 = .ok (.aload_n 0, 1) := by decide +kernel
theorem d_RD_takesOperator_89 : decode b_RD_takesOperator 89 = .ok (.getfield 42, 3) := by decide +kernel
theorem d_RD_takesOperator_92 : decode b_RD_takesOperator 92 = .ok (.iconst 2, 1) := by decide +kernel
theorem d_RD_takesOperator_93 : decode b_RD_takesOperator 93 = .ok (.invokevirtual 45, 3) := by decide +kernel
theorem d_RD_takesOperator_96 : decode b_RD_takesOperator 96 = .ok (.goto 8, 3) := by decide +kernel
theorem d_RD_takesOperator_99 : decode b_RD_takesOperator 99 = .ok (.aload_n 0, 1) := by decide +kernel
theorem d_RD_takesOperator_100 : decode b_RD_takesOperator 100 = .ok (.iconst 2, 1) := by decide +kernel
theorem d_RD_takesOperator_101 : decode b_RD_takesOperator 101 = .ok (.invokevirtual 55, 3) := by decide +kernel
theorem d_RD_takesOperator_104 : decode b_RD_takesOperator 104 = .ok (.ireturn, 1) := by decide +kernel
theorem d_RD_endsOperand_0 : decode b_RD_endsOperand 0 = .ok (.aload_n 0, 1) := by decide +kernel
theorem d_RD_endsOperand_1 : decode b_RD_endsOperand 1 = .ok (.getfield 20, 3) := by decide +kernel
theorem d_RD_endsOperand_4 : decode b_RD_endsOperand 4 = .ok (.ifCond .le 27, 3) := by decide +kernel
theorem d_RD_endsOperand_7 : decode b_RD_endsOperand 7 = .ok (.aload_n 0, 1) := by decide +kernel
theorem d_RD_endsOperand_8 : decode b_RD_endsOperand 8 = .ok (.aload_n 1, 1) := by decide +kernel
theorem d_RD_endsOperand_9 : decode b_RD_endsOperand 9 = .ok (.invokevirtual 118, 3) := by decide +kernel
theorem d_RD_endsOperand_12 : decode b_RD_endsOperand 12 = .ok (.invokestatic 106, 3) := by decide +kernel
theorem d_RD_endsOperand_15 : decode b_RD_endsOperand 15 = .ok (.ifCond .eq 16, 3) := by decide +kernel
theorem d_RD_endsOperand_18 : decode b_RD_endsOperand 18 = .ok (.aload_n 0, 1) := by decide +kernel
theorem d_RD_endsOperand_19 : decode b_RD_endsOperand 19 = .ok (.dup, 1) := by decide +kernel
theorem d_RD_endsOperand_20 : decode b_RD_endsOperand 20 = .ok (.getfield 20, 3) := by decide +kernel
theorem d_RD_endsOperand_23 : decode b_RD_endsOperand 23 = .ok (.iconst 1, 1) := by decide +kernel
theorem d_RD_endsOperand_24 : decode b_RD_endsOperand 24 = .ok (.isub, 1) := by decide +kernel
theorem d_RD_endsOperand_25 : decode b_RD_endsOperand 25 = .ok (.putfield 20, 3) := by decide +kernel
theorem d_RD_endsOperand_28 : decode b_RD_endsOperand 28 = .ok (.goto (-28), 3) := by decide +kernel
theorem d_RD_endsOperand_31 : decode b_RD_endsOperand 31 = .ok (.aload_n 0, 1) := by decide +kernel
theorem d_RD_endsOperand_32 : decode b_RD_endsOperand 32 = .ok (.iload_n 2, 1) := by decide +kernel
theorem d_RD_endsOperand_33 : decode b_RD_endsOperand 33 = .ok (.invokevirtual 55, 3) := by decide +kernel
theorem d_RD_endsOperand_36 : decode b_RD_endsOperand 36 = .ok (.ireturn, 1) := by decide +kernel
theorem d_RD_lastOpen_0 : decode b_RD_lastOpen 0 = .ok (.aload_n 0, 1) := by decide +kernel
theorem d_RD_lastOpen_1 : decode b_RD_lastOpen 1 = .ok (.getfield 20, 3) := by decide +kernel
theorem d_RD_lastOpen_4 : decode b_RD_lastOpen 4 = .ok (.ifCond .le 21, 3) := by decide +kernel
theorem d_RD_lastOpen_7 : decode b_RD_lastOpen 7 = .ok (.aload_n 1, 1) := by decide +kernel
theorem d_RD_lastOpen_8 : decode b_RD_lastOpen 8 = .ok (.aload_n 0, 1) := by decide +kernel
theorem d_RD_lastOpen_9 : decode b_RD_lastOpen 9 = .ok (.getfield 9, 3) := by decide +kernel
theorem d_RD_lastOpen_12 : decode b_RD_lastOpen 12 = .ok (.aload_n 0, 1) := by decide +kernel
theorem d_RD_lastOpen_13 : decode b_RD_lastOpen 13 = .ok (.getfield 20, 3) := by decide +kernel
theorem d_RD_lastOpen_16 : decode b_RD_lastOpen 16 = .ok (.iconst 1, 1) := by decide +kernel
theorem d_RD_lastOpen_17 : decode b_RD_lastOpen 17 = .ok (.isub, 1) := by decide +kernel
theorem d_RD_lastOpen_18 : decode b_RD_lastOpen 18 = .ok (.iaload, 1) := by decide +kernel
theorem d_RD_lastOpen_19 : decode b_RD_lastOpen 19 = .ok (.invokevirtual 35, 3) := by decide +kernel
theorem d_RD_lastOpen_22 : decode b_RD_lastOpen 22 = .ok (.goto 4, 3) := by decide +kernel
theorem d_RD_lastOpen_25 : decode b_RD_lastOpen 25 = .ok (.iconst 0, 1) := by decide +kernel
theorem d_RD_lastOpen_26 : decode b_RD_lastOpen 26 = .ok (.ireturn, 1) := by decide +kernel
theorem d_RD_opens_0 : decode b_RD_opens 0 = .ok (.aload_n 0, 1) := by decide +kernel
theorem d_RD_opens_1 : decode b_RD_opens 1 = .ok (.getfield 20, 3) := by decide +kernel
theorem d_RD_opens_4 : decode b_RD_opens 4 = .ok (.bipush 6, 2) := by decide +kernel
theorem d_RD_opens_6 : decode b_RD_opens 6 = .ok (.if_icmp .lt 5, 3) := by decide +kernel
theorem d_RD_opens_9 : decode b_RD_opens 9 = .ok (.iconst 0, 1) := by decide +kernel
theorem d_RD_opens_10 : decode b_RD_opens 10 = .ok (.ireturn, 1) := by decide +kernel
theorem d_RD_opens_11 : decode b_RD_opens 11 = .ok (.aload_n 0, 1) := by decide +kernel
theorem d_RD_opens_12 : decode b_RD_opens 12 = .ok (.getfield 9, 3) := by decide +kernel
theorem d_RD_opens_15 : decode b_RD_opens 15 = .ok (.aload_n 0, 1) := by decide +kernel
theorem d_RD_opens_16 : decode b_RD_opens 16 = .ok (.getfield 20, 3) := by decide +kernel
theorem d_RD_opens_19 : decode b_RD_opens 19 = .ok (.iload_n 1, 1) := by decide +kernel
theorem d_RD_opens_20 : decode b_RD_opens 20 = .ok (.iastore, 1) := by decide +kernel
theorem d_RD_opens_21 : decode b_RD_opens 21 = .ok (.aload_n 0, 1) := by decide +kernel
theorem d_RD_opens_22 : decode b_RD_opens 22 = .ok (.dup, 1) := by decide +kernel
theorem d_RD_opens_23 : decode b_RD_opens 23 = .ok (.getfield 20, 3) := by decide +kernel
theorem d_RD_opens_26 : decode b_RD_opens 26 = .ok (.iconst 1, 1) := by decide +kernel
theorem d_RD_opens_27 : decode b_RD_opens 27 = .ok (.iadd, 1) := by decide +kernel
theorem d_RD_opens_28 : decode b_RD_opens 28 = .ok (.putfield 20, 3) := by decide +kernel
theorem d_RD_opens_31 : decode b_RD_opens 31 = .ok (.aload_n 0, 1) := by decide +kernel
theorem d_RD_opens_32 : decode b_RD_opens 32 = .ok (.iload_n 2, 1) := by decide +kernel
theorem d_RD_opens_33 : decode b_RD_opens 33 = .ok (.invokevirtual 55, 3) := by decide +kernel
theorem d_RD_opens_36 : decode b_RD_opens 36 = .ok (.ireturn, 1) := by decide +kernel
theorem d_RD_begins_0 : decode b_RD_begins 0 = .ok (.aload_n 0, 1) := by decide +kernel
theorem d_RD_begins_1 : decode b_RD_begins 1 = .ok (.iload_n 1, 1) := by decide +kernel
theorem d_RD_begins_2 : decode b_RD_begins 2 = .ok (.putfield 42, 3) := by decide +kernel
theorem d_RD_begins_5 : decode b_RD_begins 5 = .ok (.aload_n 0, 1) := by decide +kernel
theorem d_RD_begins_6 : decode b_RD_begins 6 = .ok (.iload_n 2, 1) := by decide +kernel
theorem d_RD_begins_7 : decode b_RD_begins 7 = .ok (.invokevirtual 55, 3) := by decide +kernel
theorem d_RD_begins_10 : decode b_RD_begins 10 = .ok (.ireturn, 1) := by decide +kernel
theorem d_RD_expects_0 : decode b_RD_expects 0 = .ok (.aload_n 0, 1) := by decide +kernel
theorem d_RD_expects_1 : decode b_RD_expects 1 = .ok (.iload_n 1, 1) := by decide +kernel
theorem d_RD_expects_2 : decode b_RD_expects 2 = .ok (.putfield 24, 3) := by decide +kernel
theorem d_RD_expects_5 : decode b_RD_expects 5 = .ok (.iconst 1, 1) := by decide +kernel
theorem d_RD_expects_6 : decode b_RD_expects 6 = .ok (.ireturn, 1) := by decide +kernel
theorem d_JI_bitCount_0 : decode b_JI_bitCount 0 = .ok (.iload_n 0, 1) := by decide +kernel
theorem d_JI_bitCount_1 : decode b_JI_bitCount 1 = .ok (.iload_n 0, 1) := by decide +kernel
theorem d_JI_bitCount_2 : decode b_JI_bitCount 2 = .ok (.iconst 1, 1) := by decide +kernel
theorem d_JI_bitCount_3 : decode b_JI_bitCount 3 = .ok (.iushr, 1) := by decide +kernel
theorem d_JI_bitCount_4 : decode b_JI_bitCount 4 = .ok (.ldc_w 265, 3) := by decide +kernel
theorem d_JI_bitCount_7 : decode b_JI_bitCount 7 = .ok (.iand, 1) := by decide +kernel
theorem d_JI_bitCount_8 : decode b_JI_bitCount 8 = .ok (.isub, 1) := by decide +kernel
theorem d_JI_bitCount_9 : decode b_JI_bitCount 9 = .ok (.istore_n 0, 1) := by decide +kernel
theorem d_JI_bitCount_10 : decode b_JI_bitCount 10 = .ok (.iload_n 0, 1) := by decide +kernel
theorem d_JI_bitCount_11 : decode b_JI_bitCount 11 = .ok (.ldc_w 266, 3) := by decide +kernel
theorem d_JI_bitCount_14 : decode b_JI_bitCount 14 = .ok (.iand, 1) := by decide +kernel
theorem d_JI_bitCount_15 : decode b_JI_bitCount 15 = .ok (.iload_n 0, 1) := by decide +kernel
theorem d_JI_bitCount_16 : decode b_JI_bitCount 16 = .ok (.iconst 2, 1) := by decide +kernel
theorem d_JI_bitCount_17 : decode b_JI_bitCount 17 = .ok (.iushr, 1) := by decide +kernel
theorem d_JI_bitCount_18 : decode b_JI_bitCount 18 = .ok (.ldc_w 266, 3) := by decide +kernel
theorem d_JI_bitCount_21 : decode b_JI_bitCount 21 = .ok (.iand, 1) := by decide +kernel
theorem d_JI_bitCount_22 : decode b_JI_bitCount 22 = .ok (.iadd, 1) := by decide +kernel
theorem d_JI_bitCount_23 : decode b_JI_bitCount 23 = .ok (.istore_n 0, 1) := by decide +kernel
theorem d_JI_bitCount_24 : decode b_JI_bitCount 24 = .ok (.iload_n 0, 1) := by decide +kernel
theorem d_JI_bitCount_25 : decode b_JI_bitCount 25 = .ok (.iload_n 0, 1) := by decide +kernel
theorem d_JI_bitCount_26 : decode b_JI_bitCount 26 = .ok (.iconst 4, 1) := by decide +kernel
theorem d_JI_bitCount_27 : decode b_JI_bitCount 27 = .ok (.iushr, 1) := by decide +kernel
theorem d_JI_bitCount_28 : decode b_JI_bitCount 28 = .ok (.iadd, 1) := by decide +kernel
theorem d_JI_bitCount_29 : decode b_JI_bitCount 29 = .ok (.ldc_w 267, 3) := by decide +kernel
theorem d_JI_bitCount_32 : decode b_JI_bitCount 32 = .ok (.iand, 1) := by decide +kernel
theorem d_JI_bitCount_33 : decode b_JI_bitCount 33 = .ok (.istore_n 0, 1) := by decide +kernel
theorem d_JI_bitCount_34 : decode b_JI_bitCount 34 = .ok (.iload_n 0, 1) := by decide +kernel
theorem d_JI_bitCount_35 : decode b_JI_bitCount 35 = .ok (.iload_n 0, 1) := by decide +kernel
theorem d_JI_bitCount_36 : decode b_JI_bitCount 36 = .ok (.bipush 8, 2) := by decide +kernel
theorem d_JI_bitCount_38 : decode b_JI_bitCount 38 = .ok (.iushr, 1) := by decide +kernel
theorem d_JI_bitCount_39 : decode b_JI_bitCount 39 = .ok (.iadd, 1) := by decide +kernel
theorem d_JI_bitCount_40 : decode b_JI_bitCount 40 = .ok (.istore_n 0, 1) := by decide +kernel
theorem d_JI_bitCount_41 : decode b_JI_bitCount 41 = .ok (.iload_n 0, 1) := by decide +kernel
theorem d_JI_bitCount_42 : decode b_JI_bitCount 42 = .ok (.iload_n 0, 1) := by decide +kernel
theorem d_JI_bitCount_43 : decode b_JI_bitCount 43 = .ok (.bipush 16, 2) := by decide +kernel
theorem d_JI_bitCount_45 : decode b_JI_bitCount 45 = .ok (.iushr, 1) := by decide +kernel
theorem d_JI_bitCount_46 : decode b_JI_bitCount 46 = .ok (.iadd, 1) := by decide +kernel
theorem d_JI_bitCount_47 : decode b_JI_bitCount 47 = .ok (.istore_n 0, 1) := by decide +kernel
theorem d_JI_bitCount_48 : decode b_JI_bitCount 48 = .ok (.iload_n 0, 1) := by decide +kernel
theorem d_JI_bitCount_49 : decode b_JI_bitCount 49 = .ok (.bipush 63, 2) := by decide +kernel
theorem d_JI_bitCount_51 : decode b_JI_bitCount 51 = .ok (.iand, 1) := by decide +kernel
theorem d_JI_bitCount_52 : decode b_JI_bitCount 52 = .ok (.ireturn, 1) := by decide +kernel
end
section
def f_GS_isModule (p0 : Int32) : Int32 :=
  if p0 < 0 then
    (0 : Int32)
  else
    if (3 : Int32) ≤ p0 then
      (0 : Int32)
    else
      (1 : Int32)
def f_GS_isLetter (p0 : Int32) : Int32 :=
  if p0 < 65 then
    (0 : Int32)
  else
    if (90 : Int32) < p0 then
      (0 : Int32)
    else
      (1 : Int32)
def f_GS_isLetterNumber (p0 : Int32) : Int32 :=
  if p0 < 0 then
    (0 : Int32)
  else
    if (26 : Int32) ≤ p0 then
      (0 : Int32)
    else
      (1 : Int32)
def f_GS_hasBit (p0 : Int32) (p1 : Int32) : Int32 :=
  let x2 : Int32 := (p0.toUInt32 >>> (p1.toUInt32 &&& Int32.toUInt32 31)).toInt32
  let x4 : Int32 := x2 &&& (1 : Int32)
  if x4 = 0 then
    (0 : Int32)
  else
    (1 : Int32)
def f_GS_isVariable (p0 : Int32) : Int32 :=
  if p0 < 97 then
    (0 : Int32)
  else
    if (104 : Int32) < p0 then
      (0 : Int32)
    else
      (1 : Int32)
def f_RD_behindFirstSign (p0 : Int32) : Int32 :=
  let x1 := f_GS_isVariable p0
  if x1 = 0 then
    let x10 := f_GS_isLetter p0
    if x10 = 0 then
      if p0 = 33 then
        (6 : Int32)
      else
        if p0 = 63 then
          (6 : Int32)
        else
          if p0 = 64 then
            (6 : Int32)
          else
            (2 : Int32)
    else
      (5 : Int32)
  else
    (4 : Int32)
def f_GS_isPrefix (p0 : Int32) : Int32 :=
  if p0 = 126 then
    (1 : Int32)
  else
    if p0 = 45 then
      (1 : Int32)
    else
      (0 : Int32)
def f_GS_isDigit (p0 : Int32) : Int32 :=
  if p0 < 48 then
    (0 : Int32)
  else
    if (57 : Int32) < p0 then
      (0 : Int32)
    else
      (1 : Int32)
def f_GS_operationOf (p0 : Int32) : Int32 :=
  if p0 = 38 then
    (2 : Int32)
  else
    if p0 = 43 then
      (0 : Int32)
    else
      if p0 = 45 then
        (1 : Int32)
      else
        if p0 = 60 then
          (5 : Int32)
        else
          if p0 = 61 then
            (6 : Int32)
          else
            if p0 = 94 then
              (4 : Int32)
            else
              if p0 = 124 then
                (3 : Int32)
              else
                (-1 : Int32)
def f_JI_bitCount (p0 : Int32) : Int32 :=
  let x3 : Int32 := (p0.toUInt32 >>> ((1 : Int32).toUInt32 &&& Int32.toUInt32 31)).toInt32
  let x7 : Int32 := x3 &&& (1431655765 : Int32)
  let x8 : Int32 := p0 - x7
  let x14 : Int32 := x8 &&& (858993459 : Int32)
  let x17 : Int32 := (x8.toUInt32 >>> ((2 : Int32).toUInt32 &&& Int32.toUInt32 31)).toInt32
  let x21 : Int32 := x17 &&& (858993459 : Int32)
  let x22 : Int32 := x14 + x21
  let x27 : Int32 := (x22.toUInt32 >>> ((4 : Int32).toUInt32 &&& Int32.toUInt32 31)).toInt32
  let x28 : Int32 := x22 + x27
  let x32 : Int32 := x28 &&& (252645135 : Int32)
  let x38 : Int32 := (x32.toUInt32 >>> ((8 : Int32).toUInt32 &&& Int32.toUInt32 31)).toInt32
  let x39 : Int32 := x32 + x38
  let x45 : Int32 := (x39.toUInt32 >>> ((16 : Int32).toUInt32 &&& Int32.toUInt32 31)).toInt32
  let x46 : Int32 := x39 + x45
  let x51 : Int32 := x46 &&& (63 : Int32)
  x51
def f_GS_worked (p0 : Int32) (p1 : Int32) (p2 : Int32) : Int32 :=
  if p0 = 0 then
    let x42 : Int32 := p1 + p2
    x42
  else
    if p0 = 1 then
      let x46 : Int32 := p1 - p2
      x46
    else
      if p0 = 2 then
        let x50 : Int32 := p1 &&& p2
        x50
      else
        if p0 = 3 then
          let x54 : Int32 := p1 ||| p2
          x54
        else
          if p0 = 4 then
            let x58 : Int32 := p1 ^^^ p2
            x58
          else
            if p0 = 5 then
              if p2 ≤ p1 then
                (0 : Int32)
              else
                (1 : Int32)
            else
              if p1 = p2 then
                (1 : Int32)
              else
                (0 : Int32)
def f_GS_isVariableNumber (p0 : Int32) : Int32 :=
  if p0 < 0 then
    (0 : Int32)
  else
    if (8 : Int32) ≤ p0 then
      (0 : Int32)
    else
      (1 : Int32)
def f_MT_append (S : CS) (k : Nat) (p1 : Int32) : Int32 × CS :=
  if S.1 k 0 6 < 60 then
    let S20 := stT S k 1 (S.1 k 0 6).toNatClampNeg p1
    let x27 : Int32 := (S20.1 k 0 6) + (1 : Int32)
    let S28 := stT S20 k 0 6 x27
    let S33 := stT S28 k 0 9 0
    ((1 : Int32), S33)
  else
    ((0 : Int32), S)
def f_MA_halt (S : CS) : CS :=
  let S2 := stR S 9 3 0
  S2
def f_GS_loosen (S : CS) : CS :=
  let S2 := stR S 0 5 0
  let S9 := f_MA_halt S2
  S9
def f_MT_length (S : CS) (k : Nat) : Int32 :=
  S.1 k 0 6
def f_GS_sign (S : CS) (p1 : Int32) (p2 : Int32) : Int32 × CS :=
  let x1 := f_GS_isModule p1
  if x1 = 0 then
    ((-1 : Int32), S)
  else
    if p2 < 33 then
      ((-1 : Int32), S)
    else
      if p2 ≤ 126 then
        let x28 := (f_MT_append S p1.toNatClampNeg p2).1
        let S28 := (f_MT_append S p1.toNatClampNeg p2).2
        if x28 = 0 then
          ((-1 : Int32), S28)
        else
          let S37 := f_GS_loosen S28
          let x46 := f_MT_length S37 p1.toNatClampNeg
          (x46, S37)
      else
        ((-1 : Int32), S)
def f_MT_forget (S : CS) (k : Nat) : CS :=
  let S2 := stT S k 0 7 0
  let S7 := stT S2 k 0 8 0
  S7
def f_MT_empty (S : CS) (k : Nat) : CS :=
  let S2 := stT S k 0 6 0
  let S6 := f_MT_forget S2 k
  let S11 := stT S6 k 0 9 1
  S11
def f_GS_clear (S : CS) (p1 : Int32) : Int32 × CS :=
  let x1 := f_GS_isModule p1
  if x1 = 0 then
    ((-1 : Int32), S)
  else
    let S15 := f_MT_empty S p1.toNatClampNeg
    let S19 := f_GS_loosen S15
    ((0 : Int32), S19)
def f_MT_signAt (S : CS) (k : Nat) (p1 : Int32) : Int32 :=
  if p1 < 0 then
    (0 : Int32)
  else
    if S.1 k 0 6 ≤ p1 then
      (0 : Int32)
    else
      let x17 := S.1 k 1 p1.toNatClampNeg
      x17
def f_MT_addProcedure (S : CS) (k : Nat) (p1 : Int32) (p2 : Int32) : CS :=
  let x1 := f_GS_isLetterNumber p1
  if x1 = 0 then
    S
  else
    if S.1 k 0 8 = 0 then
      let x21 := f_GS_hasBit (S.1 k 0 7) p1
      if x21 = 0 then
        let S32 := stT S k 0 8 0
        let x42 : Int32 := (1 : Int32) <<< (p1 &&& 31)
        let x43 : Int32 := (S32.1 k 0 7) ||| x42
        let S44 := stT S32 k 0 7 x43
        let S53 := stT S44 k 5 p1.toNatClampNeg p2
        let S60 := stT S53 k 6 p1.toNatClampNeg 0
        S60
      else
        let S32 := stT S k 0 8 1
        let x42 : Int32 := (1 : Int32) <<< (p1 &&& 31)
        let x43 : Int32 := (S32.1 k 0 7) ||| x42
        let S44 := stT S32 k 0 7 x43
        let S53 := stT S44 k 5 p1.toNatClampNeg p2
        let S60 := stT S53 k 6 p1.toNatClampNeg 0
        S60
    else
      let S32 := stT S k 0 8 1
      let x42 : Int32 := (1 : Int32) <<< (p1 &&& 31)
      let x43 : Int32 := (S32.1 k 0 7) ||| x42
      let S44 := stT S32 k 0 7 x43
      let S53 := stT S44 k 5 p1.toNatClampNeg p2
      let S60 := stT S53 k 6 p1.toNatClampNeg 0
      S60
def f_RD_expects (S : CS) (p1 : Int32) : Int32 × CS :=
  let S2 := stR S 2 2 p1
  ((1 : Int32), S2)
def f_RD_begins (S : CS) (p1 : Int32) (p2 : Int32) : Int32 × CS :=
  let S2 := stR S 2 3 p1
  let x7 := (f_RD_expects S2 p2).1
  let S7 := (f_RD_expects S2 p2).2
  (x7, S7)
def f_RD_takesProcedure (S : CS) (k : Nat) (p2 : Int32) : Int32 × CS :=
  let x2 := f_MT_signAt S k p2
  let x7 := f_GS_isLetter x2
  if x7 = 0 then
    ((0 : Int32), S)
  else
    let x19 : Int32 := x2 - (65 : Int32)
    let S20 := stR S 2 6 x19
    let S25 := stR S20 2 7 0
    let S34 := f_MT_addProcedure S25 k (S25.2 2 6) p2
    let x40 := (f_RD_begins S34 p2 1).1
    let S40 := (f_RD_begins S34 p2 1).2
    (x40, S40)
def f_RD_opens (S : CS) (p1 : Int32) (p2 : Int32) : Int32 × CS :=
  if S.2 2 1 < 6 then
    let S20 := stR S 3 (S.2 2 1).toNatClampNeg p1
    let x27 : Int32 := (S20.2 2 1) + (1 : Int32)
    let S28 := stR S20 2 1 x27
    let x33 := (f_RD_expects S28 p2).1
    let S33 := (f_RD_expects S28 p2).2
    (x33, S33)
  else
    ((0 : Int32), S)
def f_MT_isPlace (S : CS) (k : Nat) (p1 : Int32) : Int32 :=
  if p1 < 0 then
    (0 : Int32)
  else
    if S.1 k 0 6 ≤ p1 then
      (0 : Int32)
    else
      (1 : Int32)
def f_MT_addBlock (S : CS) (k : Nat) (p1 : Int32) (p2 : Int32) : CS :=
  let x2 := f_MT_isPlace S k p1
  if x2 = 0 then
    S
  else
    let x10 := f_MT_isPlace S k p2
    if x10 = 0 then
      S
    else
      let S22 := stT S k 3 p2.toNatClampNeg p1
      let S29 := stT S22 k 4 p1.toNatClampNeg p2
      S29
def f_RD_closesBlock (S : CS) (k : Nat) (p2 : Int32) : Int32 × CS :=
  if (1 : Int32) ≤ S.2 2 1 then
    let x16 : Int32 := (S.2 2 1) - (1 : Int32)
    let S17 := stR S 2 1 x16
    let x28 := S17.2 3 (S17.2 2 1).toNatClampNeg
    let S33 := f_MT_addBlock S17 k x28 p2
    let x38 := f_MT_signAt S33 k x28
    let x45 := f_GS_isLetter x38
    if x45 = 0 then
      if x38 = 63 then
        let x70 := (f_RD_expects S33 3).1
        let S70 := (f_RD_expects S33 3).2
        (x70, S70)
      else
        let x70 := (f_RD_expects S33 2).1
        let S70 := (f_RD_expects S33 2).2
        (x70, S70)
    else
      let x53 := (f_RD_expects S33 0).1
      let S53 := (f_RD_expects S33 0).2
      (x53, S53)
  else
    ((0 : Int32), S)
def f_MT_addCall (S : CS) (k : Nat) (p1 : Int32) (p2 : Int32) : CS :=
  let x1 := f_GS_isLetterNumber p1
  if x1 = 0 then
    S
  else
    let x8 := f_GS_isLetterNumber p2
    if x8 = 0 then
      S
    else
      let x20 := S.1 k 6 p1.toNatClampNeg
      let x23 : Int32 := (1 : Int32) <<< (p2 &&& 31)
      let x24 : Int32 := x20 ||| x23
      let S25 := stT S k 6 p1.toNatClampNeg x24
      S25
def f_MT_addStatement (S : CS) (k : Nat) (p1 : Int32) (p2 : Int32) : CS :=
  let x2 := f_MT_isPlace S k p1
  if x2 = 0 then
    S
  else
    let S14 := stT S k 2 p1.toNatClampNeg p2
    S14
def f_RD_takesStatement (S : CS) (k : Nat) (p2 : Int32) : Int32 × CS :=
  let x2 := f_MT_signAt S k p2
  if x2 = 125 then
    let x15 := (f_RD_closesBlock S k p2).1
    let S15 := (f_RD_closesBlock S k p2).2
    (x15, S15)
  else
    let x20 := f_RD_behindFirstSign x2
    if x20 = 2 then
      ((0 : Int32), S)
    else
      if x20 = 5 then
        let x47 : Int32 := x2 - (65 : Int32)
        let S48 := f_MT_addCall S k (S.2 2 6) x47
        let x57 : Int32 := (S48.2 2 7) + (1 : Int32)
        let S58 := stR S48 2 7 x57
        let S67 := f_MT_addStatement S58 k p2 (S58.2 2 7)
        if x2 = 63 then
          let S90 := stR S67 2 4 123
          let x97 := (f_RD_begins S90 p2 x20).1
          let S97 := (f_RD_begins S90 p2 x20).2
          (x97, S97)
        else
          if x2 = 64 then
            let S90 := stR S67 2 4 123
            let x97 := (f_RD_begins S90 p2 x20).1
            let S97 := (f_RD_begins S90 p2 x20).2
            (x97, S97)
          else
            let S90 := stR S67 2 4 59
            let x97 := (f_RD_begins S90 p2 x20).1
            let S97 := (f_RD_begins S90 p2 x20).2
            (x97, S97)
      else
        let x57 : Int32 := (S.2 2 7) + (1 : Int32)
        let S58 := stR S 2 7 x57
        let S67 := f_MT_addStatement S58 k p2 (S58.2 2 7)
        if x2 = 63 then
          let S90 := stR S67 2 4 123
          let x97 := (f_RD_begins S90 p2 x20).1
          let S97 := (f_RD_begins S90 p2 x20).2
          (x97, S97)
        else
          if x2 = 64 then
            let S90 := stR S67 2 4 123
            let x97 := (f_RD_begins S90 p2 x20).1
            let S97 := (f_RD_begins S90 p2 x20).2
            (x97, S97)
          else
            let S90 := stR S67 2 4 59
            let x97 := (f_RD_begins S90 p2 x20).1
            let S97 := (f_RD_begins S90 p2 x20).2
            (x97, S97)
def f_RD_lastOpen (S : CS) (k : Nat) : Int32 :=
  if S.2 2 1 ≤ 0 then
    (0 : Int32)
  else
    let x17 : Int32 := (S.2 2 1) - (1 : Int32)
    let x18 := S.2 3 x17.toNatClampNeg
    let x19 := f_MT_signAt S k x18
    x19
def q_RD_endsOperand_0 : Nat → CS → Nat → Int32 → Int32 × CS
  | 0, S1, _, _ => (0, S1)
  | n + 1, S1, k, p2 =>
    if S1.2 2 1 ≤ 0 then
      let x33 := (f_RD_expects S1 p2).1
      let S33 := (f_RD_expects S1 p2).2
      (x33, S33)
    else
      let x9 := f_RD_lastOpen S1 k
      let x12 := f_GS_isPrefix x9
      if x12 = 0 then
        let x33 := (f_RD_expects S1 p2).1
        let S33 := (f_RD_expects S1 p2).2
        (x33, S33)
      else
        let x24 : Int32 := (S1.2 2 1) - (1 : Int32)
        let S25 := stR S1 2 1 x24
        q_RD_endsOperand_0 n S25 k p2
def f_RD_endsOperand (S : CS) (k : Nat) (p2 : Int32) : Int32 × CS :=
  q_RD_endsOperand_0 7 S k p2
def f_RD_takesOperand (S : CS) (k : Nat) (p2 : Int32) : Int32 × CS :=
  let x2 := f_MT_signAt S k p2
  if x2 = 40 then
    let x23 := (f_RD_opens S p2 6).1
    let S23 := (f_RD_opens S p2 6).2
    (x23, S23)
  else
    let x13 := f_GS_isPrefix x2
    if x13 = 0 then
      let x28 := f_GS_isVariable x2
      if x28 = 0 then
        let S44 := stR S 2 5 1
        let x48 := f_GS_isDigit x2
        if x48 = 0 then
          ((0 : Int32), S44)
        else
          let x58 := (f_RD_endsOperand S44 k 7).1
          let S58 := (f_RD_endsOperand S44 k 7).2
          if x58 = 0 then
            ((0 : Int32), S58)
          else
            ((1 : Int32), S58)
      else
        let x38 := (f_RD_endsOperand S k 8).1
        let S38 := (f_RD_endsOperand S k 8).2
        (x38, S38)
    else
      let x23 := (f_RD_opens S p2 6).1
      let S23 := (f_RD_opens S p2 6).2
      (x23, S23)
def f_RD_takesDigit (S : CS) : Int32 × CS :=
  let x6 : Int32 := (S.2 2 5) + (1 : Int32)
  let S7 := stR S 2 5 x6
  if (4 : Int32) < S7.2 2 5 then
    ((0 : Int32), S7)
  else
    ((1 : Int32), S7)
def f_RD_takesOperator (S : CS) (k : Nat) (p2 : Int32) : Int32 × CS :=
  let x2 := f_MT_signAt S k p2
  let x7 := f_GS_operationOf x2
  if x7 = (-1) then
    let x23 := f_RD_lastOpen S k
    if x23 = 40 then
      if x2 = 41 then
        let x69 : Int32 := (S.2 2 1) - (1 : Int32)
        let S70 := stR S 2 1 x69
        let x77 := (f_RD_endsOperand S70 k 8).1
        let S77 := (f_RD_endsOperand S70 k 8).2
        (x77, S77)
      else
        ((0 : Int32), S)
    else
      if x2 = S.2 2 4 then
        if x2 = 123 then
          let x93 := (f_RD_opens S (S.2 2 3) 2).1
          let S93 := (f_RD_opens S (S.2 2 3) 2).2
          (x93, S93)
        else
          let x101 := (f_RD_expects S 2).1
          let S101 := (f_RD_expects S 2).2
          (x101, S101)
      else
        ((0 : Int32), S)
  else
    let x17 := (f_RD_expects S 6).1
    let S17 := (f_RD_expects S 6).2
    (x17, S17)
def f_RD_takes (S : CS) (k : Nat) (p2 : Int32) : Int32 × CS :=
  let x2 := f_MT_signAt S k p2
  let x10 := S.2 2 2
  if x10 = 0 then
    let x59 := (f_RD_takesProcedure S k p2).1
    let S59 := (f_RD_takesProcedure S k p2).2
    (x59, S59)
  else
    if x10 = 1 then
      if x2 = 123 then
        let x75 := (f_RD_opens S (S.2 2 3) 2).1
        let S75 := (f_RD_opens S (S.2 2 3) 2).2
        if x75 = 0 then
          ((0 : Int32), S75)
        else
          ((1 : Int32), S75)
      else
        ((0 : Int32), S)
    else
      if x10 = 2 then
        let x90 := (f_RD_takesStatement S k p2).1
        let S90 := (f_RD_takesStatement S k p2).2
        (x90, S90)
      else
        if x10 = 3 then
          if x2 = 58 then
            let x103 := (f_RD_begins S p2 1).1
            let S103 := (f_RD_begins S p2 1).2
            (x103, S103)
          else
            let x112 := (f_RD_takesStatement S k p2).1
            let S112 := (f_RD_takesStatement S k p2).2
            (x112, S112)
        else
          if x10 = 4 then
            if x2 = 61 then
              let x125 := (f_RD_expects S 6).1
              let S125 := (f_RD_expects S 6).2
              if x125 = 0 then
                ((0 : Int32), S125)
              else
                ((1 : Int32), S125)
            else
              ((0 : Int32), S)
          else
            if x10 = 5 then
              if x2 = 59 then
                let x145 := (f_RD_expects S 2).1
                let S145 := (f_RD_expects S 2).2
                if x145 = 0 then
                  ((0 : Int32), S145)
                else
                  ((1 : Int32), S145)
              else
                ((0 : Int32), S)
            else
              if x10 = 6 then
                let x160 := (f_RD_takesOperand S k p2).1
                let S160 := (f_RD_takesOperand S k p2).2
                (x160, S160)
              else
                if x10 = 7 then
                  let x165 := f_GS_isDigit x2
                  if x165 = 0 then
                    let x181 := (f_RD_takesOperator S k p2).1
                    let S181 := (f_RD_takesOperator S k p2).2
                    (x181, S181)
                  else
                    let x172 := (f_RD_takesDigit S).1
                    let S172 := (f_RD_takesDigit S).2
                    (x172, S172)
                else
                  let x188 := (f_RD_takesOperator S k p2).1
                  let S188 := (f_RD_takesOperator S k p2).2
                  (x188, S188)
def q_RD_faultOf_21 : Nat → CS → Int32 → Nat → Int32 → Int32 × CS
  | 0, S1, _, _, _ => (0, S1)
  | n + 1, S1, x15, k, y3 =>
    if x15 ≤ y3 then
      if S1.2 2 2 = 0 then
        ((-2 : Int32), S1)
      else
        (x15, S1)
    else
      let x29 := (f_RD_takes S1 k y3).1
      let S29 := (f_RD_takes S1 k y3).2
      if x29 = 0 then
        (y3, S29)
      else
        let x37 := y3 + 1
        q_RD_faultOf_21 n S29 x15 k x37
def f_RD_faultOf (S : CS) (k : Nat) : Int32 × CS :=
  let S1 := f_MT_forget S k
  let S6 := stR S1 2 1 0
  let S11 := stR S6 2 2 0
  let x15 := f_MT_length S11 k
  q_RD_faultOf_21 61 S11 x15 k 0
def f_MT_hasTwins (S : CS) (k : Nat) : Int32 :=
  S.1 k 0 8
def f_MT_mark (S : CS) (k : Nat) (p1 : Int32) : CS :=
  let S2 := stT S k 0 9 p1
  S2
def f_MT_defined (S : CS) (k : Nat) : Int32 :=
  S.1 k 0 7
def f_GS_compile (S : CS) (p1 : Int32) : Int32 × CS :=
  let x1 := f_GS_isModule p1
  if x1 = 0 then
    ((-1 : Int32), S)
  else
    let x21 := (f_RD_faultOf S p1.toNatClampNeg).1
    let S21 := (f_RD_faultOf S p1.toNatClampNeg).2
    if x21 = (-2) then
      let x41 := f_MT_hasTwins S21 p1.toNatClampNeg
      if x41 = 0 then
        let S52 := f_MT_mark S21 p1.toNatClampNeg 1
        let S56 := f_GS_loosen S52
        let x67 := f_MT_hasTwins S56 p1.toNatClampNeg
        if x67 = 0 then
          let x79 := f_MT_defined S56 p1.toNatClampNeg
          let x82 := f_JI_bitCount x79
          (x82, S56)
        else
          ((-3 : Int32), S56)
      else
        let S52 := f_MT_mark S21 p1.toNatClampNeg 0
        let S56 := f_GS_loosen S52
        let x67 := f_MT_hasTwins S56 p1.toNatClampNeg
        if x67 = 0 then
          let x79 := f_MT_defined S56 p1.toNatClampNeg
          let x82 := f_JI_bitCount x79
          (x82, S56)
        else
          ((-3 : Int32), S56)
    else
      let S52 := f_MT_mark S21 p1.toNatClampNeg 0
      let S56 := f_GS_loosen S52
      ((-2 : Int32), S56)
def f_GS_fault (S : CS) (p1 : Int32) : Int32 × CS :=
  let x1 := f_GS_isModule p1
  if x1 = 0 then
    ((-1 : Int32), S)
  else
    let x17 := (f_RD_faultOf S p1.toNatClampNeg).1
    let S17 := (f_RD_faultOf S p1.toNatClampNeg).2
    (x17, S17)
def f_MT_isCompiled (S : CS) (k : Nat) : Int32 :=
  S.1 k 0 9
def q_PR_forget_7 : Nat → CS → Int32 → CS
  | 0, S1, _ => S1
  | n + 1, S1, y1 =>
    if (26 : Int32) ≤ y1 then
      S1
    else
      let S19 := stR S1 5 y1.toNatClampNeg 0
      let S26 := stR S19 6 y1.toNatClampNeg 0
      let x27 := y1 + 1
      q_PR_forget_7 n S26 x27
def f_PR_forget (S : CS) : CS :=
  let S2 := stR S 4 2 0
  q_PR_forget_7 27 S2 0
def f_MT_callsOf (S : CS) (k : Nat) (p1 : Int32) : Int32 :=
  let x1 := f_GS_isLetterNumber p1
  if x1 = 0 then
    (0 : Int32)
  else
    let x12 := S.1 k 6 p1.toNatClampNeg
    x12
def q_PR_takeOver_2 : Nat → CS → Nat → Int32 → CS
  | 0, S1, _, _ => S1
  | n + 1, S1, k, y2 =>
    if (26 : Int32) ≤ y2 then
      S1
    else
      let x9 := f_MT_defined S1 k
      let x13 := f_GS_hasBit x9 y2
      if x13 = 0 then
        let x37 := y2 + 1
        q_PR_takeOver_2 n S1 k x37
      else
        let S25 := stR S1 5 y2.toNatClampNeg (nI (k + 1))
        let x33 := f_MT_callsOf S25 k y2
        let S36 := stR S25 6 y2.toNatClampNeg x33
        let x37 := y2 + 1
        q_PR_takeOver_2 n S36 k x37
def f_PR_takeOver (S : CS) (k : Nat) : CS :=
  q_PR_takeOver_2 27 S k 0
def q_PR_lacksOne_6 : Nat → CS → Int32 → Int32 → Int32
  | 0, _, _, _ => 0
  | n + 1, S, y2, y1 =>
    if (26 : Int32) ≤ y2 then
      let x33 : Int32 := (S.2 4 2) ^^^ (-1 : Int32)
      let x34 : Int32 := y1 &&& x33
      if x34 = 0 then
        (0 : Int32)
      else
        (1 : Int32)
    else
      let x18 := S.2 6 y2.toNatClampNeg
      let x19 : Int32 := y1 ||| x18
      let x21 := y2 + 1
      q_PR_lacksOne_6 n S x21 x19
def f_PR_lacksOne (S : CS) : Int32 :=
  q_PR_lacksOne_6 27 S 0 4096
def q_PR_followChains_10 : Nat → CS → Int32 → Int32 → CS
  | 0, S2, _, _ => S2
  | n2 + 1, S2, y1, y2 =>
    if (26 : Int32) ≤ y2 then
      let x50 := y1 + 1
      S2
    else
      let x21 := S2.2 6 y2.toNatClampNeg
      let x23 := f_GS_hasBit x21 y1
      if x23 = 0 then
        let x44 := y2 + 1
        q_PR_followChains_10 n2 S2 y1 x44
      else
        let x35 := S2.2 6 y2.toNatClampNeg
        let x41 := S2.2 6 y1.toNatClampNeg
        let x42 : Int32 := x35 ||| x41
        let S43 := stR S2 6 y2.toNatClampNeg x42
        let x44 := y2 + 1
        q_PR_followChains_10 n2 S43 y1 x44
def q_PR_followChains_2 : Nat → CS → Int32 → CS
  | 0, S1, _ => S1
  | n + 1, S1, y1 =>
    if (26 : Int32) ≤ y1 then
      S1
    else
      let S10 := q_PR_followChains_10 27 S1 y1 0
      let x50 := y1 + 1
      q_PR_followChains_2 n S10 x50
def f_PR_followChains (S : CS) : CS :=
  q_PR_followChains_2 27 S 0
def q_PR_hasCircle_2 : Nat → CS → Int32 → Int32
  | 0, _, _ => 0
  | n + 1, S, y1 =>
    if (26 : Int32) ≤ y1 then
      (0 : Int32)
    else
      let x13 := S.2 6 y1.toNatClampNeg
      let x15 := f_GS_hasBit x13 y1
      if x15 = 0 then
        let x23 := y1 + 1
        q_PR_hasCircle_2 n S x23
      else
        (1 : Int32)
def f_PR_hasCircle (S : CS) : Int32 :=
  q_PR_hasCircle_2 27 S 0
def q_PR_join_6 : Nat → CS → Int32 → Int32 × CS
  | 0, S1, _ => (0, S1)
  | n + 1, S1, y2 =>
    if (3 : Int32) ≤ y2 then
      let x58 := f_PR_lacksOne S1
      if x58 = 0 then
        let S68 := f_PR_followChains S1
        let x72 := f_PR_hasCircle S68
        if x72 = 0 then
          let x87 := f_JI_bitCount (S68.2 4 2)
          (x87, S68)
        else
          ((-5 : Int32), S68)
      else
        ((-4 : Int32), S1)
    else
      let x19 := f_MT_defined S1 y2.toNatClampNeg
      let x22 : Int32 := (S1.2 4 2) &&& x19
      if x22 = 0 then
        let x37 := f_MT_defined S1 y2.toNatClampNeg
        let x40 : Int32 := (S1.2 4 2) ||| x37
        let S41 := stR S1 4 2 x40
        let S48 := f_PR_takeOver S41 y2.toNatClampNeg
        let x51 := y2 + 1
        q_PR_join_6 n S48 x51
      else
        ((-3 : Int32), S1)
def f_PR_join (S : CS) : Int32 × CS :=
  let S1 := f_PR_forget S
  q_PR_join_6 4 S1 0
def q_GS_link_2 : Nat → CS → Int32 → Int32 × CS
  | 0, S1, _ => (0, S1)
  | n + 1, S1, y1 =>
    if (3 : Int32) ≤ y1 then
      let S28 := f_GS_loosen S1
      let x39 := (f_PR_join S28).1
      let S39 := (f_PR_join S28).2
      if x39 < 0 then
        let S53 := stR S39 0 5 0
        (x39, S53)
      else
        let S53 := stR S39 0 5 1
        (x39, S53)
    else
      let x13 := f_MT_isCompiled S1 y1.toNatClampNeg
      if x13 = 0 then
        ((-1 : Int32), S1)
      else
        let x21 := y1 + 1
        q_GS_link_2 n S1 x21
def f_GS_link (S : CS) : Int32 × CS :=
  q_GS_link_2 4 S 0
def f_MA_isGoing (S : CS) : Int32 :=
  if S.2 9 3 ≤ 0 then
    (0 : Int32)
  else
    (1 : Int32)
def f_PR_homeOf (S : CS) (p1 : Int32) : Nat :=
  let x1 := f_GS_isLetterNumber p1
  if x1 = 0 then
    0
  else
    hc (S.2 5 p1.toNatClampNeg)
def f_MT_firstPlaceOf (S : CS) (k : Nat) (p1 : Int32) : Int32 :=
  let x1 := f_GS_isLetterNumber p1
  if x1 = 0 then
    (0 : Int32)
  else
    let x12 := S.1 k 5 p1.toNatClampNeg
    let x14 : Int32 := x12 + (2 : Int32)
    x14
def f_MA_enter (S : CS) (p2 : Int32) : CS :=
  if f_PR_homeOf S p2 = 0 then
    S
  else
    let k5 := (f_PR_homeOf S p2) - 1
    if S.2 9 3 < 26 then
      let S29 := stR S 10 (S.2 9 3).toNatClampNeg p2
      let x40 := f_MT_firstPlaceOf S29 k5 p2
      let S43 := stR S29 11 (S29.2 9 3).toNatClampNeg x40
      let x50 : Int32 := (S43.2 9 3) + (1 : Int32)
      let S51 := stR S43 9 3 x50
      S51
    else
      S
def f_MA_currentText (S : CS) : Nat :=
  if S.2 9 3 ≤ 0 then
    0
  else
    let x17 : Int32 := (S.2 9 3) - (1 : Int32)
    let x18 := S.2 10 x17.toNatClampNeg
    f_PR_homeOf S x18
def f_MT_endsProcedure (S : CS) (k : Nat) (p1 : Int32) : Int32 :=
  let x2 := f_MT_isPlace S k p1
  if x2 = 0 then
    (0 : Int32)
  else
    let x14 := S.1 k 3 p1.toNatClampNeg
    let x15 := f_MT_signAt S k x14
    let x18 := f_GS_isLetter x15
    if x18 = 0 then
      (0 : Int32)
    else
      (1 : Int32)
def f_MT_behindEndOf (S : CS) (k : Nat) (p1 : Int32) : Int32 :=
  let x2 := f_MT_isPlace S k p1
  if x2 = 0 then
    p1
  else
    let x13 := S.1 k 4 p1.toNatClampNeg
    let x15 : Int32 := x13 + (1 : Int32)
    x15
def f_MT_behindBlock (S : CS) (k : Nat) (p1 : Int32) : Int32 :=
  let x2 := f_MT_isPlace S k p1
  if x2 = 0 then
    p1
  else
    let x16 := S.1 k 3 p1.toNatClampNeg
    let x17 := f_MT_signAt S k x16
    if x17 = 64 then
      let x30 := S.1 k 3 p1.toNatClampNeg
      x30
    else
      let x34 : Int32 := p1 + (1 : Int32)
      let x38 := f_MT_signAt S k x34
      if x38 = 58 then
        let x48 := f_MT_behindEndOf S k x34
        x48
      else
        x34
def q_MA_leaveEndedBlocks_2 : Nat → CS → Int32 → CS
  | 0, S1, _ => S1
  | n + 1, S1, y2 =>
    if (156 : Int32) ≤ y2 then
      S1
    else
      if f_MA_currentText S1 = 0 then
        S1
      else
        let k14 := (f_MA_currentText S1) - 1
        let x29 : Int32 := (S1.2 9 3) - (1 : Int32)
        let x30 := S1.2 11 x29.toNatClampNeg
        let x31 := f_MT_signAt S1 k14 x30
        if x31 = 125 then
          let x49 : Int32 := (S1.2 9 3) - (1 : Int32)
          let x50 := S1.2 11 x49.toNatClampNeg
          let x56 := f_MT_endsProcedure S1 k14 x50
          if x56 = 0 then
            let x84 : Int32 := (S1.2 9 3) - (1 : Int32)
            let x88 := f_MT_behindBlock S1 k14 x50
            let S91 := stR S1 11 x84.toNatClampNeg x88
            let x92 := y2 + 1
            q_MA_leaveEndedBlocks_2 n S91 x92
          else
            let x68 : Int32 := (S1.2 9 3) - (1 : Int32)
            let S69 := stR S1 9 3 x68
            let x92 := y2 + 1
            q_MA_leaveEndedBlocks_2 n S69 x92
        else
          S1
def f_MA_leaveEndedBlocks (S : CS) : CS :=
  q_MA_leaveEndedBlocks_2 157 S 0
def f_MA_begin (S : CS) : CS :=
  let S2 := stR S 9 4 0
  let S7 := stR S2 9 3 0
  let S14 := f_MA_enter S7 12
  let S19 := f_MA_leaveEndedBlocks S14
  S19
def f_GS_start (S : CS) : Int32 × CS :=
  if S.2 0 5 = 0 then
    ((-1 : Int32), S)
  else
    let x11 := f_MA_isGoing S
    if x11 = 0 then
      let S27 := f_MA_begin S
      let x34 := f_MA_isGoing S27
      if x34 = 0 then
        ((0 : Int32), S27)
      else
        ((1 : Int32), S27)
    else
      ((-1 : Int32), S)
def q_CA_number_4 : Nat → CS → Nat → Int32 → Int32 → Int32 × CS
  | 0, S1, _, _, _ => (0, S1)
  | n + 1, S1, k, y3, y2 =>
    if (4 : Int32) ≤ y3 then
      (y2, S1)
    else
      let x14 := f_MT_signAt S1 k (S1.2 7 1)
      let x17 := f_GS_isDigit x14
      if x17 = 0 then
        (y2, S1)
      else
        let x26 : Int32 := y2 * (10 : Int32)
        let x32 := f_MT_signAt S1 k (S1.2 7 1)
        let x35 : Int32 := x26 + x32
        let x38 : Int32 := x35 - (48 : Int32)
        let x46 : Int32 := (S1.2 7 1) + (1 : Int32)
        let S47 := stR S1 7 1 x46
        let x50 := y3 + 1
        q_CA_number_4 n S47 k x50 x38
def f_CA_number (S : CS) (k : Nat) : Int32 × CS :=
  q_CA_number_4 5 S k 0 0
def q_CA_expression_10 : Nat → (CS → Int32 × CS) → CS → Nat → Int32 → Int32 → Int32 × CS
  | 0, _, S1, _, _, _ => (0, S1)
  | n + 1, o, S1, k, y4, y3 =>
    if (60 : Int32) ≤ y4 then
      (y3, S1)
    else
      let x22 := f_MT_signAt S1 k (S1.2 7 1)
      let x25 := f_GS_operationOf x22
      if x25 = (-1) then
        (y3, S1)
      else
        let x45 : Int32 := (S1.2 7 1) + (1 : Int32)
        let S46 := stR S1 7 1 x45
        let x55 := (o S46).1
        let S55 := (o S46).2
        let x58 := f_GS_worked x25 y3 x55
        let x62 := y4 + 1
        q_CA_expression_10 n o S55 k x62 x58
def f_CA_exprO (o : CS → Int32 × CS) (S : CS) (k : Nat) : Int32 × CS :=
  let x3 := (o S).1
  let S3 := (o S).2
  q_CA_expression_10 61 o S3 k 0 x3
def f_CA_operand : Nat → CS → Nat → Int32 → Int32 × CS
  | 0, S, _, _ => (0, S)
  | d + 1, S, k, p2 =>
    let x5 := f_MT_signAt S k (S.2 7 1)
    let x10 := f_GS_isDigit x5
    if x10 = 0 then
      let x28 : Int32 := (S.2 7 1) + (1 : Int32)
      let S29 := stR S 7 1 x28
      let x33 := f_GS_isVariable x5
      if x33 = 0 then
        if p2 < 6 then
          if x5 = 126 then
            let x67 : Int32 := p2 + (1 : Int32)
            let x68 := (f_CA_operand d S29 k x67).1
            let S68 := (f_CA_operand d S29 k x67).2
            let x72 : Int32 := x68 ^^^ (-1 : Int32)
            (x72, S68)
          else
            if x5 = 45 then
              let x84 : Int32 := p2 + (1 : Int32)
              let x85 := (f_CA_operand d S29 k x84).1
              let S85 := (f_CA_operand d S29 k x84).2
              let x88 : Int32 := -x85
              (x88, S85)
            else
              let x94 : Int32 := p2 + (1 : Int32)
              let x95 := (f_CA_exprO (fun S => f_CA_operand d S k x94) S29 k).1
              let S95 := (f_CA_exprO (fun S => f_CA_operand d S k x94) S29 k).2
              let x106 : Int32 := (S95.2 7 1) + (1 : Int32)
              let S107 := stR S95 7 1 x106
              (x95, S107)
        else
          ((0 : Int32), S29)
      else
        let x46 : Int32 := x5 - (97 : Int32)
        let x47 := S29.2 8 x46.toNatClampNeg
        (x47, S29)
    else
      let x18 := (f_CA_number S k).1
      let S18 := (f_CA_number S k).2
      (x18, S18)
def f_CA_valueAt (S : CS) (k : Nat) (p2 : Int32) : Int32 × CS :=
  let S2 := stR S 7 1 p2
  let x8 := (f_CA_exprO (fun S => f_CA_operand 7 S k 0) S2 k).1
  let S8 := (f_CA_exprO (fun S => f_CA_operand 7 S k 0) S2 k).2
  (x8, S8)
def f_CA_cursor (S : CS) : Int32 :=
  S.2 7 1
def f_CA_assign (S : CS) (p1 : Int32) (p2 : Int32) : Int32 × CS :=
  let x1 := f_GS_isVariableNumber p1
  if x1 = 0 then
    ((0 : Int32), S)
  else
    let S15 := stR S 8 p1.toNatClampNeg p2
    ((1 : Int32), S15)
def f_MA_keep (S : CS) (p1 : Int32) : CS :=
  if (24 : Int32) ≤ S.2 9 4 then
    let x25 : Int32 := (S.2 9 4) + (1 : Int32)
    let S26 := stR S 9 4 x25
    S26
  else
    let S18 := stR S 12 (S.2 9 4).toNatClampNeg p1
    let x25 : Int32 := (S18.2 9 4) + (1 : Int32)
    let S26 := stR S18 9 4 x25
    S26
def f_MT_placeIfZero (S : CS) (k : Nat) (p1 : Int32) : Int32 :=
  let x2 := f_MT_behindEndOf S k p1
  let x8 := f_MT_signAt S k x2
  if x8 = 58 then
    let x18 : Int32 := x2 + (2 : Int32)
    x18
  else
    x2
def f_MA_placeBehind (S : CS) (k : Nat) (p2 : Int32) : Int32 × CS :=
  let x2 := f_MT_signAt S k p2
  let x9 := f_GS_isVariable x2
  if x9 = 0 then
    let x29 : Int32 := p2 + (1 : Int32)
    let x30 := (f_CA_valueAt S k x29).1
    let S30 := (f_CA_valueAt S k x29).2
    let x36 := f_CA_cursor S30
    let x40 : Int32 := x36 + (1 : Int32)
    if x9 = 0 then
      if x2 = 33 then
        let S73 := f_MA_keep S30 x30
        (x40, S73)
      else
        if x30 = 0 then
          let x91 := f_MT_placeIfZero S30 k p2
          (x91, S30)
        else
          (x40, S30)
    else
      let x53 : Int32 := x2 - (97 : Int32)
      let x56 := (f_CA_assign S30 x53 x30).1
      let S56 := (f_CA_assign S30 x53 x30).2
      (x40, S56)
  else
    let x23 : Int32 := p2 + (2 : Int32)
    let x30 := (f_CA_valueAt S k x23).1
    let S30 := (f_CA_valueAt S k x23).2
    let x36 := f_CA_cursor S30
    let x40 : Int32 := x36 + (1 : Int32)
    if x9 = 0 then
      if x2 = 33 then
        let S73 := f_MA_keep S30 x30
        (x40, S73)
      else
        if x30 = 0 then
          let x91 := f_MT_placeIfZero S30 k p2
          (x91, S30)
        else
          (x40, S30)
    else
      let x53 : Int32 := x2 - (97 : Int32)
      let x56 := (f_CA_assign S30 x53 x30).1
      let S56 := (f_CA_assign S30 x53 x30).2
      (x40, S56)
def f_MA_step (S : CS) : CS :=
  if f_MA_currentText S = 0 then
    S
  else
    let k5 := (f_MA_currentText S) - 1
    let x16 : Int32 := (S.2 9 3) - (1 : Int32)
    let x25 := S.2 11 x16.toNatClampNeg
    let x31 := f_MT_signAt S k5 x25
    let x38 := f_GS_isLetter x31
    if x38 = 0 then
      let x79 := (f_MA_placeBehind S k5 x25).1
      let S79 := (f_MA_placeBehind S k5 x25).2
      let S82 := stR S79 11 x16.toNatClampNeg x79
      let S85 := f_MA_leaveEndedBlocks S82
      S85
    else
      let x53 : Int32 := x25 + (2 : Int32)
      let S54 := stR S 11 x16.toNatClampNeg x53
      let x61 : Int32 := x31 - (65 : Int32)
      let S62 := f_MA_enter S54 x61
      let S85 := f_MA_leaveEndedBlocks S62
      S85
def q_GS_run_24 : Nat → CS → Int32 → Int32 → Int32 × CS
  | 0, S1, _, _ => (0, S1)
  | n + 1, S1, p1, y2 =>
    if p1 ≤ y2 then
      let x64 := f_MA_isGoing S1
      if x64 = 0 then
        ((0 : Int32), S1)
      else
        ((1 : Int32), S1)
    else
      let x33 := f_MA_isGoing S1
      if x33 = 0 then
        let x64 := f_MA_isGoing S1
        if x64 = 0 then
          ((0 : Int32), S1)
        else
          ((1 : Int32), S1)
      else
        let S51 := f_MA_step S1
        let x54 := y2 + 1
        q_GS_run_24 n S51 p1 x54
def f_GS_run (S : CS) (p1 : Int32) : Int32 × CS :=
  if p1 < 1 then
    ((-1 : Int32), S)
  else
    if (4 : Int32) < p1 then
      ((-1 : Int32), S)
    else
      let x14 := f_MA_isGoing S
      if x14 = 0 then
        ((-1 : Int32), S)
      else
        q_GS_run_24 5 S p1 0
def f_GS_stop (S : CS) : Int32 × CS :=
  let x4 := f_MA_isGoing S
  if x4 = 0 then
    ((-1 : Int32), S)
  else
    let S16 := f_MA_halt S
    ((0 : Int32), S16)
def f_GS_set (S : CS) (p1 : Int32) (p2 : Int32) : Int32 × CS :=
  let x6 := (f_CA_assign S p1 p2).1
  let S6 := (f_CA_assign S p1 p2).2
  if x6 = 0 then
    ((-1 : Int32), S6)
  else
    ((0 : Int32), S6)
def f_CA_variable (S : CS) (p1 : Int32) : Int32 :=
  let x1 := f_GS_isVariableNumber p1
  if x1 = 0 then
    (0 : Int32)
  else
    let x12 := S.2 8 p1.toNatClampNeg
    x12
def f_GS_get (S : CS) (p1 : Int32) : Int64 :=
  let x1 := f_GS_isVariableNumber p1
  if x1 = 0 then
    ((-1000000000000) : Int64)
  else
    let x12 := f_CA_variable S p1
    (x12.toInt64 : Int64)
def f_MA_hasKept (S : CS) (p1 : Int32) : Int32 :=
  if p1 < 0 then
    (0 : Int32)
  else
    if (24 : Int32) ≤ p1 then
      (0 : Int32)
    else
      if S.2 9 4 ≤ p1 then
        (0 : Int32)
      else
        (1 : Int32)
def f_MA_kept (S : CS) (p1 : Int32) : Int32 :=
  let x2 := f_MA_hasKept S p1
  if x2 = 0 then
    (0 : Int32)
  else
    let x13 := S.2 12 p1.toNatClampNeg
    x13
def f_GS_output (S : CS) (p1 : Int32) : Int64 :=
  let x5 := f_MA_hasKept S p1
  if x5 = 0 then
    ((-1000000000000) : Int64)
  else
    let x16 := f_MA_kept S p1
    (x16.toInt64 : Int64)
def f_MA_letterCode (S : CS) : Int32 :=
  if S.2 9 3 ≤ 0 then
    (0 : Int32)
  else
    let x18 : Int32 := (S.2 9 3) - (1 : Int32)
    let x19 := S.2 10 x18.toNatClampNeg
    let x20 : Int32 := (65 : Int32) + x19
    x20
def f_MT_numberAt (S : CS) (k : Nat) (p1 : Int32) : Int32 :=
  let x2 := f_MT_isPlace S k p1
  if x2 = 0 then
    (0 : Int32)
  else
    let x13 := S.1 k 2 p1.toNatClampNeg
    x13
def f_MA_statementNumber (S : CS) : Int32 :=
  if f_MA_currentText S = 0 then
    (0 : Int32)
  else
    let k5 := (f_MA_currentText S) - 1
    let x24 : Int32 := (S.2 9 3) - (1 : Int32)
    let x25 := S.2 11 x24.toNatClampNeg
    let x26 := f_MT_numberAt S k5 x25
    x26
def f_MA_depth (S : CS) : Int32 :=
  S.2 9 3
def f_MA_outputCount (S : CS) : Int32 :=
  S.2 9 4
def f_GS_at (S : CS) (p1 : Int32) : Int32 :=
  if p1 = 0 then
    let x36 := f_MA_letterCode S
    x36
  else
    if p1 = 1 then
      let x48 := f_MA_statementNumber S
      x48
    else
      if p1 = 2 then
        let x56 := f_MA_depth S
        x56
      else
        if p1 = 3 then
          let x64 := f_MA_outputCount S
          x64
        else
          (-1 : Int32)
def f_GS_operate (S : CS) (p1 : Int32) (p2 : Int32) (p3 : Int32) : Int64 :=
  if p1 < 0 then
    ((-1000000000000) : Int64)
  else
    if p1 ≤ 5 then
      let x16 := f_GS_worked p1 p2 p3
      (x16.toInt64 : Int64)
    else
      ((-1000000000000) : Int64)
def f_GS_state (S : CS) (p1 : Int32) (p2 : Int32) : Int32 :=
  let x1 := f_GS_isModule p1
  if x1 = 0 then
    (-1 : Int32)
  else
    if p2 = 0 then
      let x42 := f_MT_length S p1.toNatClampNeg
      x42
    else
      if p2 = 1 then
        let x52 := f_MT_isCompiled S p1.toNatClampNeg
        if x52 = 0 then
          (0 : Int32)
        else
          (1 : Int32)
      else
        if p2 = 2 then
          if S.2 0 5 = 0 then
            (0 : Int32)
          else
            (1 : Int32)
        else
          (-1 : Int32)
theorem let_in {p : Int32} (h : ¬ f_GS_isLetterNumber p = 0) : vp_in p 26 := by
  unfold f_GS_isLetterNumber at h
  by_cases h1 : p < 0
  · rw [if_pos h1] at h; exact absurd rfl h
  · by_cases h2 : (26 : Int32) ≤ p
    · rw [if_neg h1, if_pos h2] at h; exact absurd rfl h
    · exact vin (i_nlt 0 rfl h1) (i_nle 26 rfl h2)
theorem vn_in {p : Int32} (h : ¬ f_GS_isVariableNumber p = 0) : vp_in p 8 := by
  unfold f_GS_isVariableNumber at h
  by_cases h1 : p < 0
  · rw [if_pos h1] at h; exact absurd rfl h
  · by_cases h2 : (8 : Int32) ≤ p
    · rw [if_neg h1, if_pos h2] at h; exact absurd rfl h
    · exact vin (i_nlt 0 rfl h1) (i_nle 8 rfl h2)
theorem md_in {p : Int32} (h : ¬ f_GS_isModule p = 0) : vp_in p 3 := by
  unfold f_GS_isModule at h
  by_cases h1 : p < 0
  · rw [if_pos h1] at h; exact absurd rfl h
  · by_cases h2 : (3 : Int32) ≤ p
    · rw [if_neg h1, if_pos h2] at h; exact absurd rfl h
    · exact vin (i_nlt 0 rfl h1) (i_nle 3 rfl h2)
theorem md_k {p : Int32} (h : ¬ f_GS_isModule p = 0) : p.toNatClampNeg < 3 := Nat.not_le.mp fun q => md_in h (Or.inr q)
theorem va_in {x : Int32} (h : ¬ f_GS_isVariable x = 0) : vp_in (x - 97) 8 := by
  unfold f_GS_isVariable at h
  by_cases h1 : x < 97
  · rw [if_pos h1] at h; exact absurd rfl h
  · by_cases h2 : (104 : Int32) < x
    · rw [if_neg h1, if_pos h2] at h; exact absurd rfl h
    · have a1 := i_nlt 97 rfl h1
      have a2 : x.toInt ≤ 104 := by rw [Int32.lt_iff_toInt_lt, show (104 : Int32).toInt = 104 from rfl] at h2; omega
      refine vin ?_ ?_ <;> rw [i_sub 97 rfl (by omega) (by omega)] <;> omega
theorem kp_in {S : CS} {p : Int32} (h : ¬ f_MA_hasKept S p = 0) : vp_in p 24 := by
  unfold f_MA_hasKept at h
  by_cases h1 : p < 0
  · rw [if_pos h1] at h; exact absurd rfl h
  · by_cases h2 : (24 : Int32) ≤ p
    · rw [if_neg h1, if_pos h2] at h; exact absurd rfl h
    · exact vin (i_nlt 0 rfl h1) (i_nle 24 rfl h2)
theorem pl_in {N : Nat} {S : CS} {k : Nat} {p : Int32} (hI : IC N S) (hk : k < 3) (h : ¬ f_MT_isPlace S k p = 0) : vp_in p 60 := by
  unfold f_MT_isPlace at h
  by_cases h1 : p < 0
  · rw [if_pos h1] at h; exact absurd rfl h
  · by_cases h2 : S.1 k 0 6 ≤ p
    · rw [if_neg h1, if_pos h2] at h; exact absurd rfl h
    · exact sg_in hI hk h1 h2
theorem ho_le {N : Nat} {S : CS} {p : Int32} (hI : IC N S) : f_PR_homeOf S p ≤ 3 := by
  unfold f_PR_homeOf
  by_cases h1 : f_GS_isLetterNumber p = 0
  · simp only [if_pos h1]; omega
  · simp only [if_neg h1]; exact hI.2.2.1 _
theorem ho_k {N : Nat} {S : CS} {p : Int32} {k : Nat} (hI : IC N S) (h : k + 1 = f_PR_homeOf S p) : k < 3 := by
  have := ho_le (p := p) hI
  omega
theorem ct_le {N : Nat} {S : CS} (hI : IC N S) : f_MA_currentText S ≤ 3 := by
  unfold f_MA_currentText
  by_cases h1 : S.2 9 3 ≤ 0
  · simp only [if_pos h1]; omega
  · simp only [if_neg h1]; exact ho_le hI
theorem ct_k {N : Nat} {S : CS} {k : Nat} (hI : IC N S) (h : k + 1 = f_MA_currentText S) : k < 3 := by
  have := ct_le hI
  omega
theorem ct_pos {S : CS} {k : Nat} (h : k + 1 = f_MA_currentText S) : 0 < (S.2 9 3).toInt := by
  unfold f_MA_currentText at h
  by_cases h1 : S.2 9 3 ≤ 0
  · rw [if_pos h1] at h; omega
  · exact i_nle0 h1
theorem lo_pos {S : CS} {k : Nat} (h : f_RD_lastOpen S k = 40) : 0 < (S.2 2 1).toInt := by
  unfold f_RD_lastOpen at h
  by_cases h1 : S.2 2 1 ≤ 0
  · rw [if_pos h1] at h; exact absurd h (by decide)
  · exact i_nle0 h1
end
section
set_option maxHeartbeats 4000000 in
set_option maxRecDepth 100000 in
theorem c_GS_isModule (l : Launch) (p0 : Int32) : Met l y_GS_isModule ws_GS_isModule ({ frames := 0, cells := 0, slots := 0, locals := 0 }) (va_Pc [.int p0] NW) (vp_Si (fun r => r = f_GS_isModule p0 ∧ bl r)) 0 0 (fun _ => False) := by
  refine Met.ofW (cc := b_GS_isModule) (maxL := 1) (ret := (some .boolean)) (by decide) rfl ?_
  intro p e s m args below meth c s₁ B hml hv
  obtain ⟨rfl, hN⟩ := hv
  have hx := B.exec
  have hb := B.bytes
  have hr := B.returns
  have hts := atoms_spec (ws := ws_GS_isModule) B.pre
  have hown : s.vm.findClass R_GS = some m.cls := findClass_of_methodNamed B.named
  have hlocks := B.notSynchronized
  have hl := lv_entry ([.int p0]) (n := 1) (Nat.le_of_ble_eq_true rfl)
  rw [lg_entry_eq]
  generalize (lg_sl ([.int p0]) ++ List.replicate (1 - (lg_sl ([.int p0])).length) Slot.unset).toArray = ls at hl ⊢
  have hl : lv_has ls 1 [(0, .int p0)] := hl
  refine lv_iload_n hx hb d_GS_isModule_0 rfl (lv_at hl 0 rfl) ?_
  refine lv_if_lt (tgt := 13) hx hb d_GS_isModule_1 (by decide) (fun c_1 => ?_) (fun c_1 => ?_)
  · refine lv_iconst (v := 0) hx hb d_GS_isModule_13 (by decide) ?_
    exact W.zret (v := 0) hx hb hr (bl_nar (Or.inl rfl)) (fun t ht hW => ⟨0, rfl, ⟨by simp only [f_GS_isModule, if_pos c_1], (Or.inl rfl)⟩, ht⟩) (fun q h => absurd h List.not_mem_nil) d_GS_isModule_14
  · refine lv_iload_n hx hb d_GS_isModule_4 rfl (lv_at hl 0 rfl) ?_
    refine lv_iconst (v := 3) hx hb d_GS_isModule_5 (by decide) ?_
    refine lv_icmp_ge (tgt := 13) hx hb d_GS_isModule_6 (by decide) (fun c_6 => ?_) (fun c_6 => ?_)
    · refine lv_iconst (v := 0) hx hb d_GS_isModule_13 (by decide) ?_
      exact W.zret (v := 0) hx hb hr (bl_nar (Or.inl rfl)) (fun t ht hW => ⟨0, rfl, ⟨by simp only [f_GS_isModule, if_neg c_1, if_pos c_6], (Or.inl rfl)⟩, ht⟩) (fun q h => absurd h List.not_mem_nil) d_GS_isModule_14
    · refine lv_iconst (v := 1) hx hb d_GS_isModule_9 (by decide) ?_
      refine lv_goto (tgt := 14) hx hb d_GS_isModule_10 (by decide) ?_
      exact W.zret (v := 1) hx hb hr (bl_nar (Or.inr rfl)) (fun t ht hW => ⟨1, rfl, ⟨by simp only [f_GS_isModule, if_neg c_1, if_neg c_6], (Or.inr rfl)⟩, ht⟩) (fun q h => absurd h List.not_mem_nil) d_GS_isModule_14
set_option maxHeartbeats 4000000 in
set_option maxRecDepth 100000 in
theorem c_GS_isLetter (l : Launch) (p0 : Int32) : Met l y_GS_isLetter ws_GS_isLetter ({ frames := 0, cells := 0, slots := 0, locals := 0 }) (va_Pc [.int p0] NW) (vp_Si (fun r => r = f_GS_isLetter p0 ∧ bl r)) 0 0 (fun _ => False) := by
  refine Met.ofW (cc := b_GS_isLetter) (maxL := 1) (ret := (some .boolean)) (by decide) rfl ?_
  intro p e s m args below meth c s₁ B hml hv
  obtain ⟨rfl, hN⟩ := hv
  have hx := B.exec
  have hb := B.bytes
  have hr := B.returns
  have hts := atoms_spec (ws := ws_GS_isLetter) B.pre
  have hown : s.vm.findClass R_GS = some m.cls := findClass_of_methodNamed B.named
  have hlocks := B.notSynchronized
  have hl := lv_entry ([.int p0]) (n := 1) (Nat.le_of_ble_eq_true rfl)
  rw [lg_entry_eq]
  generalize (lg_sl ([.int p0]) ++ List.replicate (1 - (lg_sl ([.int p0])).length) Slot.unset).toArray = ls at hl ⊢
  have hl : lv_has ls 1 [(0, .int p0)] := hl
  refine lv_iload_n hx hb d_GS_isLetter_0 rfl (lv_at hl 0 rfl) ?_
  refine lv_bipush (v := 65) hx hb d_GS_isLetter_1 (by decide) ?_
  refine lv_icmp_lt (tgt := 16) hx hb d_GS_isLetter_3 (by decide) (fun c_3 => ?_) (fun c_3 => ?_)
  · refine lv_iconst (v := 0) hx hb d_GS_isLetter_16 (by decide) ?_
    exact W.zret (v := 0) hx hb hr (bl_nar (Or.inl rfl)) (fun t ht hW => ⟨0, rfl, ⟨by simp only [f_GS_isLetter, if_pos c_3], (Or.inl rfl)⟩, ht⟩) (fun q h => absurd h List.not_mem_nil) d_GS_isLetter_17
  · refine lv_iload_n hx hb d_GS_isLetter_6 rfl (lv_at hl 0 rfl) ?_
    refine lv_bipush (v := 90) hx hb d_GS_isLetter_7 (by decide) ?_
    refine lv_icmp_gt (tgt := 16) hx hb d_GS_isLetter_9 (by decide) (fun c_9 => ?_) (fun c_9 => ?_)
    · refine lv_iconst (v := 0) hx hb d_GS_isLetter_16 (by decide) ?_
      exact W.zret (v := 0) hx hb hr (bl_nar (Or.inl rfl)) (fun t ht hW => ⟨0, rfl, ⟨by simp only [f_GS_isLetter, if_neg c_3, if_pos c_9], (Or.inl rfl)⟩, ht⟩) (fun q h => absurd h List.not_mem_nil) d_GS_isLetter_17
    · refine lv_iconst (v := 1) hx hb d_GS_isLetter_12 (by decide) ?_
      refine lv_goto (tgt := 17) hx hb d_GS_isLetter_13 (by decide) ?_
      exact W.zret (v := 1) hx hb hr (bl_nar (Or.inr rfl)) (fun t ht hW => ⟨1, rfl, ⟨by simp only [f_GS_isLetter, if_neg c_3, if_neg c_9], (Or.inr rfl)⟩, ht⟩) (fun q h => absurd h List.not_mem_nil) d_GS_isLetter_17
set_option maxHeartbeats 4000000 in
set_option maxRecDepth 100000 in
theorem c_GS_isLetterNumber (l : Launch) (p0 : Int32) : Met l y_GS_isLetterNumber ws_GS_isLetterNumber ({ frames := 0, cells := 0, slots := 0, locals := 0 }) (va_Pc [.int p0] NW) (vp_Si (fun r => r = f_GS_isLetterNumber p0 ∧ bl r)) 0 0 (fun _ => False) := by
  refine Met.ofW (cc := b_GS_isLetterNumber) (maxL := 1) (ret := (some .boolean)) (by decide) rfl ?_
  intro p e s m args below meth c s₁ B hml hv
  obtain ⟨rfl, hN⟩ := hv
  have hx := B.exec
  have hb := B.bytes
  have hr := B.returns
  have hts := atoms_spec (ws := ws_GS_isLetterNumber) B.pre
  have hown : s.vm.findClass R_GS = some m.cls := findClass_of_methodNamed B.named
  have hlocks := B.notSynchronized
  have hl := lv_entry ([.int p0]) (n := 1) (Nat.le_of_ble_eq_true rfl)
  rw [lg_entry_eq]
  generalize (lg_sl ([.int p0]) ++ List.replicate (1 - (lg_sl ([.int p0])).length) Slot.unset).toArray = ls at hl ⊢
  have hl : lv_has ls 1 [(0, .int p0)] := hl
  refine lv_iload_n hx hb d_GS_isLetterNumber_0 rfl (lv_at hl 0 rfl) ?_
  refine lv_if_lt (tgt := 14) hx hb d_GS_isLetterNumber_1 (by decide) (fun c_1 => ?_) (fun c_1 => ?_)
  · refine lv_iconst (v := 0) hx hb d_GS_isLetterNumber_14 (by decide) ?_
    exact W.zret (v := 0) hx hb hr (bl_nar (Or.inl rfl)) (fun t ht hW => ⟨0, rfl, ⟨by simp only [f_GS_isLetterNumber, if_pos c_1], (Or.inl rfl)⟩, ht⟩) (fun q h => absurd h List.not_mem_nil) d_GS_isLetterNumber_15
  · refine lv_iload_n hx hb d_GS_isLetterNumber_4 rfl (lv_at hl 0 rfl) ?_
    refine lv_bipush (v := 26) hx hb d_GS_isLetterNumber_5 (by decide) ?_
    refine lv_icmp_ge (tgt := 14) hx hb d_GS_isLetterNumber_7 (by decide) (fun c_7 => ?_) (fun c_7 => ?_)
    · refine lv_iconst (v := 0) hx hb d_GS_isLetterNumber_14 (by decide) ?_
      exact W.zret (v := 0) hx hb hr (bl_nar (Or.inl rfl)) (fun t ht hW => ⟨0, rfl, ⟨by simp only [f_GS_isLetterNumber, if_neg c_1, if_pos c_7], (Or.inl rfl)⟩, ht⟩) (fun q h => absurd h List.not_mem_nil) d_GS_isLetterNumber_15
    · refine lv_iconst (v := 1) hx hb d_GS_isLetterNumber_10 (by decide) ?_
      refine lv_goto (tgt := 15) hx hb d_GS_isLetterNumber_11 (by decide) ?_
      exact W.zret (v := 1) hx hb hr (bl_nar (Or.inr rfl)) (fun t ht hW => ⟨1, rfl, ⟨by simp only [f_GS_isLetterNumber, if_neg c_1, if_neg c_7], (Or.inr rfl)⟩, ht⟩) (fun q h => absurd h List.not_mem_nil) d_GS_isLetterNumber_15
set_option maxHeartbeats 4000000 in
set_option maxRecDepth 100000 in
theorem c_GS_hasBit (l : Launch) (p0 : Int32) (p1 : Int32) : Met l y_GS_hasBit ws_GS_hasBit ({ frames := 0, cells := 0, slots := 0, locals := 0 }) (va_Pc [.int p0, .int p1] NW) (vp_Si (fun r => r = f_GS_hasBit p0 p1 ∧ bl r)) 0 0 (fun _ => False) := by
  refine Met.ofW (cc := b_GS_hasBit) (maxL := 2) (ret := (some .boolean)) (by decide) rfl ?_
  intro p e s m args below meth c s₁ B hml hv
  obtain ⟨rfl, hN⟩ := hv
  have hx := B.exec
  have hb := B.bytes
  have hr := B.returns
  have hts := atoms_spec (ws := ws_GS_hasBit) B.pre
  have hown : s.vm.findClass R_GS = some m.cls := findClass_of_methodNamed B.named
  have hlocks := B.notSynchronized
  have hl := lv_entry ([.int p0, .int p1]) (n := 2) (Nat.le_of_ble_eq_true rfl)
  rw [lg_entry_eq]
  generalize (lg_sl ([.int p0, .int p1]) ++ List.replicate (2 - (lg_sl ([.int p0, .int p1])).length) Slot.unset).toArray = ls at hl ⊢
  have hl : lv_has ls 2 [(0, .int p0), (1, .int p1)] := hl
  refine lv_iload_n hx hb d_GS_hasBit_0 rfl (lv_at hl 0 rfl) ?_
  refine lv_iload_n hx hb d_GS_hasBit_1 rfl (lv_at hl 1 rfl) ?_
  obtain ⟨x2, ex2⟩ : ∃ y : Int32, y = (p0.toUInt32 >>> (p1.toUInt32 &&& Int32.toUInt32 31)).toInt32 := ⟨_, rfl⟩
  refine lv_iushr (v := x2) hx hb d_GS_hasBit_2 (by rw [ex2]) ?_
  refine lv_iconst (v := 1) hx hb d_GS_hasBit_3 (by decide) ?_
  refine lv_iand hx hb d_GS_hasBit_4 ?_
  refine lv_topi (fun x4 ex4 => ?_)
  refine lv_if_eq (tgt := 12) hx hb d_GS_hasBit_5 (by decide) (fun c_5 => ?_) (fun c_5 => ?_)
  · refine lv_iconst (v := 0) hx hb d_GS_hasBit_12 (by decide) ?_
    exact W.zret (v := 0) hx hb hr (bl_nar (Or.inl rfl)) (fun t ht hW => ⟨0, rfl, ⟨by subst ex4; subst ex2; simp only [f_GS_hasBit, if_pos c_5], (Or.inl rfl)⟩, ht⟩) (fun q h => absurd h List.not_mem_nil) d_GS_hasBit_13
  · refine lv_iconst (v := 1) hx hb d_GS_hasBit_8 (by decide) ?_
    refine lv_goto (tgt := 13) hx hb d_GS_hasBit_9 (by decide) ?_
    exact W.zret (v := 1) hx hb hr (bl_nar (Or.inr rfl)) (fun t ht hW => ⟨1, rfl, ⟨by subst ex4; subst ex2; simp only [f_GS_hasBit, if_neg c_5], (Or.inr rfl)⟩, ht⟩) (fun q h => absurd h List.not_mem_nil) d_GS_hasBit_13
set_option maxHeartbeats 4000000 in
set_option maxRecDepth 100000 in
theorem c_GS_isVariable (l : Launch) (p0 : Int32) : Met l y_GS_isVariable ws_GS_isVariable ({ frames := 0, cells := 0, slots := 0, locals := 0 }) (va_Pc [.int p0] NW) (vp_Si (fun r => r = f_GS_isVariable p0 ∧ bl r)) 0 0 (fun _ => False) := by
  refine Met.ofW (cc := b_GS_isVariable) (maxL := 1) (ret := (some .boolean)) (by decide) rfl ?_
  intro p e s m args below meth c s₁ B hml hv
  obtain ⟨rfl, hN⟩ := hv
  have hx := B.exec
  have hb := B.bytes
  have hr := B.returns
  have hts := atoms_spec (ws := ws_GS_isVariable) B.pre
  have hown : s.vm.findClass R_GS = some m.cls := findClass_of_methodNamed B.named
  have hlocks := B.notSynchronized
  have hl := lv_entry ([.int p0]) (n := 1) (Nat.le_of_ble_eq_true rfl)
  rw [lg_entry_eq]
  generalize (lg_sl ([.int p0]) ++ List.replicate (1 - (lg_sl ([.int p0])).length) Slot.unset).toArray = ls at hl ⊢
  have hl : lv_has ls 1 [(0, .int p0)] := hl
  refine lv_iload_n hx hb d_GS_isVariable_0 rfl (lv_at hl 0 rfl) ?_
  refine lv_bipush (v := 97) hx hb d_GS_isVariable_1 (by decide) ?_
  refine lv_icmp_lt (tgt := 16) hx hb d_GS_isVariable_3 (by decide) (fun c_3 => ?_) (fun c_3 => ?_)
  · refine lv_iconst (v := 0) hx hb d_GS_isVariable_16 (by decide) ?_
    exact W.zret (v := 0) hx hb hr (bl_nar (Or.inl rfl)) (fun t ht hW => ⟨0, rfl, ⟨by simp only [f_GS_isVariable, if_pos c_3], (Or.inl rfl)⟩, ht⟩) (fun q h => absurd h List.not_mem_nil) d_GS_isVariable_17
  · refine lv_iload_n hx hb d_GS_isVariable_6 rfl (lv_at hl 0 rfl) ?_
    refine lv_bipush (v := 104) hx hb d_GS_isVariable_7 (by decide) ?_
    refine lv_icmp_gt (tgt := 16) hx hb d_GS_isVariable_9 (by decide) (fun c_9 => ?_) (fun c_9 => ?_)
    · refine lv_iconst (v := 0) hx hb d_GS_isVariable_16 (by decide) ?_
      exact W.zret (v := 0) hx hb hr (bl_nar (Or.inl rfl)) (fun t ht hW => ⟨0, rfl, ⟨by simp only [f_GS_isVariable, if_neg c_3, if_pos c_9], (Or.inl rfl)⟩, ht⟩) (fun q h => absurd h List.not_mem_nil) d_GS_isVariable_17
    · refine lv_iconst (v := 1) hx hb d_GS_isVariable_12 (by decide) ?_
      refine lv_goto (tgt := 17) hx hb d_GS_isVariable_13 (by decide) ?_
      exact W.zret (v := 1) hx hb hr (bl_nar (Or.inr rfl)) (fun t ht hW => ⟨1, rfl, ⟨by simp only [f_GS_isVariable, if_neg c_3, if_neg c_9], (Or.inr rfl)⟩, ht⟩) (fun q h => absurd h List.not_mem_nil) d_GS_isVariable_17
set_option maxHeartbeats 4000000 in
set_option maxRecDepth 100000 in
theorem c_RD_behindFirstSign (l : Launch) (p0 : Int32) : Met l y_RD_behindFirstSign ws_RD_behindFirstSign ({ frames := 1, cells := 0, slots := 0, locals := 20 }) (va_Pc [.int p0] NW) (vp_Si (fun r => r = f_RD_behindFirstSign p0)) 0 0 (fun _ => False) := by
  refine Met.ofW (cc := b_RD_behindFirstSign) (maxL := 1) (ret := (some .int)) (by decide) rfl ?_
  intro p e s m args below meth c s₁ B hml hv
  obtain ⟨rfl, hN⟩ := hv
  have hx := B.exec
  have hb := B.bytes
  have hr := B.returns
  have hts := atoms_spec (ws := ws_RD_behindFirstSign) B.pre
  have hown : s.vm.findClass R_RD = some m.cls := findClass_of_methodNamed B.named
  have hlocks := B.notSynchronized
  have hl := lv_entry ([.int p0]) (n := 1) (Nat.le_of_ble_eq_true rfl)
  rw [lg_entry_eq]
  generalize (lg_sl ([.int p0]) ++ List.replicate (1 - (lg_sl ([.int p0])).length) Slot.unset).toArray = ls at hl ⊢
  have hl : lv_has ls 1 [(0, .int p0)] := hl
  refine lv_iload_n hx hb d_RD_behindFirstSign_0 rfl (lv_at hl 0 rfl) ?_
  refine vp_callSi (va_runSN (As := [.int p0]) (rest := []) ⟨hx, hb, hml, hown, hts⟩ (c_GS_isVariable l p0) ⟨va_cnB 1 hts (gW kw202) rfl rfl rfl (hN.1 (R_RD, 100, y_GS_isVariable, "GateStack") (by decide +kernel)) (hts _ (List.mem_cons_of_mem _ kw1)) (by decide +kernel) ⟨Nat.le_of_ble_eq_true rfl, Nat.le_of_ble_eq_true rfl⟩, (hts _ (List.mem_cons_of_mem _ kw201)), trivial⟩ ⟨blindP, fun U hU hW => ⟨rfl, NW_warm hW hN⟩⟩ rfl rfl hl.1 rfl (lv_room (Nat.le_of_ble_eq_true rfl)) d_RD_behindFirstSign_1 ⟨Nat.zero_le _, Nat.zero_le _⟩).run (fun x1 ex1 => ?_)
  obtain ⟨ex1, bx1⟩ := ex1
  refine lv_if_eq (tgt := 9) hx hb d_RD_behindFirstSign_4 (by decide) (fun c_4 => ?_) (fun c_4 => ?_)
  · refine lv_iload_n hx hb d_RD_behindFirstSign_9 rfl (lv_at hl 0 rfl) ?_
    refine vp_callSi (va_runSN (As := [.int p0]) (rest := []) ⟨hx, hb, hml, hown, hts⟩ (c_GS_isLetter l p0) ⟨va_cnB 1 hts (gW kw167) rfl rfl rfl (hN.1 (R_RD, 72, y_GS_isLetter, "GateStack") (by decide +kernel)) (hts _ (List.mem_cons_of_mem _ kw1)) (by decide +kernel) ⟨Nat.le_of_ble_eq_true rfl, Nat.le_of_ble_eq_true rfl⟩, (hts _ (List.mem_cons_of_mem _ kw166)), trivial⟩ ⟨blindP, fun U hU hW => ⟨rfl, NW_warm hW hN⟩⟩ rfl rfl hl.1 rfl (lv_room (Nat.le_of_ble_eq_true rfl)) d_RD_behindFirstSign_10 ⟨Nat.zero_le _, Nat.zero_le _⟩).run (fun x10 ex10 => ?_)
    obtain ⟨ex10, bx10⟩ := ex10
    refine lv_if_eq (tgt := 18) hx hb d_RD_behindFirstSign_13 (by decide) (fun c_13 => ?_) (fun c_13 => ?_)
    · refine lv_iload_n hx hb d_RD_behindFirstSign_18 rfl (lv_at hl 0 rfl) ?_
      refine lv_bipush (v := 33) hx hb d_RD_behindFirstSign_19 (by decide) ?_
      refine lv_icmp_eq (tgt := 36) hx hb d_RD_behindFirstSign_21 (by decide) (fun c_21 => ?_) (fun c_21 => ?_)
      · refine lv_bipush (v := 6) hx hb d_RD_behindFirstSign_36 (by decide) ?_
        refine lv_goto (tgt := 42) hx hb d_RD_behindFirstSign_38 (by decide) ?_
        exact W.iret (v := 6) hx hb hr (fun t ht hW => ⟨6, rfl, by subst ex10; subst ex1; simp only [f_RD_behindFirstSign, if_pos c_4, if_pos c_13, if_pos c_21], ht⟩) (fun q h => absurd h List.not_mem_nil) d_RD_behindFirstSign_42
      · refine lv_iload_n hx hb d_RD_behindFirstSign_24 rfl (lv_at hl 0 rfl) ?_
        refine lv_bipush (v := 63) hx hb d_RD_behindFirstSign_25 (by decide) ?_
        refine lv_icmp_eq (tgt := 36) hx hb d_RD_behindFirstSign_27 (by decide) (fun c_27 => ?_) (fun c_27 => ?_)
        · refine lv_bipush (v := 6) hx hb d_RD_behindFirstSign_36 (by decide) ?_
          refine lv_goto (tgt := 42) hx hb d_RD_behindFirstSign_38 (by decide) ?_
          exact W.iret (v := 6) hx hb hr (fun t ht hW => ⟨6, rfl, by subst ex10; subst ex1; simp only [f_RD_behindFirstSign, if_pos c_4, if_pos c_13, if_neg c_21, if_pos c_27], ht⟩) (fun q h => absurd h List.not_mem_nil) d_RD_behindFirstSign_42
        · refine lv_iload_n hx hb d_RD_behindFirstSign_30 rfl (lv_at hl 0 rfl) ?_
          refine lv_bipush (v := 64) hx hb d_RD_behindFirstSign_31 (by decide) ?_
          refine lv_icmp_ne (tgt := 41) hx hb d_RD_behindFirstSign_33 (by decide) (fun c_33 => ?_) (fun c_33 => ?_)
          · refine lv_iconst (v := 2) hx hb d_RD_behindFirstSign_41 (by decide) ?_
            exact W.iret (v := 2) hx hb hr (fun t ht hW => ⟨2, rfl, by subst ex10; subst ex1; simp only [f_RD_behindFirstSign, if_pos c_4, if_pos c_13, if_neg c_21, if_neg c_27, if_neg c_33], ht⟩) (fun q h => absurd h List.not_mem_nil) d_RD_behindFirstSign_42
          · refine lv_bipush (v := 6) hx hb d_RD_behindFirstSign_36 (by decide) ?_
            refine lv_goto (tgt := 42) hx hb d_RD_behindFirstSign_38 (by decide) ?_
            exact W.iret (v := 6) hx hb hr (fun t ht hW => ⟨6, rfl, by subst ex10; subst ex1; simp only [f_RD_behindFirstSign, if_pos c_4, if_pos c_13, if_neg c_21, if_neg c_27, if_pos c_33], ht⟩) (fun q h => absurd h List.not_mem_nil) d_RD_behindFirstSign_42
    · refine lv_iconst (v := 5) hx hb d_RD_behindFirstSign_16 (by decide) ?_
      exact W.iret (v := 5) hx hb hr (fun t ht hW => ⟨5, rfl, by subst ex10; subst ex1; simp only [f_RD_behindFirstSign, if_pos c_4, if_neg c_13], ht⟩) (fun q h => absurd h List.not_mem_nil) d_RD_behindFirstSign_17
  · refine lv_iconst (v := 4) hx hb d_RD_behindFirstSign_7 (by decide) ?_
    exact W.iret (v := 4) hx hb hr (fun t ht hW => ⟨4, rfl, by subst ex1; simp only [f_RD_behindFirstSign, if_neg c_4], ht⟩) (fun q h => absurd h List.not_mem_nil) d_RD_behindFirstSign_8
set_option maxHeartbeats 4000000 in
set_option maxRecDepth 100000 in
theorem c_GS_isPrefix (l : Launch) (p0 : Int32) : Met l y_GS_isPrefix ws_GS_isPrefix ({ frames := 0, cells := 0, slots := 0, locals := 0 }) (va_Pc [.int p0] NW) (vp_Si (fun r => r = f_GS_isPrefix p0 ∧ bl r)) 0 0 (fun _ => False) := by
  refine Met.ofW (cc := b_GS_isPrefix) (maxL := 1) (ret := (some .boolean)) (by decide) rfl ?_
  intro p e s m args below meth c s₁ B hml hv
  obtain ⟨rfl, hN⟩ := hv
  have hx := B.exec
  have hb := B.bytes
  have hr := B.returns
  have hts := atoms_spec (ws := ws_GS_isPrefix) B.pre
  have hown : s.vm.findClass R_GS = some m.cls := findClass_of_methodNamed B.named
  have hlocks := B.notSynchronized
  have hl := lv_entry ([.int p0]) (n := 1) (Nat.le_of_ble_eq_true rfl)
  rw [lg_entry_eq]
  generalize (lg_sl ([.int p0]) ++ List.replicate (1 - (lg_sl ([.int p0])).length) Slot.unset).toArray = ls at hl ⊢
  have hl : lv_has ls 1 [(0, .int p0)] := hl
  refine lv_iload_n hx hb d_GS_isPrefix_0 rfl (lv_at hl 0 rfl) ?_
  refine lv_bipush (v := 126) hx hb d_GS_isPrefix_1 (by decide) ?_
  refine lv_icmp_eq (tgt := 12) hx hb d_GS_isPrefix_3 (by decide) (fun c_3 => ?_) (fun c_3 => ?_)
  · refine lv_iconst (v := 1) hx hb d_GS_isPrefix_12 (by decide) ?_
    refine lv_goto (tgt := 17) hx hb d_GS_isPrefix_13 (by decide) ?_
    exact W.zret (v := 1) hx hb hr (bl_nar (Or.inr rfl)) (fun t ht hW => ⟨1, rfl, ⟨by simp only [f_GS_isPrefix, if_pos c_3], (Or.inr rfl)⟩, ht⟩) (fun q h => absurd h List.not_mem_nil) d_GS_isPrefix_17
  · refine lv_iload_n hx hb d_GS_isPrefix_6 rfl (lv_at hl 0 rfl) ?_
    refine lv_bipush (v := 45) hx hb d_GS_isPrefix_7 (by decide) ?_
    refine lv_icmp_ne (tgt := 16) hx hb d_GS_isPrefix_9 (by decide) (fun c_9 => ?_) (fun c_9 => ?_)
    · refine lv_iconst (v := 0) hx hb d_GS_isPrefix_16 (by decide) ?_
      exact W.zret (v := 0) hx hb hr (bl_nar (Or.inl rfl)) (fun t ht hW => ⟨0, rfl, ⟨by simp only [f_GS_isPrefix, if_neg c_3, if_neg c_9], (Or.inl rfl)⟩, ht⟩) (fun q h => absurd h List.not_mem_nil) d_GS_isPrefix_17
    · refine lv_iconst (v := 1) hx hb d_GS_isPrefix_12 (by decide) ?_
      refine lv_goto (tgt := 17) hx hb d_GS_isPrefix_13 (by decide) ?_
      exact W.zret (v := 1) hx hb hr (bl_nar (Or.inr rfl)) (fun t ht hW => ⟨1, rfl, ⟨by simp only [f_GS_isPrefix, if_neg c_3, if_pos c_9], (Or.inr rfl)⟩, ht⟩) (fun q h => absurd h List.not_mem_nil) d_GS_isPrefix_17
set_option maxHeartbeats 4000000 in
set_option maxRecDepth 100000 in
theorem c_GS_isDigit (l : Launch) (p0 : Int32) : Met l y_GS_isDigit ws_GS_isDigit ({ frames := 0, cells := 0, slots := 0, locals := 0 }) (va_Pc [.int p0] NW) (vp_Si (fun r => r = f_GS_isDigit p0 ∧ bl r)) 0 0 (fun _ => False) := by
  refine Met.ofW (cc := b_GS_isDigit) (maxL := 1) (ret := (some .boolean)) (by decide) rfl ?_
  intro p e s m args below meth c s₁ B hml hv
  obtain ⟨rfl, hN⟩ := hv
  have hx := B.exec
  have hb := B.bytes
  have hr := B.returns
  have hts := atoms_spec (ws := ws_GS_isDigit) B.pre
  have hown : s.vm.findClass R_GS = some m.cls := findClass_of_methodNamed B.named
  have hlocks := B.notSynchronized
  have hl := lv_entry ([.int p0]) (n := 1) (Nat.le_of_ble_eq_true rfl)
  rw [lg_entry_eq]
  generalize (lg_sl ([.int p0]) ++ List.replicate (1 - (lg_sl ([.int p0])).length) Slot.unset).toArray = ls at hl ⊢
  have hl : lv_has ls 1 [(0, .int p0)] := hl
  refine lv_iload_n hx hb d_GS_isDigit_0 rfl (lv_at hl 0 rfl) ?_
  refine lv_bipush (v := 48) hx hb d_GS_isDigit_1 (by decide) ?_
  refine lv_icmp_lt (tgt := 16) hx hb d_GS_isDigit_3 (by decide) (fun c_3 => ?_) (fun c_3 => ?_)
  · refine lv_iconst (v := 0) hx hb d_GS_isDigit_16 (by decide) ?_
    exact W.zret (v := 0) hx hb hr (bl_nar (Or.inl rfl)) (fun t ht hW => ⟨0, rfl, ⟨by simp only [f_GS_isDigit, if_pos c_3], (Or.inl rfl)⟩, ht⟩) (fun q h => absurd h List.not_mem_nil) d_GS_isDigit_17
  · refine lv_iload_n hx hb d_GS_isDigit_6 rfl (lv_at hl 0 rfl) ?_
    refine lv_bipush (v := 57) hx hb d_GS_isDigit_7 (by decide) ?_
    refine lv_icmp_gt (tgt := 16) hx hb d_GS_isDigit_9 (by decide) (fun c_9 => ?_) (fun c_9 => ?_)
    · refine lv_iconst (v := 0) hx hb d_GS_isDigit_16 (by decide) ?_
      exact W.zret (v := 0) hx hb hr (bl_nar (Or.inl rfl)) (fun t ht hW => ⟨0, rfl, ⟨by simp only [f_GS_isDigit, if_neg c_3, if_pos c_9], (Or.inl rfl)⟩, ht⟩) (fun q h => absurd h List.not_mem_nil) d_GS_isDigit_17
    · refine lv_iconst (v := 1) hx hb d_GS_isDigit_12 (by decide) ?_
      refine lv_goto (tgt := 17) hx hb d_GS_isDigit_13 (by decide) ?_
      exact W.zret (v := 1) hx hb hr (bl_nar (Or.inr rfl)) (fun t ht hW => ⟨1, rfl, ⟨by simp only [f_GS_isDigit, if_neg c_3, if_neg c_9], (Or.inr rfl)⟩, ht⟩) (fun q h => absurd h List.not_mem_nil) d_GS_isDigit_17
set_option maxHeartbeats 4000000 in
set_option maxRecDepth 100000 in
theorem c_GS_operationOf (l : Launch) (p0 : Int32) : Met l y_GS_operationOf ws_GS_operationOf ({ frames := 0, cells := 0, slots := 0, locals := 0 }) (va_Pc [.int p0] NW) (vp_Si (fun r => r = f_GS_operationOf p0)) 0 0 (fun _ => False) := by
  refine Met.ofW (cc := b_GS_operationOf) (maxL := 1) (ret := (some .int)) (by decide) rfl ?_
  intro p e s m args below meth c s₁ B hml hv
  obtain ⟨rfl, hN⟩ := hv
  have hx := B.exec
  have hb := B.bytes
  have hr := B.returns
  have hts := atoms_spec (ws := ws_GS_operationOf) B.pre
  have hown : s.vm.findClass R_GS = some m.cls := findClass_of_methodNamed B.named
  have hlocks := B.notSynchronized
  have hl := lv_entry ([.int p0]) (n := 1) (Nat.le_of_ble_eq_true rfl)
  rw [lg_entry_eq]
  generalize (lg_sl ([.int p0]) ++ List.replicate (1 - (lg_sl ([.int p0])).length) Slot.unset).toArray = ls at hl ⊢
  have hl : lv_has ls 1 [(0, .int p0)] := hl
  refine lv_iload_n hx hb d_GS_operationOf_0 rfl (lv_at hl 0 rfl) ?_
  by_cases c_1_38 : p0 = 38
  · refine lv_lookup (tgt := 72) hx hb d_GS_operationOf_1 (by decide) (by rw [c_1_38]; first | done | rfl) (by decide) ?_
    refine lv_iconst (v := 2) hx hb d_GS_operationOf_72 (by decide) ?_
    exact W.iret (v := 2) hx hb hr (fun t ht hW => ⟨2, rfl, by simp only [f_GS_operationOf, if_pos c_1_38], ht⟩) (fun q h => absurd h List.not_mem_nil) d_GS_operationOf_73
  by_cases c_1_43 : p0 = 43
  · refine lv_lookup (tgt := 68) hx hb d_GS_operationOf_1 (by decide) (by rw [c_1_43]; first | done | rfl) (by decide) ?_
    refine lv_iconst (v := 0) hx hb d_GS_operationOf_68 (by decide) ?_
    exact W.iret (v := 0) hx hb hr (fun t ht hW => ⟨0, rfl, by simp only [f_GS_operationOf, if_neg c_1_38, if_pos c_1_43], ht⟩) (fun q h => absurd h List.not_mem_nil) d_GS_operationOf_69
  by_cases c_1_45 : p0 = 45
  · refine lv_lookup (tgt := 70) hx hb d_GS_operationOf_1 (by decide) (by rw [c_1_45]; first | done | rfl) (by decide) ?_
    refine lv_iconst (v := 1) hx hb d_GS_operationOf_70 (by decide) ?_
    exact W.iret (v := 1) hx hb hr (fun t ht hW => ⟨1, rfl, by simp only [f_GS_operationOf, if_neg c_1_38, if_neg c_1_43, if_pos c_1_45], ht⟩) (fun q h => absurd h List.not_mem_nil) d_GS_operationOf_71
  by_cases c_1_60 : p0 = 60
  · refine lv_lookup (tgt := 78) hx hb d_GS_operationOf_1 (by decide) (by rw [c_1_60]; first | done | rfl) (by decide) ?_
    refine lv_iconst (v := 5) hx hb d_GS_operationOf_78 (by decide) ?_
    exact W.iret (v := 5) hx hb hr (fun t ht hW => ⟨5, rfl, by simp only [f_GS_operationOf, if_neg c_1_38, if_neg c_1_43, if_neg c_1_45, if_pos c_1_60], ht⟩) (fun q h => absurd h List.not_mem_nil) d_GS_operationOf_79
  by_cases c_1_61 : p0 = 61
  · refine lv_lookup (tgt := 80) hx hb d_GS_operationOf_1 (by decide) (by rw [c_1_61]; first | done | rfl) (by decide) ?_
    refine lv_bipush (v := 6) hx hb d_GS_operationOf_80 (by decide) ?_
    exact W.iret (v := 6) hx hb hr (fun t ht hW => ⟨6, rfl, by simp only [f_GS_operationOf, if_neg c_1_38, if_neg c_1_43, if_neg c_1_45, if_neg c_1_60, if_pos c_1_61], ht⟩) (fun q h => absurd h List.not_mem_nil) d_GS_operationOf_82
  by_cases c_1_94 : p0 = 94
  · refine lv_lookup (tgt := 76) hx hb d_GS_operationOf_1 (by decide) (by rw [c_1_94]; first | done | rfl) (by decide) ?_
    refine lv_iconst (v := 4) hx hb d_GS_operationOf_76 (by decide) ?_
    exact W.iret (v := 4) hx hb hr (fun t ht hW => ⟨4, rfl, by simp only [f_GS_operationOf, if_neg c_1_38, if_neg c_1_43, if_neg c_1_45, if_neg c_1_60, if_neg c_1_61, if_pos c_1_94], ht⟩) (fun q h => absurd h List.not_mem_nil) d_GS_operationOf_77
  by_cases c_1_124 : p0 = 124
  · refine lv_lookup (tgt := 74) hx hb d_GS_operationOf_1 (by decide) (by rw [c_1_124]; first | done | rfl) (by decide) ?_
    refine lv_iconst (v := 3) hx hb d_GS_operationOf_74 (by decide) ?_
    exact W.iret (v := 3) hx hb hr (fun t ht hW => ⟨3, rfl, by simp only [f_GS_operationOf, if_neg c_1_38, if_neg c_1_43, if_neg c_1_45, if_neg c_1_60, if_neg c_1_61, if_neg c_1_94, if_pos c_1_124], ht⟩) (fun q h => absurd h List.not_mem_nil) d_GS_operationOf_75
  refine lv_lookup (tgt := 83) (off := 82) hx hb d_GS_operationOf_1 (by decide) ((lv_osw c_1_38 (by decide)).trans ((lv_osw c_1_43 (by decide)).trans ((lv_osw c_1_45 (by decide)).trans ((lv_osw c_1_60 (by decide)).trans ((lv_osw c_1_61 (by decide)).trans ((lv_osw c_1_94 (by decide)).trans ((lv_osw c_1_124 (by decide)).trans rfl))))))) (by decide) ?_
  refine lv_iconst (v := (-1)) hx hb d_GS_operationOf_83 (by decide) ?_
  exact W.iret (v := (-1)) hx hb hr (fun t ht hW => ⟨(-1), rfl, by simp only [f_GS_operationOf, if_neg c_1_38, if_neg c_1_43, if_neg c_1_45, if_neg c_1_60, if_neg c_1_61, if_neg c_1_94, if_neg c_1_124], ht⟩) (fun q h => absurd h List.not_mem_nil) d_GS_operationOf_84
set_option maxHeartbeats 4000000 in
set_option maxRecDepth 100000 in
theorem c_JI_bitCount (l : Launch) (p0 : Int32) : Met l y_JI_bitCount ws_JI_bitCount ({ frames := 0, cells := 0, slots := 0, locals := 0 }) (va_Pc [.int p0] NW) (vp_Si (fun r => r = f_JI_bitCount p0)) 0 0 (fun _ => False) := by
  refine Met.ofW (cc := b_JI_bitCount) (maxL := 1) (ret := (some .int)) (by decide) rfl ?_
  intro p e s m args below meth c s₁ B hml hv
  obtain ⟨rfl, hN⟩ := hv
  have hx := B.exec
  have hb := B.bytes
  have hr := B.returns
  have hts := atoms_spec (ws := ws_JI_bitCount) B.pre
  have hown : s.vm.findClass R_JI = some m.cls := findClass_of_methodNamed B.named
  have hlocks := B.notSynchronized
  have hl := lv_entry ([.int p0]) (n := 1) (Nat.le_of_ble_eq_true rfl)
  rw [lg_entry_eq]
  generalize (lg_sl ([.int p0]) ++ List.replicate (1 - (lg_sl ([.int p0])).length) Slot.unset).toArray = ls at hl ⊢
  have hl : lv_has ls 1 [(0, .int p0)] := hl
  refine lv_iload_n hx hb d_JI_bitCount_0 rfl (lv_at hl 0 rfl) ?_
  refine lv_iload_n hx hb d_JI_bitCount_1 rfl (lv_at hl 0 rfl) ?_
  refine lv_iconst (v := 1) hx hb d_JI_bitCount_2 (by decide) ?_
  obtain ⟨x3, ex3⟩ : ∃ y : Int32, y = (p0.toUInt32 >>> ((1 : Int32).toUInt32 &&& Int32.toUInt32 31)).toInt32 := ⟨_, rfl⟩
  refine lv_iushr (v := x3) hx hb d_JI_bitCount_3 (by rw [ex3]) ?_
  refine lv_ldcw (v := 1431655765) hx hb hown (hts _ (List.mem_cons_of_mem _ kw247)) d_JI_bitCount_4 ?_
  refine lv_iand hx hb d_JI_bitCount_7 ?_
  refine lv_topi (fun x7 ex7 => ?_)
  refine lv_isub hx hb d_JI_bitCount_8 ?_
  refine lv_topi (fun x8 ex8 => ?_)
  refine lv_istore_n (lv' := [(0, .int x8)]) hx hb d_JI_bitCount_9 rfl hl (by decide) rfl (fun ls hl => ?_)
  refine lv_iload_n hx hb d_JI_bitCount_10 rfl (lv_at hl 0 rfl) ?_
  refine lv_ldcw (v := 858993459) hx hb hown (hts _ (List.mem_cons_of_mem _ kw248)) d_JI_bitCount_11 ?_
  refine lv_iand hx hb d_JI_bitCount_14 ?_
  refine lv_topi (fun x14 ex14 => ?_)
  refine lv_iload_n hx hb d_JI_bitCount_15 rfl (lv_at hl 0 rfl) ?_
  refine lv_iconst (v := 2) hx hb d_JI_bitCount_16 (by decide) ?_
  obtain ⟨x17, ex17⟩ : ∃ y : Int32, y = (x8.toUInt32 >>> ((2 : Int32).toUInt32 &&& Int32.toUInt32 31)).toInt32 := ⟨_, rfl⟩
  refine lv_iushr (v := x17) hx hb d_JI_bitCount_17 (by rw [ex17]) ?_
  refine lv_ldcw (v := 858993459) hx hb hown (hts _ (List.mem_cons_of_mem _ kw248)) d_JI_bitCount_18 ?_
  refine lv_iand hx hb d_JI_bitCount_21 ?_
  refine lv_topi (fun x21 ex21 => ?_)
  refine lv_iadd hx hb d_JI_bitCount_22 ?_
  refine lv_topi (fun x22 ex22 => ?_)
  refine lv_istore_n (lv' := [(0, .int x22)]) hx hb d_JI_bitCount_23 rfl hl (by decide) rfl (fun ls hl => ?_)
  refine lv_iload_n hx hb d_JI_bitCount_24 rfl (lv_at hl 0 rfl) ?_
  refine lv_iload_n hx hb d_JI_bitCount_25 rfl (lv_at hl 0 rfl) ?_
  refine lv_iconst (v := 4) hx hb d_JI_bitCount_26 (by decide) ?_
  obtain ⟨x27, ex27⟩ : ∃ y : Int32, y = (x22.toUInt32 >>> ((4 : Int32).toUInt32 &&& Int32.toUInt32 31)).toInt32 := ⟨_, rfl⟩
  refine lv_iushr (v := x27) hx hb d_JI_bitCount_27 (by rw [ex27]) ?_
  refine lv_iadd hx hb d_JI_bitCount_28 ?_
  refine lv_topi (fun x28 ex28 => ?_)
  refine lv_ldcw (v := 252645135) hx hb hown (hts _ (List.mem_cons_of_mem _ kw249)) d_JI_bitCount_29 ?_
  refine lv_iand hx hb d_JI_bitCount_32 ?_
  refine lv_topi (fun x32 ex32 => ?_)
  refine lv_istore_n (lv' := [(0, .int x32)]) hx hb d_JI_bitCount_33 rfl hl (by decide) rfl (fun ls hl => ?_)
  refine lv_iload_n hx hb d_JI_bitCount_34 rfl (lv_at hl 0 rfl) ?_
  refine lv_iload_n hx hb d_JI_bitCount_35 rfl (lv_at hl 0 rfl) ?_
  refine lv_bipush (v := 8) hx hb d_JI_bitCount_36 (by decide) ?_
  obtain ⟨x38, ex38⟩ : ∃ y : Int32, y = (x32.toUInt32 >>> ((8 : Int32).toUInt32 &&& Int32.toUInt32 31)).toInt32 := ⟨_, rfl⟩
  refine lv_iushr (v := x38) hx hb d_JI_bitCount_38 (by rw [ex38]) ?_
  refine lv_iadd hx hb d_JI_bitCount_39 ?_
  refine lv_topi (fun x39 ex39 => ?_)
  refine lv_istore_n (lv' := [(0, .int x39)]) hx hb d_JI_bitCount_40 rfl hl (by decide) rfl (fun ls hl => ?_)
  refine lv_iload_n hx hb d_JI_bitCount_41 rfl (lv_at hl 0 rfl) ?_
  refine lv_iload_n hx hb d_JI_bitCount_42 rfl (lv_at hl 0 rfl) ?_
  refine lv_bipush (v := 16) hx hb d_JI_bitCount_43 (by decide) ?_
  obtain ⟨x45, ex45⟩ : ∃ y : Int32, y = (x39.toUInt32 >>> ((16 : Int32).toUInt32 &&& Int32.toUInt32 31)).toInt32 := ⟨_, rfl⟩
  refine lv_iushr (v := x45) hx hb d_JI_bitCount_45 (by rw [ex45]) ?_
  refine lv_iadd hx hb d_JI_bitCount_46 ?_
  refine lv_topi (fun x46 ex46 => ?_)
  refine lv_istore_n (lv' := [(0, .int x46)]) hx hb d_JI_bitCount_47 rfl hl (by decide) rfl (fun ls hl => ?_)
  refine lv_iload_n hx hb d_JI_bitCount_48 rfl (lv_at hl 0 rfl) ?_
  refine lv_bipush (v := 63) hx hb d_JI_bitCount_49 (by decide) ?_
  refine lv_iand hx hb d_JI_bitCount_51 ?_
  refine lv_topi (fun x51 ex51 => ?_)
  exact W.iret (v := x51) hx hb hr (fun t ht hW => ⟨x51, rfl, by subst ex51; subst ex46; subst ex45; subst ex39; subst ex38; subst ex32; subst ex28; subst ex27; subst ex22; subst ex21; subst ex17; subst ex14; subst ex8; subst ex7; subst ex3; simp only [f_JI_bitCount], ht⟩) (fun q h => absurd h List.not_mem_nil) d_JI_bitCount_52
set_option maxHeartbeats 4000000 in
set_option maxRecDepth 100000 in
theorem c_GS_worked (l : Launch) (p0 : Int32) (p1 : Int32) (p2 : Int32) : Met l y_GS_worked ws_GS_worked ({ frames := 0, cells := 0, slots := 0, locals := 0 }) (va_Pc [.int p0, .int p1, .int p2] NW) (vp_Si (fun r => r = f_GS_worked p0 p1 p2)) 0 0 (fun _ => False) := by
  refine Met.ofW (cc := b_GS_worked) (maxL := 3) (ret := (some .int)) (by decide) rfl ?_
  intro p e s m args below meth c s₁ B hml hv
  obtain ⟨rfl, hN⟩ := hv
  have hx := B.exec
  have hb := B.bytes
  have hr := B.returns
  have hts := atoms_spec (ws := ws_GS_worked) B.pre
  have hown : s.vm.findClass R_GS = some m.cls := findClass_of_methodNamed B.named
  have hlocks := B.notSynchronized
  have hl := lv_entry ([.int p0, .int p1, .int p2]) (n := 3) (Nat.le_of_ble_eq_true rfl)
  rw [lg_entry_eq]
  generalize (lg_sl ([.int p0, .int p1, .int p2]) ++ List.replicate (3 - (lg_sl ([.int p0, .int p1, .int p2])).length) Slot.unset).toArray = ls at hl ⊢
  have hl : lv_has ls 3 [(0, .int p0), (1, .int p1), (2, .int p2)] := hl
  refine lv_iload_n hx hb d_GS_worked_0 rfl (lv_at hl 0 rfl) ?_
  by_cases c_1_0 : p0 = 0
  · refine lv_tableIn (tgt := 40) hx hb d_GS_worked_1 (by rw [c_1_0]; decide) (by rw [c_1_0]; decide) (by rw [c_1_0]; first | done | rfl) (by decide) ?_
    refine lv_iload_n hx hb d_GS_worked_40 rfl (lv_at hl 1 rfl) ?_
    refine lv_iload_n hx hb d_GS_worked_41 rfl (lv_at hl 2 rfl) ?_
    refine lv_iadd hx hb d_GS_worked_42 ?_
    refine lv_topi (fun x42 ex42 => ?_)
    exact W.iret (v := x42) hx hb hr (fun t ht hW => ⟨x42, rfl, by subst ex42; simp only [f_GS_worked, if_pos c_1_0], ht⟩) (fun q h => absurd h List.not_mem_nil) d_GS_worked_43
  by_cases c_1_1 : p0 = 1
  · refine lv_tableIn (tgt := 44) hx hb d_GS_worked_1 (by rw [c_1_1]; decide) (by rw [c_1_1]; decide) (by rw [c_1_1]; first | done | rfl) (by decide) ?_
    refine lv_iload_n hx hb d_GS_worked_44 rfl (lv_at hl 1 rfl) ?_
    refine lv_iload_n hx hb d_GS_worked_45 rfl (lv_at hl 2 rfl) ?_
    refine lv_isub hx hb d_GS_worked_46 ?_
    refine lv_topi (fun x46 ex46 => ?_)
    exact W.iret (v := x46) hx hb hr (fun t ht hW => ⟨x46, rfl, by subst ex46; simp only [f_GS_worked, if_neg c_1_0, if_pos c_1_1], ht⟩) (fun q h => absurd h List.not_mem_nil) d_GS_worked_47
  by_cases c_1_2 : p0 = 2
  · refine lv_tableIn (tgt := 48) hx hb d_GS_worked_1 (by rw [c_1_2]; decide) (by rw [c_1_2]; decide) (by rw [c_1_2]; first | done | rfl) (by decide) ?_
    refine lv_iload_n hx hb d_GS_worked_48 rfl (lv_at hl 1 rfl) ?_
    refine lv_iload_n hx hb d_GS_worked_49 rfl (lv_at hl 2 rfl) ?_
    refine lv_iand hx hb d_GS_worked_50 ?_
    refine lv_topi (fun x50 ex50 => ?_)
    exact W.iret (v := x50) hx hb hr (fun t ht hW => ⟨x50, rfl, by subst ex50; simp only [f_GS_worked, if_neg c_1_0, if_neg c_1_1, if_pos c_1_2], ht⟩) (fun q h => absurd h List.not_mem_nil) d_GS_worked_51
  by_cases c_1_3 : p0 = 3
  · refine lv_tableIn (tgt := 52) hx hb d_GS_worked_1 (by rw [c_1_3]; decide) (by rw [c_1_3]; decide) (by rw [c_1_3]; first | done | rfl) (by decide) ?_
    refine lv_iload_n hx hb d_GS_worked_52 rfl (lv_at hl 1 rfl) ?_
    refine lv_iload_n hx hb d_GS_worked_53 rfl (lv_at hl 2 rfl) ?_
    refine lv_ior hx hb d_GS_worked_54 ?_
    refine lv_topi (fun x54 ex54 => ?_)
    exact W.iret (v := x54) hx hb hr (fun t ht hW => ⟨x54, rfl, by subst ex54; simp only [f_GS_worked, if_neg c_1_0, if_neg c_1_1, if_neg c_1_2, if_pos c_1_3], ht⟩) (fun q h => absurd h List.not_mem_nil) d_GS_worked_55
  by_cases c_1_4 : p0 = 4
  · refine lv_tableIn (tgt := 56) hx hb d_GS_worked_1 (by rw [c_1_4]; decide) (by rw [c_1_4]; decide) (by rw [c_1_4]; first | done | rfl) (by decide) ?_
    refine lv_iload_n hx hb d_GS_worked_56 rfl (lv_at hl 1 rfl) ?_
    refine lv_iload_n hx hb d_GS_worked_57 rfl (lv_at hl 2 rfl) ?_
    refine lv_ixor hx hb d_GS_worked_58 ?_
    refine lv_topi (fun x58 ex58 => ?_)
    exact W.iret (v := x58) hx hb hr (fun t ht hW => ⟨x58, rfl, by subst ex58; simp only [f_GS_worked, if_neg c_1_0, if_neg c_1_1, if_neg c_1_2, if_neg c_1_3, if_pos c_1_4], ht⟩) (fun q h => absurd h List.not_mem_nil) d_GS_worked_59
  by_cases c_1_5 : p0 = 5
  · refine lv_tableIn (tgt := 60) hx hb d_GS_worked_1 (by rw [c_1_5]; decide) (by rw [c_1_5]; decide) (by rw [c_1_5]; first | done | rfl) (by decide) ?_
    refine lv_iload_n hx hb d_GS_worked_60 rfl (lv_at hl 1 rfl) ?_
    refine lv_iload_n hx hb d_GS_worked_61 rfl (lv_at hl 2 rfl) ?_
    refine lv_icmp_ge (tgt := 69) hx hb d_GS_worked_62 (by decide) (fun c_62 => ?_) (fun c_62 => ?_)
    · refine lv_iconst (v := 0) hx hb d_GS_worked_69 (by decide) ?_
      exact W.iret (v := 0) hx hb hr (fun t ht hW => ⟨0, rfl, by simp only [f_GS_worked, if_neg c_1_0, if_neg c_1_1, if_neg c_1_2, if_neg c_1_3, if_neg c_1_4, if_pos c_1_5, if_pos c_62], ht⟩) (fun q h => absurd h List.not_mem_nil) d_GS_worked_70
    · refine lv_iconst (v := 1) hx hb d_GS_worked_65 (by decide) ?_
      refine lv_goto (tgt := 70) hx hb d_GS_worked_66 (by decide) ?_
      exact W.iret (v := 1) hx hb hr (fun t ht hW => ⟨1, rfl, by simp only [f_GS_worked, if_neg c_1_0, if_neg c_1_1, if_neg c_1_2, if_neg c_1_3, if_neg c_1_4, if_pos c_1_5, if_neg c_62], ht⟩) (fun q h => absurd h List.not_mem_nil) d_GS_worked_70
  refine lv_tableOut (tgt := 71) hx hb d_GS_worked_1 (by have h0 := lv_neT (a := 0) c_1_0 (by decide); have h1 := lv_neT (a := 1) c_1_1 (by decide); have h2 := lv_neT (a := 2) c_1_2 (by decide); have h3 := lv_neT (a := 3) c_1_3 (by decide); have h4 := lv_neT (a := 4) c_1_4 (by decide); have h5 := lv_neT (a := 5) c_1_5 (by decide); omega) (by decide) ?_
  refine lv_iload_n hx hb d_GS_worked_71 rfl (lv_at hl 1 rfl) ?_
  refine lv_iload_n hx hb d_GS_worked_72 rfl (lv_at hl 2 rfl) ?_
  refine lv_icmp_ne (tgt := 80) hx hb d_GS_worked_73 (by decide) (fun c_73 => ?_) (fun c_73 => ?_)
  · refine lv_iconst (v := 0) hx hb d_GS_worked_80 (by decide) ?_
    exact W.iret (v := 0) hx hb hr (fun t ht hW => ⟨0, rfl, by simp only [f_GS_worked, if_neg c_1_0, if_neg c_1_1, if_neg c_1_2, if_neg c_1_3, if_neg c_1_4, if_neg c_1_5, if_neg c_73], ht⟩) (fun q h => absurd h List.not_mem_nil) d_GS_worked_81
  · refine lv_iconst (v := 1) hx hb d_GS_worked_76 (by decide) ?_
    refine lv_goto (tgt := 81) hx hb d_GS_worked_77 (by decide) ?_
    exact W.iret (v := 1) hx hb hr (fun t ht hW => ⟨1, rfl, by simp only [f_GS_worked, if_neg c_1_0, if_neg c_1_1, if_neg c_1_2, if_neg c_1_3, if_neg c_1_4, if_neg c_1_5, if_pos c_73], ht⟩) (fun q h => absurd h List.not_mem_nil) d_GS_worked_81
set_option maxHeartbeats 4000000 in
set_option maxRecDepth 100000 in
theorem c_GS_isVariableNumber (l : Launch) (p0 : Int32) : Met l y_GS_isVariableNumber ws_GS_isVariableNumber ({ frames := 0, cells := 0, slots := 0, locals := 0 }) (va_Pc [.int p0] NW) (vp_Si (fun r => r = f_GS_isVariableNumber p0 ∧ bl r)) 0 0 (fun _ => False) := by
  refine Met.ofW (cc := b_GS_isVariableNumber) (maxL := 1) (ret := (some .boolean)) (by decide) rfl ?_
  intro p e s m args below meth c s₁ B hml hv
  obtain ⟨rfl, hN⟩ := hv
  have hx := B.exec
  have hb := B.bytes
  have hr := B.returns
  have hts := atoms_spec (ws := ws_GS_isVariableNumber) B.pre
  have hown : s.vm.findClass R_GS = some m.cls := findClass_of_methodNamed B.named
  have hlocks := B.notSynchronized
  have hl := lv_entry ([.int p0]) (n := 1) (Nat.le_of_ble_eq_true rfl)
  rw [lg_entry_eq]
  generalize (lg_sl ([.int p0]) ++ List.replicate (1 - (lg_sl ([.int p0])).length) Slot.unset).toArray = ls at hl ⊢
  have hl : lv_has ls 1 [(0, .int p0)] := hl
  refine lv_iload_n hx hb d_GS_isVariableNumber_0 rfl (lv_at hl 0 rfl) ?_
  refine lv_if_lt (tgt := 14) hx hb d_GS_isVariableNumber_1 (by decide) (fun c_1 => ?_) (fun c_1 => ?_)
  · refine lv_iconst (v := 0) hx hb d_GS_isVariableNumber_14 (by decide) ?_
    exact W.zret (v := 0) hx hb hr (bl_nar (Or.inl rfl)) (fun t ht hW => ⟨0, rfl, ⟨by simp only [f_GS_isVariableNumber, if_pos c_1], (Or.inl rfl)⟩, ht⟩) (fun q h => absurd h List.not_mem_nil) d_GS_isVariableNumber_15
  · refine lv_iload_n hx hb d_GS_isVariableNumber_4 rfl (lv_at hl 0 rfl) ?_
    refine lv_bipush (v := 8) hx hb d_GS_isVariableNumber_5 (by decide) ?_
    refine lv_icmp_ge (tgt := 14) hx hb d_GS_isVariableNumber_7 (by decide) (fun c_7 => ?_) (fun c_7 => ?_)
    · refine lv_iconst (v := 0) hx hb d_GS_isVariableNumber_14 (by decide) ?_
      exact W.zret (v := 0) hx hb hr (bl_nar (Or.inl rfl)) (fun t ht hW => ⟨0, rfl, ⟨by simp only [f_GS_isVariableNumber, if_neg c_1, if_pos c_7], (Or.inl rfl)⟩, ht⟩) (fun q h => absurd h List.not_mem_nil) d_GS_isVariableNumber_15
    · refine lv_iconst (v := 1) hx hb d_GS_isVariableNumber_10 (by decide) ?_
      refine lv_goto (tgt := 15) hx hb d_GS_isVariableNumber_11 (by decide) ?_
      exact W.zret (v := 1) hx hb hr (bl_nar (Or.inr rfl)) (fun t ht hW => ⟨1, rfl, ⟨by simp only [f_GS_isVariableNumber, if_neg c_1, if_neg c_7], (Or.inr rfl)⟩, ht⟩) (fun q h => absurd h List.not_mem_nil) d_GS_isVariableNumber_15
end
section
set_option maxHeartbeats 4000000 in
set_option maxRecDepth 100000 in
theorem c_MT_append (l : Launch) (D : va_G) (G : GP) (S : CS) (sz : Nat) (k : Nat) (p1 : Int32) (N : Nat) (hI : IC N S) (hk : k < 3) : Met l y_MT_append ws_MT_append ({ frames := 0, cells := 0, slots := 0, locals := 0 }) (va_Pc [.ref (tA G k 0), .int p1] (cPre D G S sz)) (va_Qi (fun (r : Int32) (S' : CS) => (r, S') = f_MT_append S k p1 ∧ IC N S' ∧ bl r) (wB D G (va_A (wC G S) sz)) (va_A (wC G S) sz)) 0 0 (va_A (wC G S) sz) := by
  refine Met.ofW (cc := b_MT_append) (maxL := 2) (ret := (some .boolean)) (by decide) rfl ?_
  intro p e s m args below meth c s₁ B hml hv
  obtain ⟨rfl, hsz, hP, hK, hD0, hN⟩ := hv
  have hx := B.exec
  have hb := B.bytes
  have hr := B.returns
  have hts := atoms_spec (ws := ws_MT_append) B.pre
  have hown : s.vm.findClass R_MT = some m.cls := findClass_of_methodNamed B.named
  have hlocks := B.notSynchronized
  subst hsz
  have hD := hD0.self (sz := s.heap.size)
  generalize hAe : va_A (wC G S) s.heap.size = A at hD ⊢
  have hA : ∀ q : Nat, s.heap.size ≤ q → A q := fun q h => by rw [← hAe]; exact Or.inr h
  have hS : va_S A s.heap s.heap [] := va_S.rf
  have hl := lv_entry ([.ref (tA G k 0), .int p1]) (n := 2) (Nat.le_of_ble_eq_true rfl)
  rw [lg_entry_eq]
  generalize (lg_sl ([.ref (tA G k 0), .int p1]) ++ List.replicate (2 - (lg_sl ([.ref (tA G k 0), .int p1])).length) Slot.unset).toArray = ls at hl ⊢
  have hl : lv_has ls 2 [(0, .ref (tA G k 0)), (1, .int p1)] := hl
  have hI0 := hI
  refine lv_aload_n hx hb d_MT_append_0 rfl (lv_at hl 0 rfl) ?_
  refine va_get (D := D) (ci := 1) (v := .int (S.1 k 0 6)) (C := R_MT) (T := T_MT) (N := 10) hx hb hts (fun w h => List.mem_cons_of_mem _ (in_MT w h)) hown hK hP (13 + 7 * k) (wt_0 G S hk) rfl 6 (by decide) (hts _ (List.mem_cons_of_mem _ kw28)) (fun _ h9 => h9) rfl d_MT_append_1 ?_
  refine lv_bipush (v := 60) hx hb d_MT_append_4 (by decide) ?_
  refine lv_icmp_lt (tgt := 11) hx hb d_MT_append_6 (by decide) (fun c_6 => ?_) (fun c_6 => ?_)
  · refine lv_aload_n hx hb d_MT_append_11 rfl (lv_at hl 0 rfl) ?_
    refine va_get (D := D) (ci := 1) (v := .ref (tA G k 1)) (C := R_MT) (T := T_MT) (N := 10) hx hb hts (fun w h => List.mem_cons_of_mem _ (in_MT w h)) hown hK hP (13 + 7 * k) (wt_0 G S hk) rfl 0 (by decide) (hts _ (List.mem_cons_of_mem _ kw22)) (fun _ h9 => h9) rfl d_MT_append_12 ?_
    refine lv_aload_n hx hb d_MT_append_15 rfl (lv_at hl 0 rfl) ?_
    refine va_get (D := D) (ci := 1) (v := .int (S.1 k 0 6)) (C := R_MT) (T := T_MT) (N := 10) hx hb hts (fun w h => List.mem_cons_of_mem _ (in_MT w h)) hown hK hP (13 + 7 * k) (wt_0 G S hk) rfl 6 (by decide) (hts _ (List.mem_cons_of_mem _ kw28)) (fun _ h9 => h9) rfl d_MT_append_16 ?_
    refine lv_iload_n hx hb d_MT_append_19 rfl (lv_at hl 1 rfl) ?_
    refine va_iastE (D := D) hx hb hK hP hD hS (13 + 7 * k + 1) 0 (wt_1 G S hk) rfl (ln_in hI hk (i_lt 60 rfl c_6)) (wstt_a1 G S (S.1 k 0 6).toNatClampNeg p1 hk) d_MT_append_20 (fun H locs hP hD hS => ?_)
    obtain ⟨S20, eS20⟩ : ∃ y : CS, y = stT S k 1 (S.1 k 0 6).toNatClampNeg p1 := ⟨_, rfl⟩
    rw [← eS20] at hP hD
    have hI : IC N S20 := by rw [eS20]; exact IC_T hI _ _ _ _ (by decide)
    refine lv_aload_n hx hb d_MT_append_21 rfl (lv_at hl 0 rfl) ?_
    refine lv_dup hx hb d_MT_append_22 rfl ?_
    refine va_get (D := D) (ci := 1) (v := .int (S20.1 k 0 6)) (C := R_MT) (T := T_MT) (N := 10) hx hb hts (fun w h => List.mem_cons_of_mem _ (in_MT w h)) hown hK hP (13 + 7 * k) (wt_0 G S20 hk) rfl 6 (by decide) (hts _ (List.mem_cons_of_mem _ kw28)) (fun _ h9 => h9) rfl d_MT_append_23 ?_
    refine lv_iconst (v := 1) hx hb d_MT_append_26 (by decide) ?_
    refine lv_iadd hx hb d_MT_append_27 ?_
    refine lv_topi (fun x27 ex27 => ?_)
    refine va_putE (D := D) (ci := 1) (v := .int x27) (ty := .int) (C := R_MT) (T := T_MT) (N := 10) hx hb hts (fun w h => List.mem_cons_of_mem _ (in_MT w h)) t_MT t_MT_ok n_MT hown hK hP hD hS (13 + 7 * k) (wt_0 G S20 hk) rfl 6 (by decide) (hts _ (List.mem_cons_of_mem _ kw28)) (fun _ h9 => h9) rfl (by decide +kernel) rfl rfl (Nat.le_of_ble_eq_true rfl) (wstt_6 G S20 x27 hk) d_MT_append_28 (fun H locs hP hD hS => ?_)
    obtain ⟨S28, eS28⟩ : ∃ y : CS, y = stT S20 k 0 6 x27 := ⟨_, rfl⟩
    rw [← eS28] at hP hD
    have hI : IC N S28 := by rw [eS28]; exact (have q := ln_p hI0 hk (i_lt 60 rfl c_6); IC_tl hI _ _ (by rw [ex27, eS20, stT_o (by decide)]; exact q.1) (by rw [ex27, eS20, stT_o (by decide)]; exact q.2))
    refine lv_aload_n hx hb d_MT_append_31 rfl (lv_at hl 0 rfl) ?_
    refine lv_iconst (v := 0) hx hb d_MT_append_32 (by decide) ?_
    refine va_putE (D := D) (ci := 1) (v := .int 0) (ty := .boolean) (C := R_MT) (T := T_MT) (N := 10) hx hb hts (fun w h => List.mem_cons_of_mem _ (in_MT w h)) t_MT t_MT_ok n_MT hown hK hP hD hS (13 + 7 * k) (wt_0 G S28 hk) rfl 9 (by decide) (hts _ (List.mem_cons_of_mem _ kw31)) (fun _ h9 => h9) rfl (by decide +kernel) rfl rfl (Nat.le_of_ble_eq_true rfl) (wstt_9 G S28 0 hk) d_MT_append_33 (fun H locs hP hD hS => ?_)
    obtain ⟨S33, eS33⟩ : ∃ y : CS, y = stT S28 k 0 9 0 := ⟨_, rfl⟩
    rw [← eS33] at hP hD
    have hI : IC N S33 := by rw [eS33]; exact IC_tb hI _ 9 (Or.inr rfl) _ (Or.inl rfl)
    refine lv_iconst (v := 1) hx hb d_MT_append_36 (by decide) ?_
    exact W.zret (v := 1) hx hb hr (bl_nar (Or.inr rfl)) (fun t ht hW => ⟨⟨1, S33, rfl, ⟨by subst eS33; subst eS28; subst ex27; subst eS20; simp only [f_MT_append, if_pos c_6], hI, (Or.inr rfl)⟩, by rw [ht]; exact hP, hD⟩, hS.F ht⟩) hS.2.2 d_MT_append_37
  · refine lv_iconst (v := 0) hx hb d_MT_append_9 (by decide) ?_
    exact W.zret (v := 0) hx hb hr (bl_nar (Or.inl rfl)) (fun t ht hW => ⟨⟨0, S, rfl, ⟨by simp only [f_MT_append, if_neg c_6], hI, (Or.inl rfl)⟩, by rw [ht]; exact hP, hD⟩, hS.F ht⟩) hS.2.2 d_MT_append_10
set_option maxHeartbeats 4000000 in
set_option maxRecDepth 100000 in
theorem c_MT_length (l : Launch) (D : va_G) (G : GP) (S : CS) (k : Nat) (N : Nat) (hI : IC N S) (hk : k < 3) : Met l y_MT_length ws_MT_length ({ frames := 0, cells := 0, slots := 0, locals := 0 }) (va_Pc [.ref (tA G k 0)] (rPre D G S)) (vp_Si (fun r => r = f_MT_length S k)) 0 0 (fun _ => False) := by
  refine Met.ofW (cc := b_MT_length) (maxL := 1) (ret := (some .int)) (by decide) rfl ?_
  intro p e s m args below meth c s₁ B hml hv
  obtain ⟨rfl, hP, hK, hN⟩ := hv
  have hx := B.exec
  have hb := B.bytes
  have hr := B.returns
  have hts := atoms_spec (ws := ws_MT_length) B.pre
  have hown : s.vm.findClass R_MT = some m.cls := findClass_of_methodNamed B.named
  have hlocks := B.notSynchronized
  have hl := lv_entry ([.ref (tA G k 0)]) (n := 1) (Nat.le_of_ble_eq_true rfl)
  rw [lg_entry_eq]
  generalize (lg_sl ([.ref (tA G k 0)]) ++ List.replicate (1 - (lg_sl ([.ref (tA G k 0)])).length) Slot.unset).toArray = ls at hl ⊢
  have hl : lv_has ls 1 [(0, .ref (tA G k 0))] := hl
  refine lv_aload_n hx hb d_MT_length_0 rfl (lv_at hl 0 rfl) ?_
  refine va_get (D := D) (ci := 1) (v := .int (S.1 k 0 6)) (C := R_MT) (T := T_MT) (N := 10) hx hb hts (fun w h => List.mem_cons_of_mem _ (in_MT w h)) hown hK hP (13 + 7 * k) (wt_0 G S hk) rfl 6 (by decide) (hts _ (List.mem_cons_of_mem _ kw28)) (fun _ h9 => h9) rfl d_MT_length_1 ?_
  exact W.iret (v := (S.1 k 0 6)) hx hb hr (fun t ht hW => ⟨S.1 k 0 6, rfl, by simp only [f_MT_length], ht⟩) (fun q h => absurd h List.not_mem_nil) d_MT_length_4
set_option maxHeartbeats 4000000 in
set_option maxRecDepth 100000 in
theorem c_MT_forget (l : Launch) (D : va_G) (G : GP) (S : CS) (sz : Nat) (k : Nat) (N : Nat) (hI : IC N S) (hk : k < 3) : Met l y_MT_forget ws_MT_forget ({ frames := 0, cells := 0, slots := 0, locals := 0 }) (va_Pc [.ref (tA G k 0)] (cPre D G S sz)) (va_Qv (fun S' : CS => S' = f_MT_forget S k ∧ IC N S') (wB D G (va_A (wC G S) sz)) (va_A (wC G S) sz)) 0 0 (va_A (wC G S) sz) := by
  refine Met.ofW (cc := b_MT_forget) (maxL := 1) (ret := none) (by decide) rfl ?_
  intro p e s m args below meth c s₁ B hml hv
  obtain ⟨rfl, hsz, hP, hK, hD0, hN⟩ := hv
  have hx := B.exec
  have hb := B.bytes
  have hr := B.returns
  have hts := atoms_spec (ws := ws_MT_forget) B.pre
  have hown : s.vm.findClass R_MT = some m.cls := findClass_of_methodNamed B.named
  have hlocks := B.notSynchronized
  subst hsz
  have hD := hD0.self (sz := s.heap.size)
  generalize hAe : va_A (wC G S) s.heap.size = A at hD ⊢
  have hA : ∀ q : Nat, s.heap.size ≤ q → A q := fun q h => by rw [← hAe]; exact Or.inr h
  have hS : va_S A s.heap s.heap [] := va_S.rf
  have hl := lv_entry ([.ref (tA G k 0)]) (n := 1) (Nat.le_of_ble_eq_true rfl)
  rw [lg_entry_eq]
  generalize (lg_sl ([.ref (tA G k 0)]) ++ List.replicate (1 - (lg_sl ([.ref (tA G k 0)])).length) Slot.unset).toArray = ls at hl ⊢
  have hl : lv_has ls 1 [(0, .ref (tA G k 0))] := hl
  refine lv_aload_n hx hb d_MT_forget_0 rfl (lv_at hl 0 rfl) ?_
  refine lv_iconst (v := 0) hx hb d_MT_forget_1 (by decide) ?_
  refine va_putE (D := D) (ci := 1) (v := .int 0) (ty := .int) (C := R_MT) (T := T_MT) (N := 10) hx hb hts (fun w h => List.mem_cons_of_mem _ (in_MT w h)) t_MT t_MT_ok n_MT hown hK hP hD hS (13 + 7 * k) (wt_0 G S hk) rfl 7 (by decide) (hts _ (List.mem_cons_of_mem _ kw29)) (fun _ h9 => h9) rfl (by decide +kernel) rfl rfl (Nat.le_of_ble_eq_true rfl) (wstt_7 G S 0 hk) d_MT_forget_2 (fun H locs hP hD hS => ?_)
  obtain ⟨S2, eS2⟩ : ∃ y : CS, y = stT S k 0 7 0 := ⟨_, rfl⟩
  rw [← eS2] at hP hD
  have hI : IC N S2 := by rw [eS2]; exact IC_T7 hI _ _
  refine lv_aload_n hx hb d_MT_forget_5 rfl (lv_at hl 0 rfl) ?_
  refine lv_iconst (v := 0) hx hb d_MT_forget_6 (by decide) ?_
  refine va_putE (D := D) (ci := 1) (v := .int 0) (ty := .boolean) (C := R_MT) (T := T_MT) (N := 10) hx hb hts (fun w h => List.mem_cons_of_mem _ (in_MT w h)) t_MT t_MT_ok n_MT hown hK hP hD hS (13 + 7 * k) (wt_0 G S2 hk) rfl 8 (by decide) (hts _ (List.mem_cons_of_mem _ kw30)) (fun _ h9 => h9) rfl (by decide +kernel) rfl rfl (Nat.le_of_ble_eq_true rfl) (wstt_8 G S2 0 hk) d_MT_forget_7 (fun H locs hP hD hS => ?_)
  obtain ⟨S7, eS7⟩ : ∃ y : CS, y = stT S2 k 0 8 0 := ⟨_, rfl⟩
  rw [← eS7] at hP hD
  have hI : IC N S7 := by rw [eS7]; exact IC_tb hI _ 8 (Or.inl rfl) _ (Or.inl rfl)
  exact W.vret hx hb hr (fun t ht hW => ⟨⟨S7, rfl, ⟨by subst eS7; subst eS2; simp only [f_MT_forget], hI⟩, by rw [ht]; exact hP, hD⟩, hS.F ht⟩) hS.2.2 d_MT_forget_10
set_option maxHeartbeats 4000000 in
set_option maxRecDepth 100000 in
theorem c_MT_empty (l : Launch) (D : va_G) (G : GP) (S : CS) (sz : Nat) (k : Nat) (N : Nat) (hI : IC N S) (hk : k < 3) : Met l y_MT_empty ws_MT_empty ({ frames := 1, cells := 0, slots := 0, locals := 20 }) (va_Pc [.ref (tA G k 0)] (cPre D G S sz)) (va_Qv (fun S' : CS => S' = f_MT_empty S k ∧ IC N S') (wB D G (va_A (wC G S) sz)) (va_A (wC G S) sz)) 0 0 (va_A (wC G S) sz) := by
  refine Met.ofW (cc := b_MT_empty) (maxL := 1) (ret := none) (by decide) rfl ?_
  intro p e s m args below meth c s₁ B hml hv
  obtain ⟨rfl, hsz, hP, hK, hD0, hN⟩ := hv
  have hx := B.exec
  have hb := B.bytes
  have hr := B.returns
  have hts := atoms_spec (ws := ws_MT_empty) B.pre
  have hown : s.vm.findClass R_MT = some m.cls := findClass_of_methodNamed B.named
  have hlocks := B.notSynchronized
  subst hsz
  have hD := hD0.self (sz := s.heap.size)
  generalize hAe : va_A (wC G S) s.heap.size = A at hD ⊢
  have hA : ∀ q : Nat, s.heap.size ≤ q → A q := fun q h => by rw [← hAe]; exact Or.inr h
  have hS : va_S A s.heap s.heap [] := va_S.rf
  have hl := lv_entry ([.ref (tA G k 0)]) (n := 1) (Nat.le_of_ble_eq_true rfl)
  rw [lg_entry_eq]
  generalize (lg_sl ([.ref (tA G k 0)]) ++ List.replicate (1 - (lg_sl ([.ref (tA G k 0)])).length) Slot.unset).toArray = ls at hl ⊢
  have hl : lv_has ls 1 [(0, .ref (tA G k 0))] := hl
  refine lv_aload_n hx hb d_MT_empty_0 rfl (lv_at hl 0 rfl) ?_
  refine lv_iconst (v := 0) hx hb d_MT_empty_1 (by decide) ?_
  refine va_putE (D := D) (ci := 1) (v := .int 0) (ty := .int) (C := R_MT) (T := T_MT) (N := 10) hx hb hts (fun w h => List.mem_cons_of_mem _ (in_MT w h)) t_MT t_MT_ok n_MT hown hK hP hD hS (13 + 7 * k) (wt_0 G S hk) rfl 6 (by decide) (hts _ (List.mem_cons_of_mem _ kw28)) (fun _ h9 => h9) rfl (by decide +kernel) rfl rfl (Nat.le_of_ble_eq_true rfl) (wstt_6 G S 0 hk) d_MT_empty_2 (fun H locs hP hD hS => ?_)
  obtain ⟨S2, eS2⟩ : ∃ y : CS, y = stT S k 0 6 0 := ⟨_, rfl⟩
  rw [← eS2] at hP hD
  have hI : IC N S2 := by rw [eS2]; exact IC_tl0 hI _
  refine lv_aload_n hx hb d_MT_empty_5 rfl (lv_at hl 0 rfl) ?_
  refine cq_v (va_runV (As := []) (rest := []) ⟨hx, hb, hml, hown, hts⟩ (c_MT_forget l D G S2 _ k N hI hk) (cwV 0 hts (gV kw142 kw143 kw144 kw2 kw145) rfl rfl rfl (by decide +kernel) ⟨Nat.le_of_ble_eq_true rfl, Nat.le_of_ble_eq_true rfl⟩) ⟨blindC, va_recv (ci := 1) (q0 := 13 + 7 * k) hK hP rfl (wt_0 G S2 hk), fun U hU hW => ⟨rfl, cPre_of hP hK hD hN hU hW⟩⟩ rfl rfl hl.1 rfl (lv_room (Nat.le_of_ble_eq_true rfl)) d_MT_empty_6 ⟨Nat.zero_le _, Nat.zero_le _⟩) hD hS hA (fun S6 H locs hw hP hD hS => ?_)
  obtain ⟨eS6, hI⟩ := hw
  refine lv_aload_n hx hb d_MT_empty_9 rfl (lv_at hl 0 rfl) ?_
  refine lv_iconst (v := 1) hx hb d_MT_empty_10 (by decide) ?_
  refine va_putE (D := D) (ci := 1) (v := .int 1) (ty := .boolean) (C := R_MT) (T := T_MT) (N := 10) hx hb hts (fun w h => List.mem_cons_of_mem _ (in_MT w h)) t_MT t_MT_ok n_MT hown hK hP hD hS (13 + 7 * k) (wt_0 G S6 hk) rfl 9 (by decide) (hts _ (List.mem_cons_of_mem _ kw31)) (fun _ h9 => h9) rfl (by decide +kernel) rfl rfl (Nat.le_of_ble_eq_true rfl) (wstt_9 G S6 1 hk) d_MT_empty_11 (fun H locs hP hD hS => ?_)
  obtain ⟨S11, eS11⟩ : ∃ y : CS, y = stT S6 k 0 9 1 := ⟨_, rfl⟩
  rw [← eS11] at hP hD
  have hI : IC N S11 := by rw [eS11]; exact IC_tb hI _ 9 (Or.inr rfl) _ (Or.inr rfl)
  exact W.vret hx hb hr (fun t ht hW => ⟨⟨S11, rfl, ⟨by subst eS11; subst eS6; subst eS2; simp only [f_MT_empty], hI⟩, by rw [ht]; exact hP, hD⟩, hS.F ht⟩) hS.2.2 d_MT_empty_14
set_option maxHeartbeats 4000000 in
set_option maxRecDepth 100000 in
theorem c_MT_signAt (l : Launch) (D : va_G) (G : GP) (S : CS) (k : Nat) (p1 : Int32) (N : Nat) (hI : IC N S) (hk : k < 3) : Met l y_MT_signAt ws_MT_signAt ({ frames := 0, cells := 0, slots := 0, locals := 0 }) (va_Pc [.ref (tA G k 0), .int p1] (rPre D G S)) (vp_Si (fun r => r = f_MT_signAt S k p1)) 0 0 (fun _ => False) := by
  refine Met.ofW (cc := b_MT_signAt) (maxL := 2) (ret := (some .int)) (by decide) rfl ?_
  intro p e s m args below meth c s₁ B hml hv
  obtain ⟨rfl, hP, hK, hN⟩ := hv
  have hx := B.exec
  have hb := B.bytes
  have hr := B.returns
  have hts := atoms_spec (ws := ws_MT_signAt) B.pre
  have hown : s.vm.findClass R_MT = some m.cls := findClass_of_methodNamed B.named
  have hlocks := B.notSynchronized
  have hl := lv_entry ([.ref (tA G k 0), .int p1]) (n := 2) (Nat.le_of_ble_eq_true rfl)
  rw [lg_entry_eq]
  generalize (lg_sl ([.ref (tA G k 0), .int p1]) ++ List.replicate (2 - (lg_sl ([.ref (tA G k 0), .int p1])).length) Slot.unset).toArray = ls at hl ⊢
  have hl : lv_has ls 2 [(0, .ref (tA G k 0)), (1, .int p1)] := hl
  refine lv_iload_n hx hb d_MT_signAt_0 rfl (lv_at hl 1 rfl) ?_
  refine lv_if_lt (tgt := 21) hx hb d_MT_signAt_1 (by decide) (fun c_1 => ?_) (fun c_1 => ?_)
  · refine lv_iconst (v := 0) hx hb d_MT_signAt_21 (by decide) ?_
    exact W.iret (v := 0) hx hb hr (fun t ht hW => ⟨0, rfl, by simp only [f_MT_signAt, if_pos c_1], ht⟩) (fun q h => absurd h List.not_mem_nil) d_MT_signAt_22
  · refine lv_iload_n hx hb d_MT_signAt_4 rfl (lv_at hl 1 rfl) ?_
    refine lv_aload_n hx hb d_MT_signAt_5 rfl (lv_at hl 0 rfl) ?_
    refine va_get (D := D) (ci := 1) (v := .int (S.1 k 0 6)) (C := R_MT) (T := T_MT) (N := 10) hx hb hts (fun w h => List.mem_cons_of_mem _ (in_MT w h)) hown hK hP (13 + 7 * k) (wt_0 G S hk) rfl 6 (by decide) (hts _ (List.mem_cons_of_mem _ kw28)) (fun _ h9 => h9) rfl d_MT_signAt_6 ?_
    refine lv_icmp_ge (tgt := 21) hx hb d_MT_signAt_9 (by decide) (fun c_9 => ?_) (fun c_9 => ?_)
    · refine lv_iconst (v := 0) hx hb d_MT_signAt_21 (by decide) ?_
      exact W.iret (v := 0) hx hb hr (fun t ht hW => ⟨0, rfl, by simp only [f_MT_signAt, if_neg c_1, if_pos c_9], ht⟩) (fun q h => absurd h List.not_mem_nil) d_MT_signAt_22
    · refine lv_aload_n hx hb d_MT_signAt_12 rfl (lv_at hl 0 rfl) ?_
      refine va_get (D := D) (ci := 1) (v := .ref (tA G k 1)) (C := R_MT) (T := T_MT) (N := 10) hx hb hts (fun w h => List.mem_cons_of_mem _ (in_MT w h)) hown hK hP (13 + 7 * k) (wt_0 G S hk) rfl 0 (by decide) (hts _ (List.mem_cons_of_mem _ kw22)) (fun _ h9 => h9) rfl d_MT_signAt_13 ?_
      refine lv_iload_n hx hb d_MT_signAt_16 rfl (lv_at hl 1 rfl) ?_
      refine va_iald (D := D) hx hb hK hP (13 + 7 * k + 1) 0 (wt_1 G S hk) rfl (sg_in hI hk c_1 c_9) d_MT_signAt_17 ?_
      refine lv_topi (fun x17 ex17 => ?_)
      refine lv_goto (tgt := 22) hx hb d_MT_signAt_18 (by decide) ?_
      exact W.iret (v := x17) hx hb hr (fun t ht hW => ⟨x17, rfl, by subst ex17; simp only [f_MT_signAt, if_neg c_1, if_neg c_9], ht⟩) (fun q h => absurd h List.not_mem_nil) d_MT_signAt_22
set_option maxHeartbeats 4000000 in
set_option maxRecDepth 100000 in
theorem c_MT_addProcedure (l : Launch) (D : va_G) (G : GP) (S : CS) (sz : Nat) (k : Nat) (p1 : Int32) (p2 : Int32) (N : Nat) (hI : IC N S) (hk : k < 3) : Met l y_MT_addProcedure ws_MT_addProcedure ({ frames := 1, cells := 0, slots := 0, locals := 21 }) (va_Pc [.ref (tA G k 0), .int p1, .int p2] (cPre D G S sz)) (va_Qv (fun S' : CS => S' = f_MT_addProcedure S k p1 p2 ∧ IC N S') (wB D G (va_A (wC G S) sz)) (va_A (wC G S) sz)) 0 0 (va_A (wC G S) sz) := by
  refine Met.ofW (cc := b_MT_addProcedure) (maxL := 3) (ret := none) (by decide) rfl ?_
  intro p e s m args below meth c s₁ B hml hv
  obtain ⟨rfl, hsz, hP, hK, hD0, hN⟩ := hv
  have hx := B.exec
  have hb := B.bytes
  have hr := B.returns
  have hts := atoms_spec (ws := ws_MT_addProcedure) B.pre
  have hown : s.vm.findClass R_MT = some m.cls := findClass_of_methodNamed B.named
  have hlocks := B.notSynchronized
  subst hsz
  have hD := hD0.self (sz := s.heap.size)
  generalize hAe : va_A (wC G S) s.heap.size = A at hD ⊢
  have hA : ∀ q : Nat, s.heap.size ≤ q → A q := fun q h => by rw [← hAe]; exact Or.inr h
  have hS : va_S A s.heap s.heap [] := va_S.rf
  have hl := lv_entry ([.ref (tA G k 0), .int p1, .int p2]) (n := 3) (Nat.le_of_ble_eq_true rfl)
  rw [lg_entry_eq]
  generalize (lg_sl ([.ref (tA G k 0), .int p1, .int p2]) ++ List.replicate (3 - (lg_sl ([.ref (tA G k 0), .int p1, .int p2])).length) Slot.unset).toArray = ls at hl ⊢
  have hl : lv_has ls 3 [(0, .ref (tA G k 0)), (1, .int p1), (2, .int p2)] := hl
  refine lv_iload_n hx hb d_MT_addProcedure_0 rfl (lv_at hl 1 rfl) ?_
  refine vp_callSi (va_runSN (As := [.int p1]) (rest := []) ⟨hx, hb, hml, hown, hts⟩ (c_GS_isLetterNumber l p1) ⟨va_cnB 1 hts (gW kw173) rfl rfl rfl (hN.1 (R_MT, 47, y_GS_isLetterNumber, "GateStack") (by decide +kernel)) (hts _ (List.mem_cons_of_mem _ kw1)) (by decide +kernel) ⟨Nat.le_of_ble_eq_true rfl, Nat.le_of_ble_eq_true rfl⟩, (hts _ (List.mem_cons_of_mem _ kw172)), trivial⟩ ⟨blindP, fun U hU hW => ⟨rfl, NW_warm hW hN⟩⟩ rfl rfl hl.1 rfl (lv_room (Nat.le_of_ble_eq_true rfl)) d_MT_addProcedure_1 ⟨Nat.zero_le _, Nat.zero_le _⟩).run (fun x1 ex1 => ?_)
  obtain ⟨ex1, bx1⟩ := ex1
  refine lv_if_ne (tgt := 8) hx hb d_MT_addProcedure_4 (by decide) (fun c_4 => ?_) (fun c_4 => ?_)
  · refine lv_aload_n hx hb d_MT_addProcedure_8 rfl (lv_at hl 0 rfl) ?_
    refine lv_aload_n hx hb d_MT_addProcedure_9 rfl (lv_at hl 0 rfl) ?_
    refine va_get (D := D) (ci := 1) (v := .int (S.1 k 0 8)) (C := R_MT) (T := T_MT) (N := 10) hx hb hts (fun w h => List.mem_cons_of_mem _ (in_MT w h)) hown hK hP (13 + 7 * k) (wt_0 G S hk) rfl 8 (by decide) (hts _ (List.mem_cons_of_mem _ kw30)) (fun _ h9 => h9) rfl d_MT_addProcedure_10 ?_
    refine lv_if_ne (tgt := 27) hx hb d_MT_addProcedure_13 (by decide) (fun c_13 => ?_) (fun c_13 => ?_)
    · refine lv_iconst (v := 1) hx hb d_MT_addProcedure_27 (by decide) ?_
      refine lv_goto (tgt := 32) hx hb d_MT_addProcedure_28 (by decide) ?_
      refine va_putE (D := D) (ci := 1) (v := .int 1) (ty := .boolean) (C := R_MT) (T := T_MT) (N := 10) hx hb hts (fun w h => List.mem_cons_of_mem _ (in_MT w h)) t_MT t_MT_ok n_MT hown hK hP hD hS (13 + 7 * k) (wt_0 G S hk) rfl 8 (by decide) (hts _ (List.mem_cons_of_mem _ kw30)) (fun _ h9 => h9) rfl (by decide +kernel) rfl rfl (Nat.le_of_ble_eq_true rfl) (wstt_8 G S 1 hk) d_MT_addProcedure_32 (fun H locs hP hD hS => ?_)
      obtain ⟨S32, eS32⟩ : ∃ y : CS, y = stT S k 0 8 1 := ⟨_, rfl⟩
      rw [← eS32] at hP hD
      have hI : IC N S32 := by rw [eS32]; exact IC_tb hI _ 8 (Or.inl rfl) _ (Or.inr rfl)
      refine lv_aload_n hx hb d_MT_addProcedure_35 rfl (lv_at hl 0 rfl) ?_
      refine lv_dup hx hb d_MT_addProcedure_36 rfl ?_
      refine va_get (D := D) (ci := 1) (v := .int (S32.1 k 0 7)) (C := R_MT) (T := T_MT) (N := 10) hx hb hts (fun w h => List.mem_cons_of_mem _ (in_MT w h)) hown hK hP (13 + 7 * k) (wt_0 G S32 hk) rfl 7 (by decide) (hts _ (List.mem_cons_of_mem _ kw29)) (fun _ h9 => h9) rfl d_MT_addProcedure_37 ?_
      refine lv_iconst (v := 1) hx hb d_MT_addProcedure_40 (by decide) ?_
      refine lv_iload_n hx hb d_MT_addProcedure_41 rfl (lv_at hl 1 rfl) ?_
      refine lv_ishl hx hb d_MT_addProcedure_42 ?_
      refine lv_topi (fun x42 ex42 => ?_)
      refine lv_ior hx hb d_MT_addProcedure_43 ?_
      refine lv_topi (fun x43 ex43 => ?_)
      refine va_putE (D := D) (ci := 1) (v := .int x43) (ty := .int) (C := R_MT) (T := T_MT) (N := 10) hx hb hts (fun w h => List.mem_cons_of_mem _ (in_MT w h)) t_MT t_MT_ok n_MT hown hK hP hD hS (13 + 7 * k) (wt_0 G S32 hk) rfl 7 (by decide) (hts _ (List.mem_cons_of_mem _ kw29)) (fun _ h9 => h9) rfl (by decide +kernel) rfl rfl (Nat.le_of_ble_eq_true rfl) (wstt_7 G S32 x43 hk) d_MT_addProcedure_44 (fun H locs hP hD hS => ?_)
      obtain ⟨S44, eS44⟩ : ∃ y : CS, y = stT S32 k 0 7 x43 := ⟨_, rfl⟩
      rw [← eS44] at hP hD
      have hI : IC N S44 := by rw [eS44]; exact IC_T7 hI _ _
      refine lv_aload_n hx hb d_MT_addProcedure_47 rfl (lv_at hl 0 rfl) ?_
      refine va_get (D := D) (ci := 1) (v := .ref (tA G k 5)) (C := R_MT) (T := T_MT) (N := 10) hx hb hts (fun w h => List.mem_cons_of_mem _ (in_MT w h)) hown hK hP (13 + 7 * k) (wt_0 G S44 hk) rfl 4 (by decide) (hts _ (List.mem_cons_of_mem _ kw26)) (fun _ h9 => h9) rfl d_MT_addProcedure_48 ?_
      refine lv_iload_n hx hb d_MT_addProcedure_51 rfl (lv_at hl 1 rfl) ?_
      refine lv_iload_n hx hb d_MT_addProcedure_52 rfl (lv_at hl 2 rfl) ?_
      refine va_iastE (D := D) hx hb hK hP hD hS (13 + 7 * k + 5) 0 (wt_5 G S44 hk) rfl (let_in (by rw [← ex1]; exact c_4)) (wstt_a5 G S44 p1.toNatClampNeg p2 hk) d_MT_addProcedure_53 (fun H locs hP hD hS => ?_)
      obtain ⟨S53, eS53⟩ : ∃ y : CS, y = stT S44 k 5 p1.toNatClampNeg p2 := ⟨_, rfl⟩
      rw [← eS53] at hP hD
      have hI : IC N S53 := by rw [eS53]; exact IC_T hI _ _ _ _ (by decide)
      refine lv_aload_n hx hb d_MT_addProcedure_54 rfl (lv_at hl 0 rfl) ?_
      refine va_get (D := D) (ci := 1) (v := .ref (tA G k 6)) (C := R_MT) (T := T_MT) (N := 10) hx hb hts (fun w h => List.mem_cons_of_mem _ (in_MT w h)) hown hK hP (13 + 7 * k) (wt_0 G S53 hk) rfl 5 (by decide) (hts _ (List.mem_cons_of_mem _ kw27)) (fun _ h9 => h9) rfl d_MT_addProcedure_55 ?_
      refine lv_iload_n hx hb d_MT_addProcedure_58 rfl (lv_at hl 1 rfl) ?_
      refine lv_iconst (v := 0) hx hb d_MT_addProcedure_59 (by decide) ?_
      refine va_iastE (D := D) hx hb hK hP hD hS (13 + 7 * k + 6) 0 (wt_6 G S53 hk) rfl (let_in (by rw [← ex1]; exact c_4)) (wstt_a6 G S53 p1.toNatClampNeg 0 hk) d_MT_addProcedure_60 (fun H locs hP hD hS => ?_)
      obtain ⟨S60, eS60⟩ : ∃ y : CS, y = stT S53 k 6 p1.toNatClampNeg 0 := ⟨_, rfl⟩
      rw [← eS60] at hP hD
      have hI : IC N S60 := by rw [eS60]; exact IC_T hI _ _ _ _ (by decide)
      exact W.vret hx hb hr (fun t ht hW => ⟨⟨S60, rfl, ⟨by subst eS60; subst eS53; subst eS44; subst ex43; subst ex42; subst eS32; subst ex1; simp only [f_MT_addProcedure, if_neg c_4, if_neg c_13], hI⟩, by rw [ht]; exact hP, hD⟩, hS.F ht⟩) hS.2.2 d_MT_addProcedure_61
    · refine lv_aload_n hx hb d_MT_addProcedure_16 rfl (lv_at hl 0 rfl) ?_
      refine va_get (D := D) (ci := 1) (v := .int (S.1 k 0 7)) (C := R_MT) (T := T_MT) (N := 10) hx hb hts (fun w h => List.mem_cons_of_mem _ (in_MT w h)) hown hK hP (13 + 7 * k) (wt_0 G S hk) rfl 7 (by decide) (hts _ (List.mem_cons_of_mem _ kw29)) (fun _ h9 => h9) rfl d_MT_addProcedure_17 ?_
      refine lv_iload_n hx hb d_MT_addProcedure_20 rfl (lv_at hl 1 rfl) ?_
      refine vp_callSi (va_runSN (As := [.int (S.1 k 0 7), .int p1]) (rest := [.ref (tA G k 0)]) ⟨hx, hb, hml, hown, hts⟩ (c_GS_hasBit l (S.1 k 0 7) p1) ⟨va_cnB 2 hts (gW kw175) rfl rfl rfl (hN.1 (R_MT, 51, y_GS_hasBit, "GateStack") (by decide +kernel)) (hts _ (List.mem_cons_of_mem _ kw1)) (by decide +kernel) ⟨Nat.le_of_ble_eq_true rfl, Nat.le_of_ble_eq_true rfl⟩, (hts _ (List.mem_cons_of_mem _ kw174)), trivial⟩ ⟨blindP, fun U hU hW => ⟨rfl, NW_warm hW hN⟩⟩ rfl rfl hl.1 rfl (lv_room (Nat.le_of_ble_eq_true rfl)) d_MT_addProcedure_21 ⟨Nat.zero_le _, Nat.zero_le _⟩).run (fun x21 ex21 => ?_)
      obtain ⟨ex21, bx21⟩ := ex21
      refine lv_if_eq (tgt := 31) hx hb d_MT_addProcedure_24 (by decide) (fun c_24 => ?_) (fun c_24 => ?_)
      · refine lv_iconst (v := 0) hx hb d_MT_addProcedure_31 (by decide) ?_
        refine va_putE (D := D) (ci := 1) (v := .int 0) (ty := .boolean) (C := R_MT) (T := T_MT) (N := 10) hx hb hts (fun w h => List.mem_cons_of_mem _ (in_MT w h)) t_MT t_MT_ok n_MT hown hK hP hD hS (13 + 7 * k) (wt_0 G S hk) rfl 8 (by decide) (hts _ (List.mem_cons_of_mem _ kw30)) (fun _ h9 => h9) rfl (by decide +kernel) rfl rfl (Nat.le_of_ble_eq_true rfl) (wstt_8 G S 0 hk) d_MT_addProcedure_32 (fun H locs hP hD hS => ?_)
        obtain ⟨S32, eS32⟩ : ∃ y : CS, y = stT S k 0 8 0 := ⟨_, rfl⟩
        rw [← eS32] at hP hD
        have hI : IC N S32 := by rw [eS32]; exact IC_tb hI _ 8 (Or.inl rfl) _ (Or.inl rfl)
        refine lv_aload_n hx hb d_MT_addProcedure_35 rfl (lv_at hl 0 rfl) ?_
        refine lv_dup hx hb d_MT_addProcedure_36 rfl ?_
        refine va_get (D := D) (ci := 1) (v := .int (S32.1 k 0 7)) (C := R_MT) (T := T_MT) (N := 10) hx hb hts (fun w h => List.mem_cons_of_mem _ (in_MT w h)) hown hK hP (13 + 7 * k) (wt_0 G S32 hk) rfl 7 (by decide) (hts _ (List.mem_cons_of_mem _ kw29)) (fun _ h9 => h9) rfl d_MT_addProcedure_37 ?_
        refine lv_iconst (v := 1) hx hb d_MT_addProcedure_40 (by decide) ?_
        refine lv_iload_n hx hb d_MT_addProcedure_41 rfl (lv_at hl 1 rfl) ?_
        refine lv_ishl hx hb d_MT_addProcedure_42 ?_
        refine lv_topi (fun x42 ex42 => ?_)
        refine lv_ior hx hb d_MT_addProcedure_43 ?_
        refine lv_topi (fun x43 ex43 => ?_)
        refine va_putE (D := D) (ci := 1) (v := .int x43) (ty := .int) (C := R_MT) (T := T_MT) (N := 10) hx hb hts (fun w h => List.mem_cons_of_mem _ (in_MT w h)) t_MT t_MT_ok n_MT hown hK hP hD hS (13 + 7 * k) (wt_0 G S32 hk) rfl 7 (by decide) (hts _ (List.mem_cons_of_mem _ kw29)) (fun _ h9 => h9) rfl (by decide +kernel) rfl rfl (Nat.le_of_ble_eq_true rfl) (wstt_7 G S32 x43 hk) d_MT_addProcedure_44 (fun H locs hP hD hS => ?_)
        obtain ⟨S44, eS44⟩ : ∃ y : CS, y = stT S32 k 0 7 x43 := ⟨_, rfl⟩
        rw [← eS44] at hP hD
        have hI : IC N S44 := by rw [eS44]; exact IC_T7 hI _ _
        refine lv_aload_n hx hb d_MT_addProcedure_47 rfl (lv_at hl 0 rfl) ?_
        refine va_get (D := D) (ci := 1) (v := .ref (tA G k 5)) (C := R_MT) (T := T_MT) (N := 10) hx hb hts (fun w h => List.mem_cons_of_mem _ (in_MT w h)) hown hK hP (13 + 7 * k) (wt_0 G S44 hk) rfl 4 (by decide) (hts _ (List.mem_cons_of_mem _ kw26)) (fun _ h9 => h9) rfl d_MT_addProcedure_48 ?_
        refine lv_iload_n hx hb d_MT_addProcedure_51 rfl (lv_at hl 1 rfl) ?_
        refine lv_iload_n hx hb d_MT_addProcedure_52 rfl (lv_at hl 2 rfl) ?_
        refine va_iastE (D := D) hx hb hK hP hD hS (13 + 7 * k + 5) 0 (wt_5 G S44 hk) rfl (let_in (by rw [← ex1]; exact c_4)) (wstt_a5 G S44 p1.toNatClampNeg p2 hk) d_MT_addProcedure_53 (fun H locs hP hD hS => ?_)
        obtain ⟨S53, eS53⟩ : ∃ y : CS, y = stT S44 k 5 p1.toNatClampNeg p2 := ⟨_, rfl⟩
        rw [← eS53] at hP hD
        have hI : IC N S53 := by rw [eS53]; exact IC_T hI _ _ _ _ (by decide)
        refine lv_aload_n hx hb d_MT_addProcedure_54 rfl (lv_at hl 0 rfl) ?_
        refine va_get (D := D) (ci := 1) (v := .ref (tA G k 6)) (C := R_MT) (T := T_MT) (N := 10) hx hb hts (fun w h => List.mem_cons_of_mem _ (in_MT w h)) hown hK hP (13 + 7 * k) (wt_0 G S53 hk) rfl 5 (by decide) (hts _ (List.mem_cons_of_mem _ kw27)) (fun _ h9 => h9) rfl d_MT_addProcedure_55 ?_
        refine lv_iload_n hx hb d_MT_addProcedure_58 rfl (lv_at hl 1 rfl) ?_
        refine lv_iconst (v := 0) hx hb d_MT_addProcedure_59 (by decide) ?_
        refine va_iastE (D := D) hx hb hK hP hD hS (13 + 7 * k + 6) 0 (wt_6 G S53 hk) rfl (let_in (by rw [← ex1]; exact c_4)) (wstt_a6 G S53 p1.toNatClampNeg 0 hk) d_MT_addProcedure_60 (fun H locs hP hD hS => ?_)
        obtain ⟨S60, eS60⟩ : ∃ y : CS, y = stT S53 k 6 p1.toNatClampNeg 0 := ⟨_, rfl⟩
        rw [← eS60] at hP hD
        have hI : IC N S60 := by rw [eS60]; exact IC_T hI _ _ _ _ (by decide)
        exact W.vret hx hb hr (fun t ht hW => ⟨⟨S60, rfl, ⟨by subst eS60; subst eS53; subst eS44; subst ex43; subst ex42; subst eS32; subst ex21; subst ex1; simp only [f_MT_addProcedure, if_neg c_4, if_pos c_13, if_pos c_24], hI⟩, by rw [ht]; exact hP, hD⟩, hS.F ht⟩) hS.2.2 d_MT_addProcedure_61
      · refine lv_iconst (v := 1) hx hb d_MT_addProcedure_27 (by decide) ?_
        refine lv_goto (tgt := 32) hx hb d_MT_addProcedure_28 (by decide) ?_
        refine va_putE (D := D) (ci := 1) (v := .int 1) (ty := .boolean) (C := R_MT) (T := T_MT) (N := 10) hx hb hts (fun w h => List.mem_cons_of_mem _ (in_MT w h)) t_MT t_MT_ok n_MT hown hK hP hD hS (13 + 7 * k) (wt_0 G S hk) rfl 8 (by decide) (hts _ (List.mem_cons_of_mem _ kw30)) (fun _ h9 => h9) rfl (by decide +kernel) rfl rfl (Nat.le_of_ble_eq_true rfl) (wstt_8 G S 1 hk) d_MT_addProcedure_32 (fun H locs hP hD hS => ?_)
        obtain ⟨S32, eS32⟩ : ∃ y : CS, y = stT S k 0 8 1 := ⟨_, rfl⟩
        rw [← eS32] at hP hD
        have hI : IC N S32 := by rw [eS32]; exact IC_tb hI _ 8 (Or.inl rfl) _ (Or.inr rfl)
        refine lv_aload_n hx hb d_MT_addProcedure_35 rfl (lv_at hl 0 rfl) ?_
        refine lv_dup hx hb d_MT_addProcedure_36 rfl ?_
        refine va_get (D := D) (ci := 1) (v := .int (S32.1 k 0 7)) (C := R_MT) (T := T_MT) (N := 10) hx hb hts (fun w h => List.mem_cons_of_mem _ (in_MT w h)) hown hK hP (13 + 7 * k) (wt_0 G S32 hk) rfl 7 (by decide) (hts _ (List.mem_cons_of_mem _ kw29)) (fun _ h9 => h9) rfl d_MT_addProcedure_37 ?_
        refine lv_iconst (v := 1) hx hb d_MT_addProcedure_40 (by decide) ?_
        refine lv_iload_n hx hb d_MT_addProcedure_41 rfl (lv_at hl 1 rfl) ?_
        refine lv_ishl hx hb d_MT_addProcedure_42 ?_
        refine lv_topi (fun x42 ex42 => ?_)
        refine lv_ior hx hb d_MT_addProcedure_43 ?_
        refine lv_topi (fun x43 ex43 => ?_)
        refine va_putE (D := D) (ci := 1) (v := .int x43) (ty := .int) (C := R_MT) (T := T_MT) (N := 10) hx hb hts (fun w h => List.mem_cons_of_mem _ (in_MT w h)) t_MT t_MT_ok n_MT hown hK hP hD hS (13 + 7 * k) (wt_0 G S32 hk) rfl 7 (by decide) (hts _ (List.mem_cons_of_mem _ kw29)) (fun _ h9 => h9) rfl (by decide +kernel) rfl rfl (Nat.le_of_ble_eq_true rfl) (wstt_7 G S32 x43 hk) d_MT_addProcedure_44 (fun H locs hP hD hS => ?_)
        obtain ⟨S44, eS44⟩ : ∃ y : CS, y = stT S32 k 0 7 x43 := ⟨_, rfl⟩
        rw [← eS44] at hP hD
        have hI : IC N S44 := by rw [eS44]; exact IC_T7 hI _ _
        refine lv_aload_n hx hb d_MT_addProcedure_47 rfl (lv_at hl 0 rfl) ?_
        refine va_get (D := D) (ci := 1) (v := .ref (tA G k 5)) (C := R_MT) (T := T_MT) (N := 10) hx hb hts (fun w h => List.mem_cons_of_mem _ (in_MT w h)) hown hK hP (13 + 7 * k) (wt_0 G S44 hk) rfl 4 (by decide) (hts _ (List.mem_cons_of_mem _ kw26)) (fun _ h9 => h9) rfl d_MT_addProcedure_48 ?_
        refine lv_iload_n hx hb d_MT_addProcedure_51 rfl (lv_at hl 1 rfl) ?_
        refine lv_iload_n hx hb d_MT_addProcedure_52 rfl (lv_at hl 2 rfl) ?_
        refine va_iastE (D := D) hx hb hK hP hD hS (13 + 7 * k + 5) 0 (wt_5 G S44 hk) rfl (let_in (by rw [← ex1]; exact c_4)) (wstt_a5 G S44 p1.toNatClampNeg p2 hk) d_MT_addProcedure_53 (fun H locs hP hD hS => ?_)
        obtain ⟨S53, eS53⟩ : ∃ y : CS, y = stT S44 k 5 p1.toNatClampNeg p2 := ⟨_, rfl⟩
        rw [← eS53] at hP hD
        have hI : IC N S53 := by rw [eS53]; exact IC_T hI _ _ _ _ (by decide)
        refine lv_aload_n hx hb d_MT_addProcedure_54 rfl (lv_at hl 0 rfl) ?_
        refine va_get (D := D) (ci := 1) (v := .ref (tA G k 6)) (C := R_MT) (T := T_MT) (N := 10) hx hb hts (fun w h => List.mem_cons_of_mem _ (in_MT w h)) hown hK hP (13 + 7 * k) (wt_0 G S53 hk) rfl 5 (by decide) (hts _ (List.mem_cons_of_mem _ kw27)) (fun _ h9 => h9) rfl d_MT_addProcedure_55 ?_
        refine lv_iload_n hx hb d_MT_addProcedure_58 rfl (lv_at hl 1 rfl) ?_
        refine lv_iconst (v := 0) hx hb d_MT_addProcedure_59 (by decide) ?_
        refine va_iastE (D := D) hx hb hK hP hD hS (13 + 7 * k + 6) 0 (wt_6 G S53 hk) rfl (let_in (by rw [← ex1]; exact c_4)) (wstt_a6 G S53 p1.toNatClampNeg 0 hk) d_MT_addProcedure_60 (fun H locs hP hD hS => ?_)
        obtain ⟨S60, eS60⟩ : ∃ y : CS, y = stT S53 k 6 p1.toNatClampNeg 0 := ⟨_, rfl⟩
        rw [← eS60] at hP hD
        have hI : IC N S60 := by rw [eS60]; exact IC_T hI _ _ _ _ (by decide)
        exact W.vret hx hb hr (fun t ht hW => ⟨⟨S60, rfl, ⟨by subst eS60; subst eS53; subst eS44; subst ex43; subst ex42; subst eS32; subst ex21; subst ex1; simp only [f_MT_addProcedure, if_neg c_4, if_pos c_13, if_neg c_24], hI⟩, by rw [ht]; exact hP, hD⟩, hS.F ht⟩) hS.2.2 d_MT_addProcedure_61
  · exact W.vret hx hb hr (fun t ht hW => ⟨⟨S, rfl, ⟨by subst ex1; simp only [f_MT_addProcedure, if_pos c_4], hI⟩, by rw [ht]; exact hP, hD⟩, hS.F ht⟩) hS.2.2 d_MT_addProcedure_7
set_option maxHeartbeats 4000000 in
set_option maxRecDepth 100000 in
theorem c_MT_isPlace (l : Launch) (D : va_G) (G : GP) (S : CS) (k : Nat) (p1 : Int32) (N : Nat) (hI : IC N S) (hk : k < 3) : Met l y_MT_isPlace ws_MT_isPlace ({ frames := 0, cells := 0, slots := 0, locals := 0 }) (va_Pc [.ref (tA G k 0), .int p1] (rPre D G S)) (vp_Si (fun r => r = f_MT_isPlace S k p1 ∧ bl r)) 0 0 (fun _ => False) := by
  refine Met.ofW (cc := b_MT_isPlace) (maxL := 2) (ret := (some .boolean)) (by decide) rfl ?_
  intro p e s m args below meth c s₁ B hml hv
  obtain ⟨rfl, hP, hK, hN⟩ := hv
  have hx := B.exec
  have hb := B.bytes
  have hr := B.returns
  have hts := atoms_spec (ws := ws_MT_isPlace) B.pre
  have hown : s.vm.findClass R_MT = some m.cls := findClass_of_methodNamed B.named
  have hlocks := B.notSynchronized
  have hl := lv_entry ([.ref (tA G k 0), .int p1]) (n := 2) (Nat.le_of_ble_eq_true rfl)
  rw [lg_entry_eq]
  generalize (lg_sl ([.ref (tA G k 0), .int p1]) ++ List.replicate (2 - (lg_sl ([.ref (tA G k 0), .int p1])).length) Slot.unset).toArray = ls at hl ⊢
  have hl : lv_has ls 2 [(0, .ref (tA G k 0)), (1, .int p1)] := hl
  refine lv_iload_n hx hb d_MT_isPlace_0 rfl (lv_at hl 1 rfl) ?_
  refine lv_if_lt (tgt := 16) hx hb d_MT_isPlace_1 (by decide) (fun c_1 => ?_) (fun c_1 => ?_)
  · refine lv_iconst (v := 0) hx hb d_MT_isPlace_16 (by decide) ?_
    exact W.zret (v := 0) hx hb hr (bl_nar (Or.inl rfl)) (fun t ht hW => ⟨0, rfl, ⟨by simp only [f_MT_isPlace, if_pos c_1], (Or.inl rfl)⟩, ht⟩) (fun q h => absurd h List.not_mem_nil) d_MT_isPlace_17
  · refine lv_iload_n hx hb d_MT_isPlace_4 rfl (lv_at hl 1 rfl) ?_
    refine lv_aload_n hx hb d_MT_isPlace_5 rfl (lv_at hl 0 rfl) ?_
    refine va_get (D := D) (ci := 1) (v := .int (S.1 k 0 6)) (C := R_MT) (T := T_MT) (N := 10) hx hb hts (fun w h => List.mem_cons_of_mem _ (in_MT w h)) hown hK hP (13 + 7 * k) (wt_0 G S hk) rfl 6 (by decide) (hts _ (List.mem_cons_of_mem _ kw28)) (fun _ h9 => h9) rfl d_MT_isPlace_6 ?_
    refine lv_icmp_ge (tgt := 16) hx hb d_MT_isPlace_9 (by decide) (fun c_9 => ?_) (fun c_9 => ?_)
    · refine lv_iconst (v := 0) hx hb d_MT_isPlace_16 (by decide) ?_
      exact W.zret (v := 0) hx hb hr (bl_nar (Or.inl rfl)) (fun t ht hW => ⟨0, rfl, ⟨by simp only [f_MT_isPlace, if_neg c_1, if_pos c_9], (Or.inl rfl)⟩, ht⟩) (fun q h => absurd h List.not_mem_nil) d_MT_isPlace_17
    · refine lv_iconst (v := 1) hx hb d_MT_isPlace_12 (by decide) ?_
      refine lv_goto (tgt := 17) hx hb d_MT_isPlace_13 (by decide) ?_
      exact W.zret (v := 1) hx hb hr (bl_nar (Or.inr rfl)) (fun t ht hW => ⟨1, rfl, ⟨by simp only [f_MT_isPlace, if_neg c_1, if_neg c_9], (Or.inr rfl)⟩, ht⟩) (fun q h => absurd h List.not_mem_nil) d_MT_isPlace_17
set_option maxHeartbeats 4000000 in
set_option maxRecDepth 100000 in
theorem c_MT_addBlock (l : Launch) (D : va_G) (G : GP) (S : CS) (sz : Nat) (k : Nat) (p1 : Int32) (p2 : Int32) (N : Nat) (hI : IC N S) (hk : k < 3) : Met l y_MT_addBlock ws_MT_addBlock ({ frames := 1, cells := 0, slots := 0, locals := 21 }) (va_Pc [.ref (tA G k 0), .int p1, .int p2] (cPre D G S sz)) (va_Qv (fun S' : CS => S' = f_MT_addBlock S k p1 p2 ∧ IC N S') (wB D G (va_A (wC G S) sz)) (va_A (wC G S) sz)) 0 0 (va_A (wC G S) sz) := by
  refine Met.ofW (cc := b_MT_addBlock) (maxL := 3) (ret := none) (by decide) rfl ?_
  intro p e s m args below meth c s₁ B hml hv
  obtain ⟨rfl, hsz, hP, hK, hD0, hN⟩ := hv
  have hx := B.exec
  have hb := B.bytes
  have hr := B.returns
  have hts := atoms_spec (ws := ws_MT_addBlock) B.pre
  have hown : s.vm.findClass R_MT = some m.cls := findClass_of_methodNamed B.named
  have hlocks := B.notSynchronized
  subst hsz
  have hD := hD0.self (sz := s.heap.size)
  generalize hAe : va_A (wC G S) s.heap.size = A at hD ⊢
  have hA : ∀ q : Nat, s.heap.size ≤ q → A q := fun q h => by rw [← hAe]; exact Or.inr h
  have hS : va_S A s.heap s.heap [] := va_S.rf
  have hl := lv_entry ([.ref (tA G k 0), .int p1, .int p2]) (n := 3) (Nat.le_of_ble_eq_true rfl)
  rw [lg_entry_eq]
  generalize (lg_sl ([.ref (tA G k 0), .int p1, .int p2]) ++ List.replicate (3 - (lg_sl ([.ref (tA G k 0), .int p1, .int p2])).length) Slot.unset).toArray = ls at hl ⊢
  have hl : lv_has ls 3 [(0, .ref (tA G k 0)), (1, .int p1), (2, .int p2)] := hl
  have hI0 := hI
  refine lv_aload_n hx hb d_MT_addBlock_0 rfl (lv_at hl 0 rfl) ?_
  refine lv_iload_n hx hb d_MT_addBlock_1 rfl (lv_at hl 1 rfl) ?_
  refine vp_callSi (W.runV (As := [.int p1]) (rest := []) ⟨hx, hb, hml, hown, hts⟩ (c_MT_isPlace l D G S k p1 N hI hk) (cwV 1 hts (gV kw195 kw196 kw632 kw2 kw197) rfl rfl rfl (by decide +kernel) ⟨Nat.le_of_ble_eq_true rfl, Nat.le_of_ble_eq_true rfl⟩) ⟨blindR, va_recv (ci := 1) (q0 := 13 + 7 * k) hK hP rfl (wt_0 G S hk), fun U hU hW => ⟨rfl, rPre_of hP hK hN hU hW⟩⟩ rfl rfl hl.1 rfl (lv_room (Nat.le_of_ble_eq_true rfl)) d_MT_addBlock_2 ⟨Nat.zero_le _, Nat.zero_le _⟩) (fun x2 ex2 => ?_)
  obtain ⟨ex2, bx2⟩ := ex2
  refine lv_if_eq (tgt := 30) hx hb d_MT_addBlock_5 (by decide) (fun c_5 => ?_) (fun c_5 => ?_)
  · exact W.vret hx hb hr (fun t ht hW => ⟨⟨S, rfl, ⟨by subst ex2; simp only [f_MT_addBlock, if_pos c_5], hI⟩, by rw [ht]; exact hP, hD⟩, hS.F ht⟩) hS.2.2 d_MT_addBlock_30
  · refine lv_aload_n hx hb d_MT_addBlock_8 rfl (lv_at hl 0 rfl) ?_
    refine lv_iload_n hx hb d_MT_addBlock_9 rfl (lv_at hl 2 rfl) ?_
    refine vp_callSi (W.runV (As := [.int p2]) (rest := []) ⟨hx, hb, hml, hown, hts⟩ (c_MT_isPlace l D G S k p2 N hI hk) (cwV 1 hts (gV kw195 kw196 kw632 kw2 kw197) rfl rfl rfl (by decide +kernel) ⟨Nat.le_of_ble_eq_true rfl, Nat.le_of_ble_eq_true rfl⟩) ⟨blindR, va_recv (ci := 1) (q0 := 13 + 7 * k) hK hP rfl (wt_0 G S hk), fun U hU hW => ⟨rfl, rPre_of hP hK hN hU hW⟩⟩ rfl rfl hl.1 rfl (lv_room (Nat.le_of_ble_eq_true rfl)) d_MT_addBlock_10 ⟨Nat.zero_le _, Nat.zero_le _⟩) (fun x10 ex10 => ?_)
    obtain ⟨ex10, bx10⟩ := ex10
    refine lv_if_eq (tgt := 30) hx hb d_MT_addBlock_13 (by decide) (fun c_13 => ?_) (fun c_13 => ?_)
    · exact W.vret hx hb hr (fun t ht hW => ⟨⟨S, rfl, ⟨by subst ex10; subst ex2; simp only [f_MT_addBlock, if_neg c_5, if_pos c_13], hI⟩, by rw [ht]; exact hP, hD⟩, hS.F ht⟩) hS.2.2 d_MT_addBlock_30
    · refine lv_aload_n hx hb d_MT_addBlock_16 rfl (lv_at hl 0 rfl) ?_
      refine va_get (D := D) (ci := 1) (v := .ref (tA G k 3)) (C := R_MT) (T := T_MT) (N := 10) hx hb hts (fun w h => List.mem_cons_of_mem _ (in_MT w h)) hown hK hP (13 + 7 * k) (wt_0 G S hk) rfl 2 (by decide) (hts _ (List.mem_cons_of_mem _ kw24)) (fun _ h9 => h9) rfl d_MT_addBlock_17 ?_
      refine lv_iload_n hx hb d_MT_addBlock_20 rfl (lv_at hl 2 rfl) ?_
      refine lv_iload_n hx hb d_MT_addBlock_21 rfl (lv_at hl 1 rfl) ?_
      refine va_iastE (D := D) hx hb hK hP hD hS (13 + 7 * k + 3) 0 (wt_3 G S hk) rfl (pl_in hI0 hk (by rw [← ex10]; exact c_13)) (wstt_a3 G S p2.toNatClampNeg p1 hk) d_MT_addBlock_22 (fun H locs hP hD hS => ?_)
      obtain ⟨S22, eS22⟩ : ∃ y : CS, y = stT S k 3 p2.toNatClampNeg p1 := ⟨_, rfl⟩
      rw [← eS22] at hP hD
      have hI : IC N S22 := by rw [eS22]; exact IC_T hI _ _ _ _ (by decide)
      refine lv_aload_n hx hb d_MT_addBlock_23 rfl (lv_at hl 0 rfl) ?_
      refine va_get (D := D) (ci := 1) (v := .ref (tA G k 4)) (C := R_MT) (T := T_MT) (N := 10) hx hb hts (fun w h => List.mem_cons_of_mem _ (in_MT w h)) hown hK hP (13 + 7 * k) (wt_0 G S22 hk) rfl 3 (by decide) (hts _ (List.mem_cons_of_mem _ kw25)) (fun _ h9 => h9) rfl d_MT_addBlock_24 ?_
      refine lv_iload_n hx hb d_MT_addBlock_27 rfl (lv_at hl 1 rfl) ?_
      refine lv_iload_n hx hb d_MT_addBlock_28 rfl (lv_at hl 2 rfl) ?_
      refine va_iastE (D := D) hx hb hK hP hD hS (13 + 7 * k + 4) 0 (wt_4 G S22 hk) rfl (pl_in hI0 hk (by rw [← ex2]; exact c_5)) (wstt_a4 G S22 p1.toNatClampNeg p2 hk) d_MT_addBlock_29 (fun H locs hP hD hS => ?_)
      obtain ⟨S29, eS29⟩ : ∃ y : CS, y = stT S22 k 4 p1.toNatClampNeg p2 := ⟨_, rfl⟩
      rw [← eS29] at hP hD
      have hI : IC N S29 := by rw [eS29]; exact IC_T hI _ _ _ _ (by decide)
      exact W.vret hx hb hr (fun t ht hW => ⟨⟨S29, rfl, ⟨by subst eS29; subst eS22; subst ex10; subst ex2; simp only [f_MT_addBlock, if_neg c_5, if_neg c_13], hI⟩, by rw [ht]; exact hP, hD⟩, hS.F ht⟩) hS.2.2 d_MT_addBlock_30
set_option maxHeartbeats 4000000 in
set_option maxRecDepth 100000 in
theorem c_MT_addCall (l : Launch) (D : va_G) (G : GP) (S : CS) (sz : Nat) (k : Nat) (p1 : Int32) (p2 : Int32) (N : Nat) (hI : IC N S) (hk : k < 3) : Met l y_MT_addCall ws_MT_addCall ({ frames := 1, cells := 0, slots := 0, locals := 20 }) (va_Pc [.ref (tA G k 0), .int p1, .int p2] (cPre D G S sz)) (va_Qv (fun S' : CS => S' = f_MT_addCall S k p1 p2 ∧ IC N S') (wB D G (va_A (wC G S) sz)) (va_A (wC G S) sz)) 0 0 (va_A (wC G S) sz) := by
  refine Met.ofW (cc := b_MT_addCall) (maxL := 3) (ret := none) (by decide) rfl ?_
  intro p e s m args below meth c s₁ B hml hv
  obtain ⟨rfl, hsz, hP, hK, hD0, hN⟩ := hv
  have hx := B.exec
  have hb := B.bytes
  have hr := B.returns
  have hts := atoms_spec (ws := ws_MT_addCall) B.pre
  have hown : s.vm.findClass R_MT = some m.cls := findClass_of_methodNamed B.named
  have hlocks := B.notSynchronized
  subst hsz
  have hD := hD0.self (sz := s.heap.size)
  generalize hAe : va_A (wC G S) s.heap.size = A at hD ⊢
  have hA : ∀ q : Nat, s.heap.size ≤ q → A q := fun q h => by rw [← hAe]; exact Or.inr h
  have hS : va_S A s.heap s.heap [] := va_S.rf
  have hl := lv_entry ([.ref (tA G k 0), .int p1, .int p2]) (n := 3) (Nat.le_of_ble_eq_true rfl)
  rw [lg_entry_eq]
  generalize (lg_sl ([.ref (tA G k 0), .int p1, .int p2]) ++ List.replicate (3 - (lg_sl ([.ref (tA G k 0), .int p1, .int p2])).length) Slot.unset).toArray = ls at hl ⊢
  have hl : lv_has ls 3 [(0, .ref (tA G k 0)), (1, .int p1), (2, .int p2)] := hl
  refine lv_iload_n hx hb d_MT_addCall_0 rfl (lv_at hl 1 rfl) ?_
  refine vp_callSi (va_runSN (As := [.int p1]) (rest := []) ⟨hx, hb, hml, hown, hts⟩ (c_GS_isLetterNumber l p1) ⟨va_cnB 1 hts (gW kw173) rfl rfl rfl (hN.1 (R_MT, 47, y_GS_isLetterNumber, "GateStack") (by decide +kernel)) (hts _ (List.mem_cons_of_mem _ kw1)) (by decide +kernel) ⟨Nat.le_of_ble_eq_true rfl, Nat.le_of_ble_eq_true rfl⟩, (hts _ (List.mem_cons_of_mem _ kw172)), trivial⟩ ⟨blindP, fun U hU hW => ⟨rfl, NW_warm hW hN⟩⟩ rfl rfl hl.1 rfl (lv_room (Nat.le_of_ble_eq_true rfl)) d_MT_addCall_1 ⟨Nat.zero_le _, Nat.zero_le _⟩).run (fun x1 ex1 => ?_)
  obtain ⟨ex1, bx1⟩ := ex1
  refine lv_if_eq (tgt := 26) hx hb d_MT_addCall_4 (by decide) (fun c_4 => ?_) (fun c_4 => ?_)
  · exact W.vret hx hb hr (fun t ht hW => ⟨⟨S, rfl, ⟨by subst ex1; simp only [f_MT_addCall, if_pos c_4], hI⟩, by rw [ht]; exact hP, hD⟩, hS.F ht⟩) hS.2.2 d_MT_addCall_26
  · refine lv_iload_n hx hb d_MT_addCall_7 rfl (lv_at hl 2 rfl) ?_
    refine vp_callSi (va_runSN (As := [.int p2]) (rest := []) ⟨hx, hb, hml, hown, hts⟩ (c_GS_isLetterNumber l p2) ⟨va_cnB 1 hts (gW kw173) rfl rfl rfl (hN.1 (R_MT, 47, y_GS_isLetterNumber, "GateStack") (by decide +kernel)) (hts _ (List.mem_cons_of_mem _ kw1)) (by decide +kernel) ⟨Nat.le_of_ble_eq_true rfl, Nat.le_of_ble_eq_true rfl⟩, (hts _ (List.mem_cons_of_mem _ kw172)), trivial⟩ ⟨blindP, fun U hU hW => ⟨rfl, NW_warm hW hN⟩⟩ rfl rfl hl.1 rfl (lv_room (Nat.le_of_ble_eq_true rfl)) d_MT_addCall_8 ⟨Nat.zero_le _, Nat.zero_le _⟩).run (fun x8 ex8 => ?_)
    obtain ⟨ex8, bx8⟩ := ex8
    refine lv_if_eq (tgt := 26) hx hb d_MT_addCall_11 (by decide) (fun c_11 => ?_) (fun c_11 => ?_)
    · exact W.vret hx hb hr (fun t ht hW => ⟨⟨S, rfl, ⟨by subst ex8; subst ex1; simp only [f_MT_addCall, if_neg c_4, if_pos c_11], hI⟩, by rw [ht]; exact hP, hD⟩, hS.F ht⟩) hS.2.2 d_MT_addCall_26
    · refine lv_aload_n hx hb d_MT_addCall_14 rfl (lv_at hl 0 rfl) ?_
      refine va_get (D := D) (ci := 1) (v := .ref (tA G k 6)) (C := R_MT) (T := T_MT) (N := 10) hx hb hts (fun w h => List.mem_cons_of_mem _ (in_MT w h)) hown hK hP (13 + 7 * k) (wt_0 G S hk) rfl 5 (by decide) (hts _ (List.mem_cons_of_mem _ kw27)) (fun _ h9 => h9) rfl d_MT_addCall_15 ?_
      refine lv_iload_n hx hb d_MT_addCall_18 rfl (lv_at hl 1 rfl) ?_
      refine lv_dup2_11 hx hb d_MT_addCall_19 rfl rfl ?_
      refine va_iald (D := D) hx hb hK hP (13 + 7 * k + 6) 0 (wt_6 G S hk) rfl (let_in (by rw [← ex1]; exact c_4)) d_MT_addCall_20 ?_
      refine lv_topi (fun x20 ex20 => ?_)
      refine lv_iconst (v := 1) hx hb d_MT_addCall_21 (by decide) ?_
      refine lv_iload_n hx hb d_MT_addCall_22 rfl (lv_at hl 2 rfl) ?_
      refine lv_ishl hx hb d_MT_addCall_23 ?_
      refine lv_topi (fun x23 ex23 => ?_)
      refine lv_ior hx hb d_MT_addCall_24 ?_
      refine lv_topi (fun x24 ex24 => ?_)
      refine va_iastE (D := D) hx hb hK hP hD hS (13 + 7 * k + 6) 0 (wt_6 G S hk) rfl (let_in (by rw [← ex1]; exact c_4)) (wstt_a6 G S p1.toNatClampNeg x24 hk) d_MT_addCall_25 (fun H locs hP hD hS => ?_)
      obtain ⟨S25, eS25⟩ : ∃ y : CS, y = stT S k 6 p1.toNatClampNeg x24 := ⟨_, rfl⟩
      rw [← eS25] at hP hD
      have hI : IC N S25 := by rw [eS25]; exact IC_T hI _ _ _ _ (by decide)
      exact W.vret hx hb hr (fun t ht hW => ⟨⟨S25, rfl, ⟨by subst eS25; subst ex24; subst ex23; subst ex20; subst ex8; subst ex1; simp only [f_MT_addCall, if_neg c_4, if_neg c_11], hI⟩, by rw [ht]; exact hP, hD⟩, hS.F ht⟩) hS.2.2 d_MT_addCall_26
set_option maxHeartbeats 4000000 in
set_option maxRecDepth 100000 in
theorem c_MT_addStatement (l : Launch) (D : va_G) (G : GP) (S : CS) (sz : Nat) (k : Nat) (p1 : Int32) (p2 : Int32) (N : Nat) (hI : IC N S) (hk : k < 3) : Met l y_MT_addStatement ws_MT_addStatement ({ frames := 1, cells := 0, slots := 0, locals := 21 }) (va_Pc [.ref (tA G k 0), .int p1, .int p2] (cPre D G S sz)) (va_Qv (fun S' : CS => S' = f_MT_addStatement S k p1 p2 ∧ IC N S') (wB D G (va_A (wC G S) sz)) (va_A (wC G S) sz)) 0 0 (va_A (wC G S) sz) := by
  refine Met.ofW (cc := b_MT_addStatement) (maxL := 3) (ret := none) (by decide) rfl ?_
  intro p e s m args below meth c s₁ B hml hv
  obtain ⟨rfl, hsz, hP, hK, hD0, hN⟩ := hv
  have hx := B.exec
  have hb := B.bytes
  have hr := B.returns
  have hts := atoms_spec (ws := ws_MT_addStatement) B.pre
  have hown : s.vm.findClass R_MT = some m.cls := findClass_of_methodNamed B.named
  have hlocks := B.notSynchronized
  subst hsz
  have hD := hD0.self (sz := s.heap.size)
  generalize hAe : va_A (wC G S) s.heap.size = A at hD ⊢
  have hA : ∀ q : Nat, s.heap.size ≤ q → A q := fun q h => by rw [← hAe]; exact Or.inr h
  have hS : va_S A s.heap s.heap [] := va_S.rf
  have hl := lv_entry ([.ref (tA G k 0), .int p1, .int p2]) (n := 3) (Nat.le_of_ble_eq_true rfl)
  rw [lg_entry_eq]
  generalize (lg_sl ([.ref (tA G k 0), .int p1, .int p2]) ++ List.replicate (3 - (lg_sl ([.ref (tA G k 0), .int p1, .int p2])).length) Slot.unset).toArray = ls at hl ⊢
  have hl : lv_has ls 3 [(0, .ref (tA G k 0)), (1, .int p1), (2, .int p2)] := hl
  refine lv_aload_n hx hb d_MT_addStatement_0 rfl (lv_at hl 0 rfl) ?_
  refine lv_iload_n hx hb d_MT_addStatement_1 rfl (lv_at hl 1 rfl) ?_
  refine vp_callSi (W.runV (As := [.int p1]) (rest := []) ⟨hx, hb, hml, hown, hts⟩ (c_MT_isPlace l D G S k p1 N hI hk) (cwV 1 hts (gV kw195 kw196 kw632 kw2 kw197) rfl rfl rfl (by decide +kernel) ⟨Nat.le_of_ble_eq_true rfl, Nat.le_of_ble_eq_true rfl⟩) ⟨blindR, va_recv (ci := 1) (q0 := 13 + 7 * k) hK hP rfl (wt_0 G S hk), fun U hU hW => ⟨rfl, rPre_of hP hK hN hU hW⟩⟩ rfl rfl hl.1 rfl (lv_room (Nat.le_of_ble_eq_true rfl)) d_MT_addStatement_2 ⟨Nat.zero_le _, Nat.zero_le _⟩) (fun x2 ex2 => ?_)
  obtain ⟨ex2, bx2⟩ := ex2
  refine lv_if_eq (tgt := 15) hx hb d_MT_addStatement_5 (by decide) (fun c_5 => ?_) (fun c_5 => ?_)
  · exact W.vret hx hb hr (fun t ht hW => ⟨⟨S, rfl, ⟨by subst ex2; simp only [f_MT_addStatement, if_pos c_5], hI⟩, by rw [ht]; exact hP, hD⟩, hS.F ht⟩) hS.2.2 d_MT_addStatement_15
  · refine lv_aload_n hx hb d_MT_addStatement_8 rfl (lv_at hl 0 rfl) ?_
    refine va_get (D := D) (ci := 1) (v := .ref (tA G k 2)) (C := R_MT) (T := T_MT) (N := 10) hx hb hts (fun w h => List.mem_cons_of_mem _ (in_MT w h)) hown hK hP (13 + 7 * k) (wt_0 G S hk) rfl 1 (by decide) (hts _ (List.mem_cons_of_mem _ kw23)) (fun _ h9 => h9) rfl d_MT_addStatement_9 ?_
    refine lv_iload_n hx hb d_MT_addStatement_12 rfl (lv_at hl 1 rfl) ?_
    refine lv_iload_n hx hb d_MT_addStatement_13 rfl (lv_at hl 2 rfl) ?_
    refine va_iastE (D := D) hx hb hK hP hD hS (13 + 7 * k + 2) 0 (wt_2 G S hk) rfl (pl_in hI hk (by rw [← ex2]; exact c_5)) (wstt_a2 G S p1.toNatClampNeg p2 hk) d_MT_addStatement_14 (fun H locs hP hD hS => ?_)
    obtain ⟨S14, eS14⟩ : ∃ y : CS, y = stT S k 2 p1.toNatClampNeg p2 := ⟨_, rfl⟩
    rw [← eS14] at hP hD
    have hI : IC N S14 := by rw [eS14]; exact IC_T hI _ _ _ _ (by decide)
    exact W.vret hx hb hr (fun t ht hW => ⟨⟨S14, rfl, ⟨by subst eS14; subst ex2; simp only [f_MT_addStatement, if_neg c_5], hI⟩, by rw [ht]; exact hP, hD⟩, hS.F ht⟩) hS.2.2 d_MT_addStatement_15
set_option maxHeartbeats 4000000 in
set_option maxRecDepth 100000 in
theorem c_MT_hasTwins (l : Launch) (D : va_G) (G : GP) (S : CS) (k : Nat) (N : Nat) (hI : IC N S) (hk : k < 3) : Met l y_MT_hasTwins ws_MT_hasTwins ({ frames := 0, cells := 0, slots := 0, locals := 0 }) (va_Pc [.ref (tA G k 0)] (rPre D G S)) (vp_Si (fun r => r = f_MT_hasTwins S k ∧ bl r)) 0 0 (fun _ => False) := by
  refine Met.ofW (cc := b_MT_hasTwins) (maxL := 1) (ret := (some .boolean)) (by decide) rfl ?_
  intro p e s m args below meth c s₁ B hml hv
  obtain ⟨rfl, hP, hK, hN⟩ := hv
  have hx := B.exec
  have hb := B.bytes
  have hr := B.returns
  have hts := atoms_spec (ws := ws_MT_hasTwins) B.pre
  have hown : s.vm.findClass R_MT = some m.cls := findClass_of_methodNamed B.named
  have hlocks := B.notSynchronized
  have hl := lv_entry ([.ref (tA G k 0)]) (n := 1) (Nat.le_of_ble_eq_true rfl)
  rw [lg_entry_eq]
  generalize (lg_sl ([.ref (tA G k 0)]) ++ List.replicate (1 - (lg_sl ([.ref (tA G k 0)])).length) Slot.unset).toArray = ls at hl ⊢
  have hl : lv_has ls 1 [(0, .ref (tA G k 0))] := hl
  refine lv_aload_n hx hb d_MT_hasTwins_0 rfl (lv_at hl 0 rfl) ?_
  refine va_get (D := D) (ci := 1) (v := .int (S.1 k 0 8)) (C := R_MT) (T := T_MT) (N := 10) hx hb hts (fun w h => List.mem_cons_of_mem _ (in_MT w h)) hown hK hP (13 + 7 * k) (wt_0 G S hk) rfl 8 (by decide) (hts _ (List.mem_cons_of_mem _ kw30)) (fun _ h9 => h9) rfl d_MT_hasTwins_1 ?_
  exact W.zret (v := (S.1 k 0 8)) hx hb hr (bl_nar (hI.1 k hk).2.2.1) (fun t ht hW => ⟨S.1 k 0 8, rfl, ⟨by simp only [f_MT_hasTwins], (hI.1 k hk).2.2.1⟩, ht⟩) (fun q h => absurd h List.not_mem_nil) d_MT_hasTwins_4
set_option maxHeartbeats 4000000 in
set_option maxRecDepth 100000 in
theorem c_MT_mark (l : Launch) (D : va_G) (G : GP) (S : CS) (sz : Nat) (k : Nat) (p1 : Int32) (N : Nat) (hI : IC N S) (hk : k < 3) (hb1 : bl p1) : Met l y_MT_mark ws_MT_mark ({ frames := 0, cells := 0, slots := 0, locals := 0 }) (va_Pc [.ref (tA G k 0), .int p1] (cPre D G S sz)) (va_Qv (fun S' : CS => S' = f_MT_mark S k p1 ∧ IC N S') (wB D G (va_A (wC G S) sz)) (va_A (wC G S) sz)) 0 0 (va_A (wC G S) sz) := by
  refine Met.ofW (cc := b_MT_mark) (maxL := 2) (ret := none) (by decide) rfl ?_
  intro p e s m args below meth c s₁ B hml hv
  obtain ⟨rfl, hsz, hP, hK, hD0, hN⟩ := hv
  have hx := B.exec
  have hb := B.bytes
  have hr := B.returns
  have hts := atoms_spec (ws := ws_MT_mark) B.pre
  have hown : s.vm.findClass R_MT = some m.cls := findClass_of_methodNamed B.named
  have hlocks := B.notSynchronized
  subst hsz
  have hD := hD0.self (sz := s.heap.size)
  generalize hAe : va_A (wC G S) s.heap.size = A at hD ⊢
  have hA : ∀ q : Nat, s.heap.size ≤ q → A q := fun q h => by rw [← hAe]; exact Or.inr h
  have hS : va_S A s.heap s.heap [] := va_S.rf
  have hl := lv_entry ([.ref (tA G k 0), .int p1]) (n := 2) (Nat.le_of_ble_eq_true rfl)
  rw [lg_entry_eq]
  generalize (lg_sl ([.ref (tA G k 0), .int p1]) ++ List.replicate (2 - (lg_sl ([.ref (tA G k 0), .int p1])).length) Slot.unset).toArray = ls at hl ⊢
  have hl : lv_has ls 2 [(0, .ref (tA G k 0)), (1, .int p1)] := hl
  refine lv_aload_n hx hb d_MT_mark_0 rfl (lv_at hl 0 rfl) ?_
  refine lv_iload_n hx hb d_MT_mark_1 rfl (lv_at hl 1 rfl) ?_
  refine va_putE (D := D) (ci := 1) (v := .int p1) (ty := .boolean) (C := R_MT) (T := T_MT) (N := 10) hx hb hts (fun w h => List.mem_cons_of_mem _ (in_MT w h)) t_MT t_MT_ok n_MT hown hK hP hD hS (13 + 7 * k) (wt_0 G S hk) rfl 9 (by decide) (hts _ (List.mem_cons_of_mem _ kw31)) (fun _ h9 => h9) rfl (by decide +kernel) (bl_nar hb1) (bl_fit hb1) (Nat.le_of_ble_eq_true rfl) (wstt_9 G S p1 hk) d_MT_mark_2 (fun H locs hP hD hS => ?_)
  obtain ⟨S2, eS2⟩ : ∃ y : CS, y = stT S k 0 9 p1 := ⟨_, rfl⟩
  rw [← eS2] at hP hD
  have hI : IC N S2 := by rw [eS2]; exact IC_tb hI _ 9 (Or.inr rfl) _ hb1
  exact W.vret hx hb hr (fun t ht hW => ⟨⟨S2, rfl, ⟨by subst eS2; simp only [f_MT_mark], hI⟩, by rw [ht]; exact hP, hD⟩, hS.F ht⟩) hS.2.2 d_MT_mark_5
set_option maxHeartbeats 4000000 in
set_option maxRecDepth 100000 in
theorem c_MT_defined (l : Launch) (D : va_G) (G : GP) (S : CS) (k : Nat) (N : Nat) (hI : IC N S) (hk : k < 3) : Met l y_MT_defined ws_MT_defined ({ frames := 0, cells := 0, slots := 0, locals := 0 }) (va_Pc [.ref (tA G k 0)] (rPre D G S)) (vp_Si (fun r => r = f_MT_defined S k)) 0 0 (fun _ => False) := by
  refine Met.ofW (cc := b_MT_defined) (maxL := 1) (ret := (some .int)) (by decide) rfl ?_
  intro p e s m args below meth c s₁ B hml hv
  obtain ⟨rfl, hP, hK, hN⟩ := hv
  have hx := B.exec
  have hb := B.bytes
  have hr := B.returns
  have hts := atoms_spec (ws := ws_MT_defined) B.pre
  have hown : s.vm.findClass R_MT = some m.cls := findClass_of_methodNamed B.named
  have hlocks := B.notSynchronized
  have hl := lv_entry ([.ref (tA G k 0)]) (n := 1) (Nat.le_of_ble_eq_true rfl)
  rw [lg_entry_eq]
  generalize (lg_sl ([.ref (tA G k 0)]) ++ List.replicate (1 - (lg_sl ([.ref (tA G k 0)])).length) Slot.unset).toArray = ls at hl ⊢
  have hl : lv_has ls 1 [(0, .ref (tA G k 0))] := hl
  refine lv_aload_n hx hb d_MT_defined_0 rfl (lv_at hl 0 rfl) ?_
  refine va_get (D := D) (ci := 1) (v := .int (S.1 k 0 7)) (C := R_MT) (T := T_MT) (N := 10) hx hb hts (fun w h => List.mem_cons_of_mem _ (in_MT w h)) hown hK hP (13 + 7 * k) (wt_0 G S hk) rfl 7 (by decide) (hts _ (List.mem_cons_of_mem _ kw29)) (fun _ h9 => h9) rfl d_MT_defined_1 ?_
  exact W.iret (v := (S.1 k 0 7)) hx hb hr (fun t ht hW => ⟨S.1 k 0 7, rfl, by simp only [f_MT_defined], ht⟩) (fun q h => absurd h List.not_mem_nil) d_MT_defined_4
set_option maxHeartbeats 4000000 in
set_option maxRecDepth 100000 in
theorem c_MT_isCompiled (l : Launch) (D : va_G) (G : GP) (S : CS) (k : Nat) (N : Nat) (hI : IC N S) (hk : k < 3) : Met l y_MT_isCompiled ws_MT_isCompiled ({ frames := 0, cells := 0, slots := 0, locals := 0 }) (va_Pc [.ref (tA G k 0)] (rPre D G S)) (vp_Si (fun r => r = f_MT_isCompiled S k ∧ bl r)) 0 0 (fun _ => False) := by
  refine Met.ofW (cc := b_MT_isCompiled) (maxL := 1) (ret := (some .boolean)) (by decide) rfl ?_
  intro p e s m args below meth c s₁ B hml hv
  obtain ⟨rfl, hP, hK, hN⟩ := hv
  have hx := B.exec
  have hb := B.bytes
  have hr := B.returns
  have hts := atoms_spec (ws := ws_MT_isCompiled) B.pre
  have hown : s.vm.findClass R_MT = some m.cls := findClass_of_methodNamed B.named
  have hlocks := B.notSynchronized
  have hl := lv_entry ([.ref (tA G k 0)]) (n := 1) (Nat.le_of_ble_eq_true rfl)
  rw [lg_entry_eq]
  generalize (lg_sl ([.ref (tA G k 0)]) ++ List.replicate (1 - (lg_sl ([.ref (tA G k 0)])).length) Slot.unset).toArray = ls at hl ⊢
  have hl : lv_has ls 1 [(0, .ref (tA G k 0))] := hl
  refine lv_aload_n hx hb d_MT_isCompiled_0 rfl (lv_at hl 0 rfl) ?_
  refine va_get (D := D) (ci := 1) (v := .int (S.1 k 0 9)) (C := R_MT) (T := T_MT) (N := 10) hx hb hts (fun w h => List.mem_cons_of_mem _ (in_MT w h)) hown hK hP (13 + 7 * k) (wt_0 G S hk) rfl 9 (by decide) (hts _ (List.mem_cons_of_mem _ kw31)) (fun _ h9 => h9) rfl d_MT_isCompiled_1 ?_
  exact W.zret (v := (S.1 k 0 9)) hx hb hr (bl_nar (hI.1 k hk).2.2.2) (fun t ht hW => ⟨S.1 k 0 9, rfl, ⟨by simp only [f_MT_isCompiled], (hI.1 k hk).2.2.2⟩, ht⟩) (fun q h => absurd h List.not_mem_nil) d_MT_isCompiled_4
set_option maxHeartbeats 4000000 in
set_option maxRecDepth 100000 in
theorem c_MT_callsOf (l : Launch) (D : va_G) (G : GP) (S : CS) (k : Nat) (p1 : Int32) (N : Nat) (hI : IC N S) (hk : k < 3) : Met l y_MT_callsOf ws_MT_callsOf ({ frames := 1, cells := 0, slots := 0, locals := 20 }) (va_Pc [.ref (tA G k 0), .int p1] (rPre D G S)) (vp_Si (fun r => r = f_MT_callsOf S k p1)) 0 0 (fun _ => False) := by
  refine Met.ofW (cc := b_MT_callsOf) (maxL := 2) (ret := (some .int)) (by decide) rfl ?_
  intro p e s m args below meth c s₁ B hml hv
  obtain ⟨rfl, hP, hK, hN⟩ := hv
  have hx := B.exec
  have hb := B.bytes
  have hr := B.returns
  have hts := atoms_spec (ws := ws_MT_callsOf) B.pre
  have hown : s.vm.findClass R_MT = some m.cls := findClass_of_methodNamed B.named
  have hlocks := B.notSynchronized
  have hl := lv_entry ([.ref (tA G k 0), .int p1]) (n := 2) (Nat.le_of_ble_eq_true rfl)
  rw [lg_entry_eq]
  generalize (lg_sl ([.ref (tA G k 0), .int p1]) ++ List.replicate (2 - (lg_sl ([.ref (tA G k 0), .int p1])).length) Slot.unset).toArray = ls at hl ⊢
  have hl : lv_has ls 2 [(0, .ref (tA G k 0)), (1, .int p1)] := hl
  refine lv_iload_n hx hb d_MT_callsOf_0 rfl (lv_at hl 1 rfl) ?_
  refine vp_callSi (va_runSN (As := [.int p1]) (rest := []) ⟨hx, hb, hml, hown, hts⟩ (c_GS_isLetterNumber l p1) ⟨va_cnB 1 hts (gW kw173) rfl rfl rfl (hN.1 (R_MT, 47, y_GS_isLetterNumber, "GateStack") (by decide +kernel)) (hts _ (List.mem_cons_of_mem _ kw1)) (by decide +kernel) ⟨Nat.le_of_ble_eq_true rfl, Nat.le_of_ble_eq_true rfl⟩, (hts _ (List.mem_cons_of_mem _ kw172)), trivial⟩ ⟨blindP, fun U hU hW => ⟨rfl, NW_warm hW hN⟩⟩ rfl rfl hl.1 rfl (lv_room (Nat.le_of_ble_eq_true rfl)) d_MT_callsOf_1 ⟨Nat.zero_le _, Nat.zero_le _⟩).run (fun x1 ex1 => ?_)
  obtain ⟨ex1, bx1⟩ := ex1
  refine lv_if_eq (tgt := 16) hx hb d_MT_callsOf_4 (by decide) (fun c_4 => ?_) (fun c_4 => ?_)
  · refine lv_iconst (v := 0) hx hb d_MT_callsOf_16 (by decide) ?_
    exact W.iret (v := 0) hx hb hr (fun t ht hW => ⟨0, rfl, by subst ex1; simp only [f_MT_callsOf, if_pos c_4], ht⟩) (fun q h => absurd h List.not_mem_nil) d_MT_callsOf_17
  · refine lv_aload_n hx hb d_MT_callsOf_7 rfl (lv_at hl 0 rfl) ?_
    refine va_get (D := D) (ci := 1) (v := .ref (tA G k 6)) (C := R_MT) (T := T_MT) (N := 10) hx hb hts (fun w h => List.mem_cons_of_mem _ (in_MT w h)) hown hK hP (13 + 7 * k) (wt_0 G S hk) rfl 5 (by decide) (hts _ (List.mem_cons_of_mem _ kw27)) (fun _ h9 => h9) rfl d_MT_callsOf_8 ?_
    refine lv_iload_n hx hb d_MT_callsOf_11 rfl (lv_at hl 1 rfl) ?_
    refine va_iald (D := D) hx hb hK hP (13 + 7 * k + 6) 0 (wt_6 G S hk) rfl (let_in (by rw [← ex1]; exact c_4)) d_MT_callsOf_12 ?_
    refine lv_topi (fun x12 ex12 => ?_)
    refine lv_goto (tgt := 17) hx hb d_MT_callsOf_13 (by decide) ?_
    exact W.iret (v := x12) hx hb hr (fun t ht hW => ⟨x12, rfl, by subst ex12; subst ex1; simp only [f_MT_callsOf, if_neg c_4], ht⟩) (fun q h => absurd h List.not_mem_nil) d_MT_callsOf_17
set_option maxHeartbeats 4000000 in
set_option maxRecDepth 100000 in
theorem c_MT_firstPlaceOf (l : Launch) (D : va_G) (G : GP) (S : CS) (k : Nat) (p1 : Int32) (N : Nat) (hI : IC N S) (hk : k < 3) : Met l y_MT_firstPlaceOf ws_MT_firstPlaceOf ({ frames := 1, cells := 0, slots := 0, locals := 20 }) (va_Pc [.ref (tA G k 0), .int p1] (rPre D G S)) (vp_Si (fun r => r = f_MT_firstPlaceOf S k p1)) 0 0 (fun _ => False) := by
  refine Met.ofW (cc := b_MT_firstPlaceOf) (maxL := 2) (ret := (some .int)) (by decide) rfl ?_
  intro p e s m args below meth c s₁ B hml hv
  obtain ⟨rfl, hP, hK, hN⟩ := hv
  have hx := B.exec
  have hb := B.bytes
  have hr := B.returns
  have hts := atoms_spec (ws := ws_MT_firstPlaceOf) B.pre
  have hown : s.vm.findClass R_MT = some m.cls := findClass_of_methodNamed B.named
  have hlocks := B.notSynchronized
  have hl := lv_entry ([.ref (tA G k 0), .int p1]) (n := 2) (Nat.le_of_ble_eq_true rfl)
  rw [lg_entry_eq]
  generalize (lg_sl ([.ref (tA G k 0), .int p1]) ++ List.replicate (2 - (lg_sl ([.ref (tA G k 0), .int p1])).length) Slot.unset).toArray = ls at hl ⊢
  have hl : lv_has ls 2 [(0, .ref (tA G k 0)), (1, .int p1)] := hl
  refine lv_iload_n hx hb d_MT_firstPlaceOf_0 rfl (lv_at hl 1 rfl) ?_
  refine vp_callSi (va_runSN (As := [.int p1]) (rest := []) ⟨hx, hb, hml, hown, hts⟩ (c_GS_isLetterNumber l p1) ⟨va_cnB 1 hts (gW kw173) rfl rfl rfl (hN.1 (R_MT, 47, y_GS_isLetterNumber, "GateStack") (by decide +kernel)) (hts _ (List.mem_cons_of_mem _ kw1)) (by decide +kernel) ⟨Nat.le_of_ble_eq_true rfl, Nat.le_of_ble_eq_true rfl⟩, (hts _ (List.mem_cons_of_mem _ kw172)), trivial⟩ ⟨blindP, fun U hU hW => ⟨rfl, NW_warm hW hN⟩⟩ rfl rfl hl.1 rfl (lv_room (Nat.le_of_ble_eq_true rfl)) d_MT_firstPlaceOf_1 ⟨Nat.zero_le _, Nat.zero_le _⟩).run (fun x1 ex1 => ?_)
  obtain ⟨ex1, bx1⟩ := ex1
  refine lv_if_eq (tgt := 18) hx hb d_MT_firstPlaceOf_4 (by decide) (fun c_4 => ?_) (fun c_4 => ?_)
  · refine lv_iconst (v := 0) hx hb d_MT_firstPlaceOf_18 (by decide) ?_
    exact W.iret (v := 0) hx hb hr (fun t ht hW => ⟨0, rfl, by subst ex1; simp only [f_MT_firstPlaceOf, if_pos c_4], ht⟩) (fun q h => absurd h List.not_mem_nil) d_MT_firstPlaceOf_19
  · refine lv_aload_n hx hb d_MT_firstPlaceOf_7 rfl (lv_at hl 0 rfl) ?_
    refine va_get (D := D) (ci := 1) (v := .ref (tA G k 5)) (C := R_MT) (T := T_MT) (N := 10) hx hb hts (fun w h => List.mem_cons_of_mem _ (in_MT w h)) hown hK hP (13 + 7 * k) (wt_0 G S hk) rfl 4 (by decide) (hts _ (List.mem_cons_of_mem _ kw26)) (fun _ h9 => h9) rfl d_MT_firstPlaceOf_8 ?_
    refine lv_iload_n hx hb d_MT_firstPlaceOf_11 rfl (lv_at hl 1 rfl) ?_
    refine va_iald (D := D) hx hb hK hP (13 + 7 * k + 5) 0 (wt_5 G S hk) rfl (let_in (by rw [← ex1]; exact c_4)) d_MT_firstPlaceOf_12 ?_
    refine lv_topi (fun x12 ex12 => ?_)
    refine lv_iconst (v := 2) hx hb d_MT_firstPlaceOf_13 (by decide) ?_
    refine lv_iadd hx hb d_MT_firstPlaceOf_14 ?_
    refine lv_topi (fun x14 ex14 => ?_)
    refine lv_goto (tgt := 19) hx hb d_MT_firstPlaceOf_15 (by decide) ?_
    exact W.iret (v := x14) hx hb hr (fun t ht hW => ⟨x14, rfl, by subst ex14; subst ex12; subst ex1; simp only [f_MT_firstPlaceOf, if_neg c_4], ht⟩) (fun q h => absurd h List.not_mem_nil) d_MT_firstPlaceOf_19
set_option maxHeartbeats 4000000 in
set_option maxRecDepth 100000 in
theorem c_MT_endsProcedure (l : Launch) (D : va_G) (G : GP) (S : CS) (k : Nat) (p1 : Int32) (N : Nat) (hI : IC N S) (hk : k < 3) : Met l y_MT_endsProcedure ws_MT_endsProcedure ({ frames := 1, cells := 0, slots := 0, locals := 21 }) (va_Pc [.ref (tA G k 0), .int p1] (rPre D G S)) (vp_Si (fun r => r = f_MT_endsProcedure S k p1 ∧ bl r)) 0 0 (fun _ => False) := by
  refine Met.ofW (cc := b_MT_endsProcedure) (maxL := 2) (ret := (some .boolean)) (by decide) rfl ?_
  intro p e s m args below meth c s₁ B hml hv
  obtain ⟨rfl, hP, hK, hN⟩ := hv
  have hx := B.exec
  have hb := B.bytes
  have hr := B.returns
  have hts := atoms_spec (ws := ws_MT_endsProcedure) B.pre
  have hown : s.vm.findClass R_MT = some m.cls := findClass_of_methodNamed B.named
  have hlocks := B.notSynchronized
  have hl := lv_entry ([.ref (tA G k 0), .int p1]) (n := 2) (Nat.le_of_ble_eq_true rfl)
  rw [lg_entry_eq]
  generalize (lg_sl ([.ref (tA G k 0), .int p1]) ++ List.replicate (2 - (lg_sl ([.ref (tA G k 0), .int p1])).length) Slot.unset).toArray = ls at hl ⊢
  have hl : lv_has ls 2 [(0, .ref (tA G k 0)), (1, .int p1)] := hl
  refine lv_aload_n hx hb d_MT_endsProcedure_0 rfl (lv_at hl 0 rfl) ?_
  refine lv_iload_n hx hb d_MT_endsProcedure_1 rfl (lv_at hl 1 rfl) ?_
  refine vp_callSi (W.runV (As := [.int p1]) (rest := []) ⟨hx, hb, hml, hown, hts⟩ (c_MT_isPlace l D G S k p1 N hI hk) (cwV 1 hts (gV kw195 kw196 kw632 kw2 kw197) rfl rfl rfl (by decide +kernel) ⟨Nat.le_of_ble_eq_true rfl, Nat.le_of_ble_eq_true rfl⟩) ⟨blindR, va_recv (ci := 1) (q0 := 13 + 7 * k) hK hP rfl (wt_0 G S hk), fun U hU hW => ⟨rfl, rPre_of hP hK hN hU hW⟩⟩ rfl rfl hl.1 rfl (lv_room (Nat.le_of_ble_eq_true rfl)) d_MT_endsProcedure_2 ⟨Nat.zero_le _, Nat.zero_le _⟩) (fun x2 ex2 => ?_)
  obtain ⟨ex2, bx2⟩ := ex2
  refine lv_if_eq (tgt := 28) hx hb d_MT_endsProcedure_5 (by decide) (fun c_5 => ?_) (fun c_5 => ?_)
  · refine lv_iconst (v := 0) hx hb d_MT_endsProcedure_28 (by decide) ?_
    exact W.zret (v := 0) hx hb hr (bl_nar (Or.inl rfl)) (fun t ht hW => ⟨0, rfl, ⟨by subst ex2; simp only [f_MT_endsProcedure, if_pos c_5], (Or.inl rfl)⟩, ht⟩) (fun q h => absurd h List.not_mem_nil) d_MT_endsProcedure_29
  · refine lv_aload_n hx hb d_MT_endsProcedure_8 rfl (lv_at hl 0 rfl) ?_
    refine lv_aload_n hx hb d_MT_endsProcedure_9 rfl (lv_at hl 0 rfl) ?_
    refine va_get (D := D) (ci := 1) (v := .ref (tA G k 3)) (C := R_MT) (T := T_MT) (N := 10) hx hb hts (fun w h => List.mem_cons_of_mem _ (in_MT w h)) hown hK hP (13 + 7 * k) (wt_0 G S hk) rfl 2 (by decide) (hts _ (List.mem_cons_of_mem _ kw24)) (fun _ h9 => h9) rfl d_MT_endsProcedure_10 ?_
    refine lv_iload_n hx hb d_MT_endsProcedure_13 rfl (lv_at hl 1 rfl) ?_
    refine va_iald (D := D) hx hb hK hP (13 + 7 * k + 3) 0 (wt_3 G S hk) rfl (pl_in hI hk (by rw [← ex2]; exact c_5)) d_MT_endsProcedure_14 ?_
    refine lv_topi (fun x14 ex14 => ?_)
    refine vp_callSi (W.runV (As := [.int x14]) (rest := []) ⟨hx, hb, hml, hown, hts⟩ (c_MT_signAt l D G S k x14 N hI hk) (cwV 1 hts (gV kw321 kw160 kw161 kw2 kw162) rfl rfl rfl (by decide +kernel) ⟨Nat.le_of_ble_eq_true rfl, Nat.le_of_ble_eq_true rfl⟩) ⟨blindR, va_recv (ci := 1) (q0 := 13 + 7 * k) hK hP rfl (wt_0 G S hk), fun U hU hW => ⟨rfl, rPre_of hP hK hN hU hW⟩⟩ rfl rfl hl.1 rfl (lv_room (Nat.le_of_ble_eq_true rfl)) d_MT_endsProcedure_15 ⟨Nat.zero_le _, Nat.zero_le _⟩) (fun x15 ex15 => ?_)
    refine vp_callSi (va_runSN (As := [.int x15]) (rest := []) ⟨hx, hb, hml, hown, hts⟩ (c_GS_isLetter l x15) ⟨va_cnB 1 hts (gW kw167) rfl rfl rfl (hN.1 (R_MT, 62, y_GS_isLetter, "GateStack") (by decide +kernel)) (hts _ (List.mem_cons_of_mem _ kw1)) (by decide +kernel) ⟨Nat.le_of_ble_eq_true rfl, Nat.le_of_ble_eq_true rfl⟩, (hts _ (List.mem_cons_of_mem _ kw166)), trivial⟩ ⟨blindP, fun U hU hW => ⟨rfl, NW_warm hW hN⟩⟩ rfl rfl hl.1 rfl (lv_room (Nat.le_of_ble_eq_true rfl)) d_MT_endsProcedure_18 ⟨Nat.zero_le _, Nat.zero_le _⟩).run (fun x18 ex18 => ?_)
    obtain ⟨ex18, bx18⟩ := ex18
    refine lv_if_eq (tgt := 28) hx hb d_MT_endsProcedure_21 (by decide) (fun c_21 => ?_) (fun c_21 => ?_)
    · refine lv_iconst (v := 0) hx hb d_MT_endsProcedure_28 (by decide) ?_
      exact W.zret (v := 0) hx hb hr (bl_nar (Or.inl rfl)) (fun t ht hW => ⟨0, rfl, ⟨by subst ex18; subst ex15; subst ex14; subst ex2; simp only [f_MT_endsProcedure, if_neg c_5, if_pos c_21], (Or.inl rfl)⟩, ht⟩) (fun q h => absurd h List.not_mem_nil) d_MT_endsProcedure_29
    · refine lv_iconst (v := 1) hx hb d_MT_endsProcedure_24 (by decide) ?_
      refine lv_goto (tgt := 29) hx hb d_MT_endsProcedure_25 (by decide) ?_
      exact W.zret (v := 1) hx hb hr (bl_nar (Or.inr rfl)) (fun t ht hW => ⟨1, rfl, ⟨by subst ex18; subst ex15; subst ex14; subst ex2; simp only [f_MT_endsProcedure, if_neg c_5, if_neg c_21], (Or.inr rfl)⟩, ht⟩) (fun q h => absurd h List.not_mem_nil) d_MT_endsProcedure_29
set_option maxHeartbeats 4000000 in
set_option maxRecDepth 100000 in
theorem c_MT_behindEndOf (l : Launch) (D : va_G) (G : GP) (S : CS) (k : Nat) (p1 : Int32) (N : Nat) (hI : IC N S) (hk : k < 3) : Met l y_MT_behindEndOf ws_MT_behindEndOf ({ frames := 1, cells := 0, slots := 0, locals := 21 }) (va_Pc [.ref (tA G k 0), .int p1] (rPre D G S)) (vp_Si (fun r => r = f_MT_behindEndOf S k p1)) 0 0 (fun _ => False) := by
  refine Met.ofW (cc := b_MT_behindEndOf) (maxL := 2) (ret := (some .int)) (by decide) rfl ?_
  intro p e s m args below meth c s₁ B hml hv
  obtain ⟨rfl, hP, hK, hN⟩ := hv
  have hx := B.exec
  have hb := B.bytes
  have hr := B.returns
  have hts := atoms_spec (ws := ws_MT_behindEndOf) B.pre
  have hown : s.vm.findClass R_MT = some m.cls := findClass_of_methodNamed B.named
  have hlocks := B.notSynchronized
  have hl := lv_entry ([.ref (tA G k 0), .int p1]) (n := 2) (Nat.le_of_ble_eq_true rfl)
  rw [lg_entry_eq]
  generalize (lg_sl ([.ref (tA G k 0), .int p1]) ++ List.replicate (2 - (lg_sl ([.ref (tA G k 0), .int p1])).length) Slot.unset).toArray = ls at hl ⊢
  have hl : lv_has ls 2 [(0, .ref (tA G k 0)), (1, .int p1)] := hl
  refine lv_aload_n hx hb d_MT_behindEndOf_0 rfl (lv_at hl 0 rfl) ?_
  refine lv_iload_n hx hb d_MT_behindEndOf_1 rfl (lv_at hl 1 rfl) ?_
  refine vp_callSi (W.runV (As := [.int p1]) (rest := []) ⟨hx, hb, hml, hown, hts⟩ (c_MT_isPlace l D G S k p1 N hI hk) (cwV 1 hts (gV kw195 kw196 kw632 kw2 kw197) rfl rfl rfl (by decide +kernel) ⟨Nat.le_of_ble_eq_true rfl, Nat.le_of_ble_eq_true rfl⟩) ⟨blindR, va_recv (ci := 1) (q0 := 13 + 7 * k) hK hP rfl (wt_0 G S hk), fun U hU hW => ⟨rfl, rPre_of hP hK hN hU hW⟩⟩ rfl rfl hl.1 rfl (lv_room (Nat.le_of_ble_eq_true rfl)) d_MT_behindEndOf_2 ⟨Nat.zero_le _, Nat.zero_le _⟩) (fun x2 ex2 => ?_)
  obtain ⟨ex2, bx2⟩ := ex2
  refine lv_if_eq (tgt := 19) hx hb d_MT_behindEndOf_5 (by decide) (fun c_5 => ?_) (fun c_5 => ?_)
  · refine lv_iload_n hx hb d_MT_behindEndOf_19 rfl (lv_at hl 1 rfl) ?_
    exact W.iret (v := p1) hx hb hr (fun t ht hW => ⟨p1, rfl, by subst ex2; simp only [f_MT_behindEndOf, if_pos c_5], ht⟩) (fun q h => absurd h List.not_mem_nil) d_MT_behindEndOf_20
  · refine lv_aload_n hx hb d_MT_behindEndOf_8 rfl (lv_at hl 0 rfl) ?_
    refine va_get (D := D) (ci := 1) (v := .ref (tA G k 4)) (C := R_MT) (T := T_MT) (N := 10) hx hb hts (fun w h => List.mem_cons_of_mem _ (in_MT w h)) hown hK hP (13 + 7 * k) (wt_0 G S hk) rfl 3 (by decide) (hts _ (List.mem_cons_of_mem _ kw25)) (fun _ h9 => h9) rfl d_MT_behindEndOf_9 ?_
    refine lv_iload_n hx hb d_MT_behindEndOf_12 rfl (lv_at hl 1 rfl) ?_
    refine va_iald (D := D) hx hb hK hP (13 + 7 * k + 4) 0 (wt_4 G S hk) rfl (pl_in hI hk (by rw [← ex2]; exact c_5)) d_MT_behindEndOf_13 ?_
    refine lv_topi (fun x13 ex13 => ?_)
    refine lv_iconst (v := 1) hx hb d_MT_behindEndOf_14 (by decide) ?_
    refine lv_iadd hx hb d_MT_behindEndOf_15 ?_
    refine lv_topi (fun x15 ex15 => ?_)
    refine lv_goto (tgt := 20) hx hb d_MT_behindEndOf_16 (by decide) ?_
    exact W.iret (v := x15) hx hb hr (fun t ht hW => ⟨x15, rfl, by subst ex15; subst ex13; subst ex2; simp only [f_MT_behindEndOf, if_neg c_5], ht⟩) (fun q h => absurd h List.not_mem_nil) d_MT_behindEndOf_20
set_option maxHeartbeats 4000000 in
set_option maxRecDepth 100000 in
theorem c_MT_behindBlock (l : Launch) (D : va_G) (G : GP) (S : CS) (k : Nat) (p1 : Int32) (N : Nat) (hI : IC N S) (hk : k < 3) : Met l y_MT_behindBlock ws_MT_behindBlock ({ frames := 2, cells := 0, slots := 0, locals := 42 }) (va_Pc [.ref (tA G k 0), .int p1] (rPre D G S)) (vp_Si (fun r => r = f_MT_behindBlock S k p1)) 0 0 (fun _ => False) := by
  refine Met.ofW (cc := b_MT_behindBlock) (maxL := 3) (ret := (some .int)) (by decide) rfl ?_
  intro p e s m args below meth c s₁ B hml hv
  obtain ⟨rfl, hP, hK, hN⟩ := hv
  have hx := B.exec
  have hb := B.bytes
  have hr := B.returns
  have hts := atoms_spec (ws := ws_MT_behindBlock) B.pre
  have hown : s.vm.findClass R_MT = some m.cls := findClass_of_methodNamed B.named
  have hlocks := B.notSynchronized
  have hl := lv_entry ([.ref (tA G k 0), .int p1]) (n := 3) (Nat.le_of_ble_eq_true rfl)
  rw [lg_entry_eq]
  generalize (lg_sl ([.ref (tA G k 0), .int p1]) ++ List.replicate (3 - (lg_sl ([.ref (tA G k 0), .int p1])).length) Slot.unset).toArray = ls at hl ⊢
  have hl : lv_has ls 3 [(0, .ref (tA G k 0)), (1, .int p1)] := hl
  refine lv_aload_n hx hb d_MT_behindBlock_0 rfl (lv_at hl 0 rfl) ?_
  refine lv_iload_n hx hb d_MT_behindBlock_1 rfl (lv_at hl 1 rfl) ?_
  refine vp_callSi (W.runV (As := [.int p1]) (rest := []) ⟨hx, hb, hml, hown, hts⟩ (c_MT_isPlace l D G S k p1 N hI hk) (cwV 1 hts (gV kw195 kw196 kw632 kw2 kw197) rfl rfl rfl (by decide +kernel) ⟨Nat.le_of_ble_eq_true rfl, Nat.le_of_ble_eq_true rfl⟩) ⟨blindR, va_recv (ci := 1) (q0 := 13 + 7 * k) hK hP rfl (wt_0 G S hk), fun U hU hW => ⟨rfl, rPre_of hP hK hN hU hW⟩⟩ rfl rfl hl.1 rfl (lv_room (Nat.le_of_ble_eq_true rfl)) d_MT_behindBlock_2 ⟨Nat.zero_le _, Nat.zero_le _⟩) (fun x2 ex2 => ?_)
  obtain ⟨ex2, bx2⟩ := ex2
  refine lv_if_ne (tgt := 10) hx hb d_MT_behindBlock_5 (by decide) (fun c_5 => ?_) (fun c_5 => ?_)
  · refine lv_aload_n hx hb d_MT_behindBlock_10 rfl (lv_at hl 0 rfl) ?_
    refine lv_aload_n hx hb d_MT_behindBlock_11 rfl (lv_at hl 0 rfl) ?_
    refine va_get (D := D) (ci := 1) (v := .ref (tA G k 3)) (C := R_MT) (T := T_MT) (N := 10) hx hb hts (fun w h => List.mem_cons_of_mem _ (in_MT w h)) hown hK hP (13 + 7 * k) (wt_0 G S hk) rfl 2 (by decide) (hts _ (List.mem_cons_of_mem _ kw24)) (fun _ h9 => h9) rfl d_MT_behindBlock_12 ?_
    refine lv_iload_n hx hb d_MT_behindBlock_15 rfl (lv_at hl 1 rfl) ?_
    refine va_iald (D := D) hx hb hK hP (13 + 7 * k + 3) 0 (wt_3 G S hk) rfl (pl_in hI hk (by rw [← ex2]; exact c_5)) d_MT_behindBlock_16 ?_
    refine lv_topi (fun x16 ex16 => ?_)
    refine vp_callSi (W.runV (As := [.int x16]) (rest := []) ⟨hx, hb, hml, hown, hts⟩ (c_MT_signAt l D G S k x16 N hI hk) (cwV 1 hts (gV kw321 kw160 kw161 kw2 kw162) rfl rfl rfl (by decide +kernel) ⟨Nat.le_of_ble_eq_true rfl, Nat.le_of_ble_eq_true rfl⟩) ⟨blindR, va_recv (ci := 1) (q0 := 13 + 7 * k) hK hP rfl (wt_0 G S hk), fun U hU hW => ⟨rfl, rPre_of hP hK hN hU hW⟩⟩ rfl rfl hl.1 rfl (lv_room (Nat.le_of_ble_eq_true rfl)) d_MT_behindBlock_17 ⟨Nat.zero_le _, Nat.zero_le _⟩) (fun x17 ex17 => ?_)
    refine lv_bipush (v := 64) hx hb d_MT_behindBlock_20 (by decide) ?_
    refine lv_icmp_ne (tgt := 32) hx hb d_MT_behindBlock_22 (by decide) (fun c_22 => ?_) (fun c_22 => ?_)
    · refine lv_iload_n hx hb d_MT_behindBlock_32 rfl (lv_at hl 1 rfl) ?_
      refine lv_iconst (v := 1) hx hb d_MT_behindBlock_33 (by decide) ?_
      refine lv_iadd hx hb d_MT_behindBlock_34 ?_
      refine lv_topi (fun x34 ex34 => ?_)
      refine lv_istore_n (lv' := [(2, .int x34), (0, .ref (tA G k 0)), (1, .int p1)]) hx hb d_MT_behindBlock_35 rfl hl (by decide) rfl (fun ls hl => ?_)
      refine lv_aload_n hx hb d_MT_behindBlock_36 rfl (lv_at hl 1 rfl) ?_
      refine lv_iload_n hx hb d_MT_behindBlock_37 rfl (lv_at hl 0 rfl) ?_
      refine vp_callSi (W.runV (As := [.int x34]) (rest := []) ⟨hx, hb, hml, hown, hts⟩ (c_MT_signAt l D G S k x34 N hI hk) (cwV 1 hts (gV kw321 kw160 kw161 kw2 kw162) rfl rfl rfl (by decide +kernel) ⟨Nat.le_of_ble_eq_true rfl, Nat.le_of_ble_eq_true rfl⟩) ⟨blindR, va_recv (ci := 1) (q0 := 13 + 7 * k) hK hP rfl (wt_0 G S hk), fun U hU hW => ⟨rfl, rPre_of hP hK hN hU hW⟩⟩ rfl rfl hl.1 rfl (lv_room (Nat.le_of_ble_eq_true rfl)) d_MT_behindBlock_38 ⟨Nat.zero_le _, Nat.zero_le _⟩) (fun x38 ex38 => ?_)
      refine lv_bipush (v := 58) hx hb d_MT_behindBlock_41 (by decide) ?_
      refine lv_icmp_ne (tgt := 54) hx hb d_MT_behindBlock_43 (by decide) (fun c_43 => ?_) (fun c_43 => ?_)
      · refine lv_iload_n hx hb d_MT_behindBlock_54 rfl (lv_at hl 0 rfl) ?_
        exact W.iret (v := x34) hx hb hr (fun t ht hW => ⟨x34, rfl, by subst ex38; subst ex34; subst ex17; subst ex16; subst ex2; simp only [f_MT_behindBlock, if_neg c_5, if_neg c_22, if_neg c_43], ht⟩) (fun q h => absurd h List.not_mem_nil) d_MT_behindBlock_55
      · refine lv_aload_n hx hb d_MT_behindBlock_46 rfl (lv_at hl 1 rfl) ?_
        refine lv_iload_n hx hb d_MT_behindBlock_47 rfl (lv_at hl 0 rfl) ?_
        refine vp_callSi (W.runV (As := [.int x34]) (rest := []) ⟨hx, hb, hml, hown, hts⟩ (c_MT_behindEndOf l D G S k x34 N hI hk) (cwV 1 hts (gV kw326 kw327 kw646 kw2 kw328) rfl rfl rfl (by decide +kernel) ⟨Nat.le_of_ble_eq_true rfl, Nat.le_of_ble_eq_true rfl⟩) ⟨blindR, va_recv (ci := 1) (q0 := 13 + 7 * k) hK hP rfl (wt_0 G S hk), fun U hU hW => ⟨rfl, rPre_of hP hK hN hU hW⟩⟩ rfl rfl hl.1 rfl (lv_room (Nat.le_of_ble_eq_true rfl)) d_MT_behindBlock_48 ⟨Nat.zero_le _, Nat.zero_le _⟩) (fun x48 ex48 => ?_)
        refine lv_goto (tgt := 55) hx hb d_MT_behindBlock_51 (by decide) ?_
        exact W.iret (v := x48) hx hb hr (fun t ht hW => ⟨x48, rfl, by subst ex48; subst ex38; subst ex34; subst ex17; subst ex16; subst ex2; simp only [f_MT_behindBlock, if_neg c_5, if_neg c_22, if_pos c_43], ht⟩) (fun q h => absurd h List.not_mem_nil) d_MT_behindBlock_55
    · refine lv_aload_n hx hb d_MT_behindBlock_25 rfl (lv_at hl 0 rfl) ?_
      refine va_get (D := D) (ci := 1) (v := .ref (tA G k 3)) (C := R_MT) (T := T_MT) (N := 10) hx hb hts (fun w h => List.mem_cons_of_mem _ (in_MT w h)) hown hK hP (13 + 7 * k) (wt_0 G S hk) rfl 2 (by decide) (hts _ (List.mem_cons_of_mem _ kw24)) (fun _ h9 => h9) rfl d_MT_behindBlock_26 ?_
      refine lv_iload_n hx hb d_MT_behindBlock_29 rfl (lv_at hl 1 rfl) ?_
      refine va_iald (D := D) hx hb hK hP (13 + 7 * k + 3) 0 (wt_3 G S hk) rfl (pl_in hI hk (by rw [← ex2]; exact c_5)) d_MT_behindBlock_30 ?_
      refine lv_topi (fun x30 ex30 => ?_)
      exact W.iret (v := x30) hx hb hr (fun t ht hW => ⟨x30, rfl, by subst ex30; subst ex17; subst ex16; subst ex2; simp only [f_MT_behindBlock, if_neg c_5, if_pos c_22], ht⟩) (fun q h => absurd h List.not_mem_nil) d_MT_behindBlock_31
  · refine lv_iload_n hx hb d_MT_behindBlock_8 rfl (lv_at hl 1 rfl) ?_
    exact W.iret (v := p1) hx hb hr (fun t ht hW => ⟨p1, rfl, by subst ex2; simp only [f_MT_behindBlock, if_pos c_5], ht⟩) (fun q h => absurd h List.not_mem_nil) d_MT_behindBlock_9
set_option maxHeartbeats 4000000 in
set_option maxRecDepth 100000 in
theorem c_MT_placeIfZero (l : Launch) (D : va_G) (G : GP) (S : CS) (k : Nat) (p1 : Int32) (N : Nat) (hI : IC N S) (hk : k < 3) : Met l y_MT_placeIfZero ws_MT_placeIfZero ({ frames := 2, cells := 0, slots := 0, locals := 42 }) (va_Pc [.ref (tA G k 0), .int p1] (rPre D G S)) (vp_Si (fun r => r = f_MT_placeIfZero S k p1)) 0 0 (fun _ => False) := by
  refine Met.ofW (cc := b_MT_placeIfZero) (maxL := 3) (ret := (some .int)) (by decide) rfl ?_
  intro p e s m args below meth c s₁ B hml hv
  obtain ⟨rfl, hP, hK, hN⟩ := hv
  have hx := B.exec
  have hb := B.bytes
  have hr := B.returns
  have hts := atoms_spec (ws := ws_MT_placeIfZero) B.pre
  have hown : s.vm.findClass R_MT = some m.cls := findClass_of_methodNamed B.named
  have hlocks := B.notSynchronized
  have hl := lv_entry ([.ref (tA G k 0), .int p1]) (n := 3) (Nat.le_of_ble_eq_true rfl)
  rw [lg_entry_eq]
  generalize (lg_sl ([.ref (tA G k 0), .int p1]) ++ List.replicate (3 - (lg_sl ([.ref (tA G k 0), .int p1])).length) Slot.unset).toArray = ls at hl ⊢
  have hl : lv_has ls 3 [(0, .ref (tA G k 0)), (1, .int p1)] := hl
  refine lv_aload_n hx hb d_MT_placeIfZero_0 rfl (lv_at hl 0 rfl) ?_
  refine lv_iload_n hx hb d_MT_placeIfZero_1 rfl (lv_at hl 1 rfl) ?_
  refine vp_callSi (W.runV (As := [.int p1]) (rest := []) ⟨hx, hb, hml, hown, hts⟩ (c_MT_behindEndOf l D G S k p1 N hI hk) (cwV 1 hts (gV kw326 kw327 kw646 kw2 kw328) rfl rfl rfl (by decide +kernel) ⟨Nat.le_of_ble_eq_true rfl, Nat.le_of_ble_eq_true rfl⟩) ⟨blindR, va_recv (ci := 1) (q0 := 13 + 7 * k) hK hP rfl (wt_0 G S hk), fun U hU hW => ⟨rfl, rPre_of hP hK hN hU hW⟩⟩ rfl rfl hl.1 rfl (lv_room (Nat.le_of_ble_eq_true rfl)) d_MT_placeIfZero_2 ⟨Nat.zero_le _, Nat.zero_le _⟩) (fun x2 ex2 => ?_)
  refine lv_istore_n (lv' := [(2, .int x2), (0, .ref (tA G k 0)), (1, .int p1)]) hx hb d_MT_placeIfZero_5 rfl hl (by decide) rfl (fun ls hl => ?_)
  refine lv_aload_n hx hb d_MT_placeIfZero_6 rfl (lv_at hl 1 rfl) ?_
  refine lv_iload_n hx hb d_MT_placeIfZero_7 rfl (lv_at hl 0 rfl) ?_
  refine vp_callSi (W.runV (As := [.int x2]) (rest := []) ⟨hx, hb, hml, hown, hts⟩ (c_MT_signAt l D G S k x2 N hI hk) (cwV 1 hts (gV kw321 kw160 kw161 kw2 kw162) rfl rfl rfl (by decide +kernel) ⟨Nat.le_of_ble_eq_true rfl, Nat.le_of_ble_eq_true rfl⟩) ⟨blindR, va_recv (ci := 1) (q0 := 13 + 7 * k) hK hP rfl (wt_0 G S hk), fun U hU hW => ⟨rfl, rPre_of hP hK hN hU hW⟩⟩ rfl rfl hl.1 rfl (lv_room (Nat.le_of_ble_eq_true rfl)) d_MT_placeIfZero_8 ⟨Nat.zero_le _, Nat.zero_le _⟩) (fun x8 ex8 => ?_)
  refine lv_bipush (v := 58) hx hb d_MT_placeIfZero_11 (by decide) ?_
  refine lv_icmp_ne (tgt := 22) hx hb d_MT_placeIfZero_13 (by decide) (fun c_13 => ?_) (fun c_13 => ?_)
  · refine lv_iload_n hx hb d_MT_placeIfZero_22 rfl (lv_at hl 0 rfl) ?_
    exact W.iret (v := x2) hx hb hr (fun t ht hW => ⟨x2, rfl, by subst ex8; subst ex2; simp only [f_MT_placeIfZero, if_neg c_13], ht⟩) (fun q h => absurd h List.not_mem_nil) d_MT_placeIfZero_23
  · refine lv_iload_n hx hb d_MT_placeIfZero_16 rfl (lv_at hl 0 rfl) ?_
    refine lv_iconst (v := 2) hx hb d_MT_placeIfZero_17 (by decide) ?_
    refine lv_iadd hx hb d_MT_placeIfZero_18 ?_
    refine lv_topi (fun x18 ex18 => ?_)
    refine lv_goto (tgt := 23) hx hb d_MT_placeIfZero_19 (by decide) ?_
    exact W.iret (v := x18) hx hb hr (fun t ht hW => ⟨x18, rfl, by subst ex18; subst ex8; subst ex2; simp only [f_MT_placeIfZero, if_pos c_13], ht⟩) (fun q h => absurd h List.not_mem_nil) d_MT_placeIfZero_23
set_option maxHeartbeats 4000000 in
set_option maxRecDepth 100000 in
theorem c_MT_numberAt (l : Launch) (D : va_G) (G : GP) (S : CS) (k : Nat) (p1 : Int32) (N : Nat) (hI : IC N S) (hk : k < 3) : Met l y_MT_numberAt ws_MT_numberAt ({ frames := 1, cells := 0, slots := 0, locals := 21 }) (va_Pc [.ref (tA G k 0), .int p1] (rPre D G S)) (vp_Si (fun r => r = f_MT_numberAt S k p1)) 0 0 (fun _ => False) := by
  refine Met.ofW (cc := b_MT_numberAt) (maxL := 2) (ret := (some .int)) (by decide) rfl ?_
  intro p e s m args below meth c s₁ B hml hv
  obtain ⟨rfl, hP, hK, hN⟩ := hv
  have hx := B.exec
  have hb := B.bytes
  have hr := B.returns
  have hts := atoms_spec (ws := ws_MT_numberAt) B.pre
  have hown : s.vm.findClass R_MT = some m.cls := findClass_of_methodNamed B.named
  have hlocks := B.notSynchronized
  have hl := lv_entry ([.ref (tA G k 0), .int p1]) (n := 2) (Nat.le_of_ble_eq_true rfl)
  rw [lg_entry_eq]
  generalize (lg_sl ([.ref (tA G k 0), .int p1]) ++ List.replicate (2 - (lg_sl ([.ref (tA G k 0), .int p1])).length) Slot.unset).toArray = ls at hl ⊢
  have hl : lv_has ls 2 [(0, .ref (tA G k 0)), (1, .int p1)] := hl
  refine lv_aload_n hx hb d_MT_numberAt_0 rfl (lv_at hl 0 rfl) ?_
  refine lv_iload_n hx hb d_MT_numberAt_1 rfl (lv_at hl 1 rfl) ?_
  refine vp_callSi (W.runV (As := [.int p1]) (rest := []) ⟨hx, hb, hml, hown, hts⟩ (c_MT_isPlace l D G S k p1 N hI hk) (cwV 1 hts (gV kw195 kw196 kw632 kw2 kw197) rfl rfl rfl (by decide +kernel) ⟨Nat.le_of_ble_eq_true rfl, Nat.le_of_ble_eq_true rfl⟩) ⟨blindR, va_recv (ci := 1) (q0 := 13 + 7 * k) hK hP rfl (wt_0 G S hk), fun U hU hW => ⟨rfl, rPre_of hP hK hN hU hW⟩⟩ rfl rfl hl.1 rfl (lv_room (Nat.le_of_ble_eq_true rfl)) d_MT_numberAt_2 ⟨Nat.zero_le _, Nat.zero_le _⟩) (fun x2 ex2 => ?_)
  obtain ⟨ex2, bx2⟩ := ex2
  refine lv_if_eq (tgt := 17) hx hb d_MT_numberAt_5 (by decide) (fun c_5 => ?_) (fun c_5 => ?_)
  · refine lv_iconst (v := 0) hx hb d_MT_numberAt_17 (by decide) ?_
    exact W.iret (v := 0) hx hb hr (fun t ht hW => ⟨0, rfl, by subst ex2; simp only [f_MT_numberAt, if_pos c_5], ht⟩) (fun q h => absurd h List.not_mem_nil) d_MT_numberAt_18
  · refine lv_aload_n hx hb d_MT_numberAt_8 rfl (lv_at hl 0 rfl) ?_
    refine va_get (D := D) (ci := 1) (v := .ref (tA G k 2)) (C := R_MT) (T := T_MT) (N := 10) hx hb hts (fun w h => List.mem_cons_of_mem _ (in_MT w h)) hown hK hP (13 + 7 * k) (wt_0 G S hk) rfl 1 (by decide) (hts _ (List.mem_cons_of_mem _ kw23)) (fun _ h9 => h9) rfl d_MT_numberAt_9 ?_
    refine lv_iload_n hx hb d_MT_numberAt_12 rfl (lv_at hl 1 rfl) ?_
    refine va_iald (D := D) hx hb hK hP (13 + 7 * k + 2) 0 (wt_2 G S hk) rfl (pl_in hI hk (by rw [← ex2]; exact c_5)) d_MT_numberAt_13 ?_
    refine lv_topi (fun x13 ex13 => ?_)
    refine lv_goto (tgt := 18) hx hb d_MT_numberAt_14 (by decide) ?_
    exact W.iret (v := x13) hx hb hr (fun t ht hW => ⟨x13, rfl, by subst ex13; subst ex2; simp only [f_MT_numberAt, if_neg c_5], ht⟩) (fun q h => absurd h List.not_mem_nil) d_MT_numberAt_18
end
