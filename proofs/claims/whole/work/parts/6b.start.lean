/-! what stands there at the start, by program -/
theorem zn_0 : zz_sl (flatC narrow_1) 444 235 = zz_wt (.string "ToolMill$Names" 34) zS_0 := by decide +kernel
theorem zn_1 : zz_sl (flatC narrow_1) 679 54 = zz_wt (.string "ToolMill$Names" 40) zS_1 := by decide +kernel
theorem zn_2 : zz_sl (flatC narrow_1) 733 141 = zz_wt (.string "ToolMill$Names" 42) zS_2 := by decide +kernel
theorem zn_3 : zz_sl (flatC narrow_1) 874 40 = zz_wt (.string "ToolMill$Names" 44) zS_3 := by decide +kernel
theorem zn_4 : zz_sl (flatC narrow_1) 914 133 = zz_wt (.string "ToolMill$Names" 46) zS_4 := by decide +kernel
theorem zn_5 : zz_sl (flatC narrow_1) 1047 121 = zz_wt (.string "ToolMill$Names" 48) zS_5 := by decide +kernel
theorem zn_6 : zz_sl (flatC narrow_1) 1168 188 = zz_wt (.string "ToolMill" 87) zS_6 := by decide +kernel
theorem zn_7 : zz_sl (flatC narrow_1) 1356 8 = zz_wt (.string "ToolMill$Assembler" 92) zS_7 := by decide +kernel
theorem zn_8 : zz_sl (flatC narrow_1) 1364 10 = zz_wt (.string "ToolMill$Scanner" 82) zS_8 := by decide +kernel
theorem zm_0 : zz_sl (flatC narrow_1) 8 53 = zz_wr (.static "ToolMill" "BASES" "[I") zS2_0 := by decide +kernel
theorem zm_1 : zz_sl (flatC narrow_1) 62 53 = zz_wr (.static "ToolMill" "FORMS" "[I") zS2_1 := by decide +kernel
theorem zl_1 : Cond.eq (.static "java/lang/String" "COMPACT_STRINGS" "Z") (.int 1) ∈ flatC narrow_1 := List.mem_of_getElem? (i := 2) (by decide +kernel)
theorem zl_2 : Cond.isRef (.static "jdk/internal/util/Preconditions" "SIOOBE_FORMATTER" "Ljava/util/function/BiFunction;") ∈ flatC narrow_1 := List.mem_of_getElem? (i := 3) (by decide +kernel)
theorem zG_at {args : Array Value} {s : State} (b : Nat) (hts : ∀ w ∈ lw_tbl, w.before args s = true) (hgv : (Cond.and given_1 narrow_1).before args s = true) : ∃ sp : Nat → Nat, sp 999999 = b ∧ zz_GD zS zS2 zLg s.heap.size sp s := by
  have hn : ∀ w ∈ flatC narrow_1, w.before args s = true := fun w hw => flat_of_before _ hgv w (List.mem_append_right _ hw)
  have hA : ∀ a : Nat, a < s.heap.size → ¬ s.heap.size ≤ a := fun a h1 h2 => Nat.not_lt.mpr h2 h1
  obtain ⟨a0, t0, e0, o0⟩ := zz_tx (A := fun q : Nat => s.heap.size ≤ q) (tm := .string "ToolMill$Names" 34) (q := zS_0) (by decide) (fun w hw => hn w (zz_sl_in (zn_0 ▸ hw))) hA
  obtain ⟨a1, t1, e1, o1⟩ := zz_tx (A := fun q : Nat => s.heap.size ≤ q) (tm := .string "ToolMill$Names" 40) (q := zS_1) (by decide) (fun w hw => hn w (zz_sl_in (zn_1 ▸ hw))) hA
  obtain ⟨a2, t2, e2, o2⟩ := zz_tx (A := fun q : Nat => s.heap.size ≤ q) (tm := .string "ToolMill$Names" 42) (q := zS_2) (by decide) (fun w hw => hn w (zz_sl_in (zn_2 ▸ hw))) hA
  obtain ⟨a3, t3, e3, o3⟩ := zz_tx (A := fun q : Nat => s.heap.size ≤ q) (tm := .string "ToolMill$Names" 44) (q := zS_3) (by decide) (fun w hw => hn w (zz_sl_in (zn_3 ▸ hw))) hA
  obtain ⟨a4, t4, e4, o4⟩ := zz_tx (A := fun q : Nat => s.heap.size ≤ q) (tm := .string "ToolMill$Names" 46) (q := zS_4) (by decide) (fun w hw => hn w (zz_sl_in (zn_4 ▸ hw))) hA
  obtain ⟨a5, t5, e5, o5⟩ := zz_tx (A := fun q : Nat => s.heap.size ≤ q) (tm := .string "ToolMill$Names" 48) (q := zS_5) (by decide) (fun w hw => hn w (zz_sl_in (zn_5 ▸ hw))) hA
  obtain ⟨a6, t6, e6, o6⟩ := zz_tx (A := fun q : Nat => s.heap.size ≤ q) (tm := .string "ToolMill" 87) (q := zS_6) (by decide) (fun w hw => hn w (zz_sl_in (zn_6 ▸ hw))) hA
  obtain ⟨a7, t7, e7, o7⟩ := zz_tx (A := fun q : Nat => s.heap.size ≤ q) (tm := .string "ToolMill$Assembler" 92) (q := zS_7) (by decide) (fun w hw => hn w (zz_sl_in (zn_7 ▸ hw))) hA
  obtain ⟨a8, t8, e8, o8⟩ := zz_tx (A := fun q : Nat => s.heap.size ≤ q) (tm := .string "ToolMill$Scanner" 82) (q := zS_8) (by decide) (fun w hw => hn w (zz_sl_in (zn_8 ▸ hw))) hA
  obtain ⟨b0, f0, r0⟩ := zz_rx (A := fun q : Nat => s.heap.size ≤ q) (tm := .static "ToolMill" "BASES" "[I") (q := zS2_0) (by decide) (fun w hw => hn w (zz_sl_in (zm_0 ▸ hw))) hA
  obtain ⟨b1, f1, r1⟩ := zz_rx (A := fun q : Nat => s.heap.size ≤ q) (tm := .static "ToolMill" "FORMS" "[I") (q := zS2_1) (by decide) (fun w hw => hn w (zz_sl_in (zm_1 ▸ hw))) hA
  obtain ⟨u2, g2⟩ := zz_ox (hn _ zl_2)
  refine ⟨fun n => if n < 1000000 then ([a0, t0, a1, t1, a2, t2, a3, t3, a4, t4, a5, t5, a6, t6, a7, t7, a8, t8] : List Nat).getD n b else if n < 2000000 then ([b0, b1] : List Nat).getD (n - 1000000) 0 else u2, rfl, Nat.le_refl _, ?_, ?_, ?_, ?_, ?_, ?_, ?_⟩
  · intro k q h
    match k, h with
    | 0, h =>
      have h : some zS_0 = some q := h
      cases h
      exact o0
    | 1, h =>
      have h : some zS_1 = some q := h
      cases h
      exact o1
    | 2, h =>
      have h : some zS_2 = some q := h
      cases h
      exact o2
    | 3, h =>
      have h : some zS_3 = some q := h
      cases h
      exact o3
    | 4, h =>
      have h : some zS_4 = some q := h
      cases h
      exact o4
    | 5, h =>
      have h : some zS_5 = some q := h
      cases h
      exact o5
    | 6, h =>
      have h : some zS_6 = some q := h
      cases h
      exact o6
    | 7, h =>
      have h : some zS_7 = some q := h
      cases h
      exact o7
    | 8, h =>
      have h : some zS_8 = some q := h
      cases h
      exact o8
    | k + 9, h => cases h
  · intro k q h
    match k, h with
    | 0, h =>
      have h : some zS2_0 = some q := h
      cases h
      exact r0
    | 1, h =>
      have h : some zS2_1 = some q := h
      cases h
      exact r1
    | k + 2, h => cases h
  · exact List.forall_mem_cons.mpr ⟨vk_R.of (hts (Cond.stringRef "ToolMill$Names" 34 "sll srl sra sllv srlv srav jr jalr syscall break mfhi mthi mflo mtlo mult multu div divu addu subu and or xor nor slt sltu bltz bgez bltzal bgezal j jal beq bne blez bgtz addiu slti sltiu andi ori xori lui lb lh lw lbu lhu sb sh sw") (zz_tb_0 (List.mem_of_getElem? (i := 52) rfl))) e0, List.forall_mem_cons.mpr ⟨vk_R.of (hts (Cond.stringRef "ToolMill$Names" 40 "nop move not neg li la b beqz bnez blt bge bgt ble") (zz_tb_0 (List.mem_of_getElem? (i := 115) rfl))) e1, List.forall_mem_cons.mpr ⟨vk_R.of (hts (Cond.stringRef "ToolMill$Names" 42 ".text .data .globl .kind .want .word .half .byte .space .align .set .reorder .noreorder .if .ifsame .else .endif .macro .endm .rept .endr") (zz_tb_0 (List.mem_of_getElem? (i := 116) rfl))) e2, List.forall_mem_cons.mpr ⟨vk_R.of (hts (Cond.stringRef "ToolMill$Names" 44 "var proc if else while return out in") (zz_tb_0 (List.mem_of_getElem? (i := 117) rfl))) e3, List.forall_mem_cons.mpr ⟨vk_R.of (hts (Cond.stringRef "ToolMill$Names" 46 "$zero $at $v0 $v1 $a0 $a1 $a2 $a3 $t0 $t1 $t2 $t3 $t4 $t5 $t6 $t7 $s0 $s1 $s2 $s3 $s4 $s5 $s6 $s7 $t8 $t9 $k0 $k1 $gp $sp $fp $ra") (zz_tb_0 (List.mem_of_getElem? (i := 118) rfl))) e4, List.forall_mem_cons.mpr ⟨vk_R.of (hts (Cond.stringRef "ToolMill$Names" 48 "$0 $1 $2 $3 $4 $5 $6 $7 $8 $9 $10 $11 $12 $13 $14 $15 $16 $17 $18 $19 $20 $21 $22 $23 $24 $25 $26 $27 $28 $29 $30 $31") (zz_tb_0 (List.mem_of_getElem? (i := 119) rfl))) e5, List.forall_mem_cons.mpr ⟨vk_R.of (hts (Cond.stringRef "ToolMill" 87 ".text _start\n.globl _start\n_start: jal main\nmove $a0,$v0\nli $v0,10\nsyscall\n.text _traps\n.globl _div\n.globl _index\n.globl _room\n_div: break 1\n_index: break 2\n_room: break 3\n.want main,3") (zz_tb_3 (List.mem_of_getElem? (i := 120) rfl))) e6, List.forall_mem_cons.mpr ⟨vk_R.of (hts (Cond.stringRef "ToolMill$Assembler" 92 "text") (zz_tb_3 (List.mem_of_getElem? (i := 144) rfl))) e7, List.forall_mem_cons.mpr ⟨vk_R.of (hts (Cond.stringRef "ToolMill$Scanner" 82 ",:()+-") (zz_tb_4 (List.mem_of_getElem? (i := 28) rfl))) e8, (fun _ h => absurd h List.not_mem_nil)⟩⟩⟩⟩⟩⟩⟩⟩⟩
  · exact List.forall_mem_cons.mpr ⟨va_Zof (hts (Cond.laysStatic "ToolMill" "BASES" "[I") (zz_tb_0 (List.mem_of_getElem? (i := 204) rfl))) (hts (Cond.initialized "ToolMill") (zz_tb_0 (List.mem_of_getElem? (i := 1) rfl))) (f0) hA, List.forall_mem_cons.mpr ⟨va_Zof (hts (Cond.laysStatic "java/lang/String" "COMPACT_STRINGS" "Z") (zz_tb_0 (List.mem_of_getElem? (i := 66) rfl))) (hts (Cond.initialized "java/lang/String") (zz_tb_0 (List.mem_of_getElem? (i := 3) rfl))) (va_eqt (hn _ zl_1)) hA, List.forall_mem_cons.mpr ⟨va_Zof (hts (Cond.laysStatic "jdk/internal/util/Preconditions" "SIOOBE_FORMATTER" "Ljava/util/function/BiFunction;") (zz_tb_0 (List.mem_of_getElem? (i := 82) rfl))) (hts (Cond.initialized "jdk/internal/util/Preconditions") (zz_tb_0 (List.mem_of_getElem? (i := 5) rfl))) (g2) hA, List.forall_mem_cons.mpr ⟨va_Zof (hts (Cond.laysStatic "ToolMill" "FORMS" "[I") (zz_tb_4 (List.mem_of_getElem? (i := 166) rfl))) (hts (Cond.initialized "ToolMill") (zz_tb_0 (List.mem_of_getElem? (i := 1) rfl))) (f1) hA, (fun _ h => absurd h List.not_mem_nil)⟩⟩⟩⟩
  · exact List.forall_mem_cons.mpr ⟨va_Nw.of rfl (hts (Cond.fieldLinkNest "ToolMill$Codes" 38 "ToolMill" "BASES" "[I" "ToolMill") (zz_tb_0 (List.mem_of_getElem? (i := 203) rfl))), List.forall_mem_cons.mpr ⟨va_Nw.of rfl (hts (Cond.fieldLinkNest "ToolMill$Assembler" 243 "ToolMill" "FORMS" "[I" "ToolMill") (zz_tb_4 (List.mem_of_getElem? (i := 165) rfl))), List.forall_mem_cons.mpr ⟨va_Nw.of rfl (hts (Cond.fieldLinkNest "ToolMill$Assembler" 258 "ToolMill" "BASES" "[I" "ToolMill") (zz_tb_4 (List.mem_of_getElem? (i := 171) rfl))), (fun _ h => absurd h List.not_mem_nil)⟩⟩⟩
  · exact List.forall_mem_cons.mpr ⟨va_Nw.of rfl (hts (Cond.methodLinkNest "ToolMill$Scanner" 55 (⟨"ToolMill", "isDigit", "(I)Z"⟩ : MethodName) "ToolMill") (zz_tb_4 (List.mem_of_getElem? (i := 2) rfl))), List.forall_mem_cons.mpr ⟨va_Nw.of rfl (hts (Cond.methodLinkNest "ToolMill$Scanner" 62 (⟨"ToolMill", "isWordSign", "(I)Z"⟩ : MethodName) "ToolMill") (zz_tb_4 (List.mem_of_getElem? (i := 13) rfl))), List.forall_mem_cons.mpr ⟨va_Nw.of rfl (hts (Cond.methodLinkNest "ToolMill$Scanner" 99 (⟨"ToolMill", "isSmallLetter", "(I)Z"⟩ : MethodName) "ToolMill") (zz_tb_4 (List.mem_of_getElem? (i := 25) rfl))), (fun _ h => absurd h List.not_mem_nil)⟩⟩⟩
  · exact List.forall_mem_cons.mpr ⟨va_AO.of (hts (Cond.arrayOver (.object "ToolMill$Unit")) (zz_tb_0 (List.mem_of_getElem? (i := 45) rfl))), (fun _ h => absurd h List.not_mem_nil)⟩
theorem zK_at {args : Array Value} {s : State} (hts : ∀ w ∈ lw_tbl, w.before args s = true) : ∃ (D : va_G) (cy : Nat → ClassId), va_K D zcl (zTys cy) s := by
  obtain ⟨c0, i0, k0⟩ := u_known (C := zC_0) (T := zT_0) (N := 243) (n := 243) hts zUl_0 (hts (Cond.instantiable "ToolMillModel" 243) (zz_tb_10 (List.mem_of_getElem? (i := 218) rfl)))
  obtain ⟨c1, i1, k1⟩ := u_known (C := zC_1) (T := zT_1) (N := 17) (n := 17) hts zUl_1 (hts (Cond.instantiable "ToolMill" 17) (zz_tb_0 (List.mem_of_getElem? (i := 37) rfl)))
  obtain ⟨c2, i2, k2⟩ := u_known (C := zC_2) (T := zT_2) (N := 19) (n := 19) hts zUl_2 (hts (Cond.instantiable "ToolMill$Assembler" 19) (zz_tb_1 (List.mem_of_getElem? (i := 44) rfl)))
  obtain ⟨c3, i3, k3⟩ := u_known (C := zC_3) (T := zT_3) (N := 5) (n := 5) hts zUl_3 (hts (Cond.instantiable "ToolMill$Codes" 5) (zz_tb_0 (List.mem_of_getElem? (i := 164) rfl)))
  obtain ⟨c4, i4, k4⟩ := u_known (C := zC_4) (T := zT_4) (N := 16) (n := 16) hts zUl_4 (hts (Cond.instantiable "ToolMill$Draft" 16) (zz_tb_2 (List.mem_of_getElem? (i := 201) rfl)))
  obtain ⟨c5, i5, k5⟩ := u_known (C := zC_5) (T := zT_5) (N := 21) (n := 21) hts zUl_5 (hts (Cond.instantiable "ToolMill$Lines" 21) (zz_tb_1 (List.mem_of_getElem? (i := 50) rfl)))
  obtain ⟨c6, i6, k6⟩ := u_known (C := zC_6) (T := zT_6) (N := 14) (n := 14) hts zUl_6 (hts (Cond.instantiable "ToolMill$Linker" 14) (zz_tb_2 (List.mem_of_getElem? (i := 70) rfl)))
  obtain ⟨c7, i7, k7⟩ := u_known (C := zC_7) (T := zT_7) (N := 20) (n := 20) hts zUl_7 (hts (Cond.instantiable "ToolMill$Machine" 20) (zz_tb_1 (List.mem_of_getElem? (i := 230) rfl)))
  obtain ⟨c8, i8, k8⟩ := u_known (C := zC_8) (T := zT_8) (N := 21) (n := 21) hts zUl_8 (hts (Cond.instantiable "ToolMill$Meaning" 21) (zz_tb_2 (List.mem_of_getElem? (i := 123) rfl)))
  obtain ⟨c9, i9, k9⟩ := u_known (C := zC_9) (T := zT_9) (N := 9) (n := 9) hts zUl_9 (hts (Cond.instantiable "ToolMill$Names" 9) (zz_tb_0 (List.mem_of_getElem? (i := 47) rfl)))
  obtain ⟨c10, i10, k10⟩ := u_known (C := zC_10) (T := zT_10) (N := 17) (n := 17) hts zUl_10 (hts (Cond.instantiable "ToolMill$Reader" 17) (zz_tb_0 (List.mem_of_getElem? (i := 222) rfl)))
  obtain ⟨c11, i11, k11⟩ := u_known (C := zC_11) (T := zT_11) (N := 12) (n := 12) hts zUl_11 (hts (Cond.instantiable "ToolMill$Scanner" 12) (zz_tb_1 (List.mem_of_getElem? (i := 124) rfl)))
  obtain ⟨c12, i12, k12⟩ := u_known (C := zC_12) (T := zT_12) (N := 16) (n := 16) hts zUl_12 (hts (Cond.instantiable "ToolMill$Unit" 16) (zz_tb_2 (List.mem_of_getElem? (i := 199) rfl)))
  obtain ⟨c13, i13, k13⟩ := u_known (C := zC_13) (T := zT_13) (N := 4) (n := 4) hts zUl_13 (hts (Cond.instantiable "java/lang/StringBuilder" 4) (zz_tb_0 (List.mem_of_getElem? (i := 170) rfl)))
  obtain ⟨y0, p0⟩ := zz_arI (hts (Cond.arrayClass .int) (zz_tb_0 (List.mem_of_getElem? (i := 161) rfl)))
  obtain ⟨y1, p1⟩ := zz_arB (hts (Cond.arrayClass .byte) (zz_tb_0 (List.mem_of_getElem? (i := 160) rfl)))
  obtain ⟨y2, p2⟩ := zz_arZ (hts (Cond.arrayClass .boolean) (zz_tb_16 (List.mem_of_getElem? (i := 57) rfl)))
  obtain ⟨y3, p3⟩ := zz_arL (hts (Cond.arrayClass .long) (zz_tb_0 (List.mem_of_getElem? (i := 162) rfl)))
  obtain ⟨y4, p4⟩ := zz_arO (hts (Cond.arrayOver (.object "ToolMill$Unit")) (zz_tb_0 (List.mem_of_getElem? (i := 45) rfl)))
  refine ⟨(fun c => ([c0, c1, c2, c3, c4, c5, c6, c7, c8, c9, c10, c11, c12, c13] : List ClassId).getD c c0, fun c => ([i0, i1, i2, i3, i4, i5, i6, i7, i8, i9, i10, i11, i12, i13] : List (Nat → Nat)).getD c i0), fun t => ([y0, y1, y2, y3, y4] : List ClassId).getD t y0, ?_, ?_⟩
  · intro c q h
    match c, h with
    | 0, h =>
      have h : some (zC_0, zT_0, 243) = some q := h
      cases h
      exact k0
    | 1, h =>
      have h : some (zC_1, zT_1, 17) = some q := h
      cases h
      exact k1
    | 2, h =>
      have h : some (zC_2, zT_2, 19) = some q := h
      cases h
      exact k2
    | 3, h =>
      have h : some (zC_3, zT_3, 5) = some q := h
      cases h
      exact k3
    | 4, h =>
      have h : some (zC_4, zT_4, 16) = some q := h
      cases h
      exact k4
    | 5, h =>
      have h : some (zC_5, zT_5, 21) = some q := h
      cases h
      exact k5
    | 6, h =>
      have h : some (zC_6, zT_6, 14) = some q := h
      cases h
      exact k6
    | 7, h =>
      have h : some (zC_7, zT_7, 20) = some q := h
      cases h
      exact k7
    | 8, h =>
      have h : some (zC_8, zT_8, 21) = some q := h
      cases h
      exact k8
    | 9, h =>
      have h : some (zC_9, zT_9, 9) = some q := h
      cases h
      exact k9
    | 10, h =>
      have h : some (zC_10, zT_10, 17) = some q := h
      cases h
      exact k10
    | 11, h =>
      have h : some (zC_11, zT_11, 12) = some q := h
      cases h
      exact k11
    | 12, h =>
      have h : some (zC_12, zT_12, 16) = some q := h
      cases h
      exact k12
    | 13, h =>
      have h : some (zC_13, zT_13, 4) = some q := h
      cases h
      exact k13
    | c + 14, h => cases h
  · intro c q h
    match c, h with
    | 0, h =>
      cases h
      exact p0
    | 1, h =>
      cases h
      exact p1
    | 2, h =>
      cases h
      exact p2
    | 3, h =>
      cases h
      exact p3
    | 4, h =>
      cases h
      exact p4
    | c + 5, h => cases h
