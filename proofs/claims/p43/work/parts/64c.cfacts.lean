/-! printed: what is asked of each method once -/
theorem me_J7_fill_53178 : xMT[0]? = some (qe_J7_fill_53178, te_J7_fill_53178) := rfl
theorem he_J7_fill_53178 : qe_J7_fill_53178.1.cls ≠ "java/lang/invoke/MethodHandle" ∧ qe_J7_fill_53178.1.cls ≠ "java/lang/invoke/VarHandle" ∧ (parseMethodDescriptor qe_J7_fill_53178.1.desc).map (fun d => d.parameters.length) = some 2 := ⟨by decide +kernel, by decide +kernel, by decide +kernel⟩
theorem pe_J7_fill_53178 : plainName qe_J7_fill_53178.1.cls = true := by decide +kernel
theorem me_X0_init : xMT[1]? = some (qe_X0_init, te_X0_init) := rfl
theorem he_X0_init : qe_X0_init.1.cls ≠ "java/lang/invoke/MethodHandle" ∧ qe_X0_init.1.cls ≠ "java/lang/invoke/VarHandle" ∧ (parseMethodDescriptor qe_X0_init.1.desc).map (fun d => d.parameters.length) = some 0 := ⟨by decide +kernel, by decide +kernel, by decide +kernel⟩
theorem pe_X0_init : plainName qe_X0_init.1.cls = true := by decide +kernel
theorem me_X1_init : xMT[2]? = some (qe_X1_init, te_X1_init) := rfl
theorem he_X1_init : qe_X1_init.1.cls ≠ "java/lang/invoke/MethodHandle" ∧ qe_X1_init.1.cls ≠ "java/lang/invoke/VarHandle" ∧ (parseMethodDescriptor qe_X1_init.1.desc).map (fun d => d.parameters.length) = some 1 := ⟨by decide +kernel, by decide +kernel, by decide +kernel⟩
theorem pe_X1_init : plainName qe_X1_init.1.cls = true := by decide +kernel
theorem me_X2_becomePlains : xMT[3]? = some (qe_X2_becomePlains, te_X2_becomePlains) := rfl
theorem he_X2_becomePlains : qe_X2_becomePlains.1.cls ≠ "java/lang/invoke/MethodHandle" ∧ qe_X2_becomePlains.1.cls ≠ "java/lang/invoke/VarHandle" ∧ (parseMethodDescriptor qe_X2_becomePlains.1.desc).map (fun d => d.parameters.length) = some 2 := ⟨by decide +kernel, by decide +kernel, by decide +kernel⟩
theorem pe_X2_becomePlains : plainName qe_X2_becomePlains.1.cls = true := by decide +kernel
theorem me_X2_clear : xMT[4]? = some (qe_X2_clear, te_X2_clear) := rfl
theorem he_X2_clear : qe_X2_clear.1.cls ≠ "java/lang/invoke/MethodHandle" ∧ qe_X2_clear.1.cls ≠ "java/lang/invoke/VarHandle" ∧ (parseMethodDescriptor qe_X2_clear.1.desc).map (fun d => d.parameters.length) = some 0 := ⟨by decide +kernel, by decide +kernel, by decide +kernel⟩
theorem pe_X2_clear : plainName qe_X2_clear.1.cls = true := by decide +kernel
theorem me_X2_init : xMT[5]? = some (qe_X2_init, te_X2_init) := rfl
theorem he_X2_init : qe_X2_init.1.cls ≠ "java/lang/invoke/MethodHandle" ∧ qe_X2_init.1.cls ≠ "java/lang/invoke/VarHandle" ∧ (parseMethodDescriptor qe_X2_init.1.desc).map (fun d => d.parameters.length) = some 0 := ⟨by decide +kernel, by decide +kernel, by decide +kernel⟩
theorem pe_X2_init : plainName qe_X2_init.1.cls = true := by decide +kernel
theorem me_X3_init : xMT[6]? = some (qe_X3_init, te_X3_init) := rfl
theorem he_X3_init : qe_X3_init.1.cls ≠ "java/lang/invoke/MethodHandle" ∧ qe_X3_init.1.cls ≠ "java/lang/invoke/VarHandle" ∧ (parseMethodDescriptor qe_X3_init.1.desc).map (fun d => d.parameters.length) = some 1 := ⟨by decide +kernel, by decide +kernel, by decide +kernel⟩
theorem pe_X3_init : plainName qe_X3_init.1.cls = true := by decide +kernel
theorem me_X4_init : xMT[7]? = some (qe_X4_init, te_X4_init) := rfl
theorem he_X4_init : qe_X4_init.1.cls ≠ "java/lang/invoke/MethodHandle" ∧ qe_X4_init.1.cls ≠ "java/lang/invoke/VarHandle" ∧ (parseMethodDescriptor qe_X4_init.1.desc).map (fun d => d.parameters.length) = some 0 := ⟨by decide +kernel, by decide +kernel, by decide +kernel⟩
theorem pe_X4_init : plainName qe_X4_init.1.cls = true := by decide +kernel
theorem me_X5_forget : xMT[8]? = some (qe_X5_forget, te_X5_forget) := rfl
theorem he_X5_forget : qe_X5_forget.1.cls ≠ "java/lang/invoke/MethodHandle" ∧ qe_X5_forget.1.cls ≠ "java/lang/invoke/VarHandle" ∧ (parseMethodDescriptor qe_X5_forget.1.desc).map (fun d => d.parameters.length) = some 0 := ⟨by decide +kernel, by decide +kernel, by decide +kernel⟩
theorem pe_X5_forget : plainName qe_X5_forget.1.cls = true := by decide +kernel
theorem me_X5_init : xMT[9]? = some (qe_X5_init, te_X5_init) := rfl
theorem he_X5_init : qe_X5_init.1.cls ≠ "java/lang/invoke/MethodHandle" ∧ qe_X5_init.1.cls ≠ "java/lang/invoke/VarHandle" ∧ (parseMethodDescriptor qe_X5_init.1.desc).map (fun d => d.parameters.length) = some 0 := ⟨by decide +kernel, by decide +kernel, by decide +kernel⟩
theorem pe_X5_init : plainName qe_X5_init.1.cls = true := by decide +kernel
theorem me_X6_init : xMT[10]? = some (qe_X6_init, te_X6_init) := rfl
theorem he_X6_init : qe_X6_init.1.cls ≠ "java/lang/invoke/MethodHandle" ∧ qe_X6_init.1.cls ≠ "java/lang/invoke/VarHandle" ∧ (parseMethodDescriptor qe_X6_init.1.desc).map (fun d => d.parameters.length) = some 1 := ⟨by decide +kernel, by decide +kernel, by decide +kernel⟩
theorem pe_X6_init : plainName qe_X6_init.1.cls = true := by decide +kernel
theorem me_X7_init : xMT[11]? = some (qe_X7_init, te_X7_init) := rfl
theorem he_X7_init : qe_X7_init.1.cls ≠ "java/lang/invoke/MethodHandle" ∧ qe_X7_init.1.cls ≠ "java/lang/invoke/VarHandle" ∧ (parseMethodDescriptor qe_X7_init.1.desc).map (fun d => d.parameters.length) = some 1 := ⟨by decide +kernel, by decide +kernel, by decide +kernel⟩
theorem pe_X7_init : plainName qe_X7_init.1.cls = true := by decide +kernel
theorem me_X8_init : xMT[12]? = some (qe_X8_init, te_X8_init) := rfl
theorem he_X8_init : qe_X8_init.1.cls ≠ "java/lang/invoke/MethodHandle" ∧ qe_X8_init.1.cls ≠ "java/lang/invoke/VarHandle" ∧ (parseMethodDescriptor qe_X8_init.1.desc).map (fun d => d.parameters.length) = some 0 := ⟨by decide +kernel, by decide +kernel, by decide +kernel⟩
theorem pe_X8_init : plainName qe_X8_init.1.cls = true := by decide +kernel
theorem me_X9_init : xMT[13]? = some (qe_X9_init, te_X9_init) := rfl
theorem he_X9_init : qe_X9_init.1.cls ≠ "java/lang/invoke/MethodHandle" ∧ qe_X9_init.1.cls ≠ "java/lang/invoke/VarHandle" ∧ (parseMethodDescriptor qe_X9_init.1.desc).map (fun d => d.parameters.length) = some 0 := ⟨by decide +kernel, by decide +kernel, by decide +kernel⟩
theorem pe_X9_init : plainName qe_X9_init.1.cls = true := by decide +kernel
theorem me_X10_init : xMT[14]? = some (qe_X10_init, te_X10_init) := rfl
theorem he_X10_init : qe_X10_init.1.cls ≠ "java/lang/invoke/MethodHandle" ∧ qe_X10_init.1.cls ≠ "java/lang/invoke/VarHandle" ∧ (parseMethodDescriptor qe_X10_init.1.desc).map (fun d => d.parameters.length) = some 0 := ⟨by decide +kernel, by decide +kernel, by decide +kernel⟩
theorem pe_X10_init : plainName qe_X10_init.1.cls = true := by decide +kernel
theorem me_X11_init : xMT[15]? = some (qe_X11_init, te_X11_init) := rfl
theorem he_X11_init : qe_X11_init.1.cls ≠ "java/lang/invoke/MethodHandle" ∧ qe_X11_init.1.cls ≠ "java/lang/invoke/VarHandle" ∧ (parseMethodDescriptor qe_X11_init.1.desc).map (fun d => d.parameters.length) = some 0 := ⟨by decide +kernel, by decide +kernel, by decide +kernel⟩
theorem pe_X11_init : plainName qe_X11_init.1.cls = true := by decide +kernel
theorem me_X12_init : xMT[16]? = some (qe_X12_init, te_X12_init) := rfl
theorem he_X12_init : qe_X12_init.1.cls ≠ "java/lang/invoke/MethodHandle" ∧ qe_X12_init.1.cls ≠ "java/lang/invoke/VarHandle" ∧ (parseMethodDescriptor qe_X12_init.1.desc).map (fun d => d.parameters.length) = some 0 := ⟨by decide +kernel, by decide +kernel, by decide +kernel⟩
theorem pe_X12_init : plainName qe_X12_init.1.cls = true := by decide +kernel
