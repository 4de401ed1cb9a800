theorem d_X0_init : msD sX0_init = 2 := rfl
theorem rt_X0_init : sX0_init.2.2.2.1 = none := rfl
theorem co_X0_init : (sX0_init.2.2.2.2.2.2.2.1 = 13) ∧ sX0_init.2.2.2.2.2.2.2.2 = 1396 := ⟨rfl, rfl⟩
theorem c_X0_init {x : CX} {q : MS} {as rest : List Value} {h : MH} {xk : String → MH → Prop} {b : Nat × Nat} {K : Nat × Nat → List Value → MH → Prop} : (callE x q sX0_init as rest h xk b K) = (catS rest ≤ 8 ∧ 2 < msD q ∧ (13 ≤ b.1 ∧ 1396 ≤ b.2) ∧ CALLV x sX0_init as h xk (fun h' => K (b.1 - 13, b.2 - 1396) rest h')) := propext ⟨fun ⟨a1, a2, _, a4, a5, a6⟩ => ⟨a1, a2, ⟨a4, a5⟩, a6⟩, fun ⟨a1, a2, ⟨a4, a5⟩, a6⟩ => ⟨a1, a2, by decide, a4, a5, a6⟩⟩
theorem d_X0_explore : msD sX0_explore = 4 := rfl
theorem rt_X0_explore : sX0_explore.2.2.2.1 = none := rfl
theorem co_X0_explore : (sX0_explore.2.2.2.2.2.2.2.1 = 0) ∧ sX0_explore.2.2.2.2.2.2.2.2 = 0 := ⟨rfl, rfl⟩
theorem in_X0_explore : ¬ isIn sX0_explore := show ¬ ("explore" = "<init>") by decide
theorem c_X0_explore {x : CX} {q : MS} {as rest : List Value} {h : MH} {xk : String → MH → Prop} {b : Nat × Nat} {K : Nat × Nat → List Value → MH → Prop} : (callE x q sX0_explore as rest h xk b K) = (catS rest ≤ 8 ∧ 4 < msD q ∧ CALLV x sX0_explore as h xk (fun h' => K b rest h')) := propext ⟨fun ⟨a1, a2, _, _, _, a6⟩ => ⟨a1, a2, a6⟩, fun ⟨a1, a2, a6⟩ => ⟨a1, a2, by decide, Nat.zero_le _, Nat.zero_le _, a6⟩⟩
theorem d_X0_start : msD sX0_start = 2 := rfl
theorem rt_X0_start : sX0_start.2.2.2.1 = none := rfl
theorem co_X0_start : (sX0_start.2.2.2.2.2.2.2.1 = 0) ∧ sX0_start.2.2.2.2.2.2.2.2 = 0 := ⟨rfl, rfl⟩
theorem in_X0_start : ¬ isIn sX0_start := show ¬ ("start" = "<init>") by decide
theorem c_X0_start {x : CX} {q : MS} {as rest : List Value} {h : MH} {xk : String → MH → Prop} {b : Nat × Nat} {K : Nat × Nat → List Value → MH → Prop} : (callE x q sX0_start as rest h xk b K) = (catS rest ≤ 8 ∧ 2 < msD q ∧ CALLV x sX0_start as h xk (fun h' => K b rest h')) := propext ⟨fun ⟨a1, a2, _, _, _, a6⟩ => ⟨a1, a2, a6⟩, fun ⟨a1, a2, a6⟩ => ⟨a1, a2, by decide, Nat.zero_le _, Nat.zero_le _, a6⟩⟩
theorem d_X0_visit : msD sX0_visit = 3 := rfl
theorem rt_X0_visit : sX0_visit.2.2.2.1 = none := rfl
theorem co_X0_visit : (sX0_visit.2.2.2.2.2.2.2.1 = 0) ∧ sX0_visit.2.2.2.2.2.2.2.2 = 0 := ⟨rfl, rfl⟩
theorem in_X0_visit : ¬ isIn sX0_visit := show ¬ ("visit" = "<init>") by decide
theorem c_X0_visit {x : CX} {q : MS} {as rest : List Value} {h : MH} {xk : String → MH → Prop} {b : Nat × Nat} {K : Nat × Nat → List Value → MH → Prop} : (callE x q sX0_visit as rest h xk b K) = (catS rest ≤ 8 ∧ 3 < msD q ∧ CALLV x sX0_visit as h xk (fun h' => K b rest h')) := propext ⟨fun ⟨a1, a2, _, _, _, a6⟩ => ⟨a1, a2, a6⟩, fun ⟨a1, a2, a6⟩ => ⟨a1, a2, by decide, Nat.zero_le _, Nat.zero_le _, a6⟩⟩
theorem d_X0_slotOf : msD sX0_slotOf = 0 := rfl
theorem rt_X0_slotOf : sX0_slotOf.2.2.2.1 = some FieldType.int := rfl
theorem co_X0_slotOf : (sX0_slotOf.2.2.2.2.2.2.2.1 = 0) ∧ sX0_slotOf.2.2.2.2.2.2.2.2 = 0 := ⟨rfl, rfl⟩
theorem in_X0_slotOf : ¬ isIn sX0_slotOf := show ¬ ("slotOf" = "<init>") by decide
theorem c_X0_slotOf {x : CX} {q : MS} {as rest : List Value} {h : MH} {xk : String → MH → Prop} {b : Nat × Nat} {K : Nat × Nat → List Value → MH → Prop} : (callE x q sX0_slotOf as rest h xk b K) = (catS rest ≤ 8 ∧ 0 < msD q ∧ CALLI x sX0_slotOf as h xk (fun r h' => K b (.int r :: rest) h')) := propext ⟨fun ⟨a1, a2, _, _, _, a6⟩ => ⟨a1, a2, a6⟩, fun ⟨a1, a2, a6⟩ => ⟨a1, a2, by decide, Nat.zero_le _, Nat.zero_le _, a6⟩⟩
theorem d_X0_tokensIn : msD sX0_tokensIn = 1 := rfl
theorem rt_X0_tokensIn : sX0_tokensIn.2.2.2.1 = some FieldType.int := rfl
theorem co_X0_tokensIn : (sX0_tokensIn.2.2.2.2.2.2.2.1 = 0) ∧ sX0_tokensIn.2.2.2.2.2.2.2.2 = 0 := ⟨rfl, rfl⟩
theorem in_X0_tokensIn : ¬ isIn sX0_tokensIn := show ¬ ("tokensIn" = "<init>") by decide
theorem c_X0_tokensIn {x : CX} {q : MS} {as rest : List Value} {h : MH} {xk : String → MH → Prop} {b : Nat × Nat} {K : Nat × Nat → List Value → MH → Prop} : (callE x q sX0_tokensIn as rest h xk b K) = (catS rest ≤ 8 ∧ 1 < msD q ∧ CALLI x sX0_tokensIn as h xk (fun r h' => K b (.int r :: rest) h')) := propext ⟨fun ⟨a1, a2, _, _, _, a6⟩ => ⟨a1, a2, a6⟩, fun ⟨a1, a2, a6⟩ => ⟨a1, a2, by decide, Nat.zero_le _, Nat.zero_le _, a6⟩⟩
theorem d_X0_isEnabledIn : msD sX0_isEnabledIn = 0 := rfl
theorem rt_X0_isEnabledIn : sX0_isEnabledIn.2.2.2.1 = some FieldType.boolean := rfl
theorem co_X0_isEnabledIn : (sX0_isEnabledIn.2.2.2.2.2.2.2.1 = 0) ∧ sX0_isEnabledIn.2.2.2.2.2.2.2.2 = 0 := ⟨rfl, rfl⟩
theorem in_X0_isEnabledIn : ¬ isIn sX0_isEnabledIn := show ¬ ("isEnabledIn" = "<init>") by decide
theorem c_X0_isEnabledIn {x : CX} {q : MS} {as rest : List Value} {h : MH} {xk : String → MH → Prop} {b : Nat × Nat} {K : Nat × Nat → List Value → MH → Prop} : (callE x q sX0_isEnabledIn as rest h xk b K) = (catS rest ≤ 8 ∧ 0 < msD q ∧ CALLI x sX0_isEnabledIn as h xk (fun r h' => K b (.int r :: rest) h')) := propext ⟨fun ⟨a1, a2, _, _, _, a6⟩ => ⟨a1, a2, a6⟩, fun ⟨a1, a2, a6⟩ => ⟨a1, a2, by decide, Nat.zero_le _, Nat.zero_le _, a6⟩⟩
theorem d_X0_leadsHome : msD sX0_leadsHome = 1 := rfl
theorem rt_X0_leadsHome : sX0_leadsHome.2.2.2.1 = some FieldType.boolean := rfl
theorem co_X0_leadsHome : (sX0_leadsHome.2.2.2.2.2.2.2.1 = 0) ∧ sX0_leadsHome.2.2.2.2.2.2.2.2 = 0 := ⟨rfl, rfl⟩
theorem in_X0_leadsHome : ¬ isIn sX0_leadsHome := show ¬ ("leadsHome" = "<init>") by decide
theorem c_X0_leadsHome {x : CX} {q : MS} {as rest : List Value} {h : MH} {xk : String → MH → Prop} {b : Nat × Nat} {K : Nat × Nat → List Value → MH → Prop} : (callE x q sX0_leadsHome as rest h xk b K) = (catS rest ≤ 8 ∧ 1 < msD q ∧ CALLI x sX0_leadsHome as h xk (fun r h' => K b (.int r :: rest) h')) := propext ⟨fun ⟨a1, a2, _, _, _, a6⟩ => ⟨a1, a2, a6⟩, fun ⟨a1, a2, a6⟩ => ⟨a1, a2, by decide, Nat.zero_le _, Nat.zero_le _, a6⟩⟩
theorem d_X0_keepsTokensOf : msD sX0_keepsTokensOf = 3 := rfl
theorem rt_X0_keepsTokensOf : sX0_keepsTokensOf.2.2.2.1 = some FieldType.boolean := rfl
theorem co_X0_keepsTokensOf : (sX0_keepsTokensOf.2.2.2.2.2.2.2.1 = 0) ∧ sX0_keepsTokensOf.2.2.2.2.2.2.2.2 = 0 := ⟨rfl, rfl⟩
theorem in_X0_keepsTokensOf : ¬ isIn sX0_keepsTokensOf := show ¬ ("keepsTokensOf" = "<init>") by decide
theorem c_X0_keepsTokensOf {x : CX} {q : MS} {as rest : List Value} {h : MH} {xk : String → MH → Prop} {b : Nat × Nat} {K : Nat × Nat → List Value → MH → Prop} : (callE x q sX0_keepsTokensOf as rest h xk b K) = (catS rest ≤ 8 ∧ 3 < msD q ∧ CALLI x sX0_keepsTokensOf as h xk (fun r h' => K b (.int r :: rest) h')) := propext ⟨fun ⟨a1, a2, _, _, _, a6⟩ => ⟨a1, a2, a6⟩, fun ⟨a1, a2, a6⟩ => ⟨a1, a2, by decide, Nat.zero_le _, Nat.zero_le _, a6⟩⟩
theorem d_X0_tokensOf : msD sX0_tokensOf = 2 := rfl
theorem rt_X0_tokensOf : sX0_tokensOf.2.2.2.1 = some FieldType.int := rfl
theorem co_X0_tokensOf : (sX0_tokensOf.2.2.2.2.2.2.2.1 = 0) ∧ sX0_tokensOf.2.2.2.2.2.2.2.2 = 0 := ⟨rfl, rfl⟩
theorem in_X0_tokensOf : ¬ isIn sX0_tokensOf := show ¬ ("tokensOf" = "<init>") by decide
theorem c_X0_tokensOf {x : CX} {q : MS} {as rest : List Value} {h : MH} {xk : String → MH → Prop} {b : Nat × Nat} {K : Nat × Nat → List Value → MH → Prop} : (callE x q sX0_tokensOf as rest h xk b K) = (catS rest ≤ 8 ∧ 2 < msD q ∧ CALLI x sX0_tokensOf as h xk (fun r h' => K b (.int r :: rest) h')) := propext ⟨fun ⟨a1, a2, _, _, _, a6⟩ => ⟨a1, a2, a6⟩, fun ⟨a1, a2, a6⟩ => ⟨a1, a2, by decide, Nat.zero_le _, Nat.zero_le _, a6⟩⟩
theorem d_X1_init : msD sX1_init = 2 := rfl
theorem rt_X1_init : sX1_init.2.2.2.1 = none := rfl
theorem co_X1_init : (sX1_init.2.2.2.2.2.2.2.1 = 71) ∧ sX1_init.2.2.2.2.2.2.2.2 = 2750 := ⟨rfl, rfl⟩
theorem c_X1_init {x : CX} {q : MS} {as rest : List Value} {h : MH} {xk : String → MH → Prop} {b : Nat × Nat} {K : Nat × Nat → List Value → MH → Prop} : (callE x q sX1_init as rest h xk b K) = (catS rest ≤ 8 ∧ 2 < msD q ∧ (71 ≤ b.1 ∧ 2750 ≤ b.2) ∧ CALLV x sX1_init as h xk (fun h' => K (b.1 - 71, b.2 - 2750) rest h')) := propext ⟨fun ⟨a1, a2, _, a4, a5, a6⟩ => ⟨a1, a2, ⟨a4, a5⟩, a6⟩, fun ⟨a1, a2, ⟨a4, a5⟩, a6⟩ => ⟨a1, a2, by decide, a4, a5, a6⟩⟩
theorem d_X1_push : msD sX1_push = 2 := rfl
theorem rt_X1_push : sX1_push.2.2.2.1 = none := rfl
theorem co_X1_push : (sX1_push.2.2.2.2.2.2.2.1 = 0) ∧ sX1_push.2.2.2.2.2.2.2.2 = 0 := ⟨rfl, rfl⟩
theorem in_X1_push : ¬ isIn sX1_push := show ¬ ("push" = "<init>") by decide
theorem c_X1_push {x : CX} {q : MS} {as rest : List Value} {h : MH} {xk : String → MH → Prop} {b : Nat × Nat} {K : Nat × Nat → List Value → MH → Prop} : (callE x q sX1_push as rest h xk b K) = (catS rest ≤ 8 ∧ 2 < msD q ∧ CALLV x sX1_push as h xk (fun h' => K b rest h')) := propext ⟨fun ⟨a1, a2, _, _, _, a6⟩ => ⟨a1, a2, a6⟩, fun ⟨a1, a2, a6⟩ => ⟨a1, a2, by decide, Nat.zero_le _, Nat.zero_le _, a6⟩⟩
theorem d_X1_popInto : msD sX1_popInto = 2 := rfl
theorem rt_X1_popInto : sX1_popInto.2.2.2.1 = none := rfl
theorem co_X1_popInto : (sX1_popInto.2.2.2.2.2.2.2.1 = 0) ∧ sX1_popInto.2.2.2.2.2.2.2.2 = 0 := ⟨rfl, rfl⟩
theorem in_X1_popInto : ¬ isIn sX1_popInto := show ¬ ("popInto" = "<init>") by decide
theorem c_X1_popInto {x : CX} {q : MS} {as rest : List Value} {h : MH} {xk : String → MH → Prop} {b : Nat × Nat} {K : Nat × Nat → List Value → MH → Prop} : (callE x q sX1_popInto as rest h xk b K) = (catS rest ≤ 8 ∧ 2 < msD q ∧ CALLV x sX1_popInto as h xk (fun h' => K b rest h')) := propext ⟨fun ⟨a1, a2, _, _, _, a6⟩ => ⟨a1, a2, a6⟩, fun ⟨a1, a2, a6⟩ => ⟨a1, a2, by decide, Nat.zero_le _, Nat.zero_le _, a6⟩⟩
theorem d_X1_forgetAll : msD sX1_forgetAll = 0 := rfl
theorem rt_X1_forgetAll : sX1_forgetAll.2.2.2.1 = none := rfl
theorem co_X1_forgetAll : (sX1_forgetAll.2.2.2.2.2.2.2.1 = 0) ∧ sX1_forgetAll.2.2.2.2.2.2.2.2 = 0 := ⟨rfl, rfl⟩
theorem in_X1_forgetAll : ¬ isIn sX1_forgetAll := show ¬ ("forgetAll" = "<init>") by decide
theorem c_X1_forgetAll {x : CX} {q : MS} {as rest : List Value} {h : MH} {xk : String → MH → Prop} {b : Nat × Nat} {K : Nat × Nat → List Value → MH → Prop} : (callE x q sX1_forgetAll as rest h xk b K) = (catS rest ≤ 8 ∧ 0 < msD q ∧ CALLV x sX1_forgetAll as h xk (fun h' => K b rest h')) := propext ⟨fun ⟨a1, a2, _, _, _, a6⟩ => ⟨a1, a2, a6⟩, fun ⟨a1, a2, a6⟩ => ⟨a1, a2, by decide, Nat.zero_le _, Nat.zero_le _, a6⟩⟩
theorem d_X2_init : msD sX2_init = 1 := rfl
theorem rt_X2_init : sX2_init.2.2.2.1 = none := rfl
theorem co_X2_init : (sX2_init.2.2.2.2.2.2.2.1 = 6) ∧ sX2_init.2.2.2.2.2.2.2.2 = 266 := ⟨rfl, rfl⟩
theorem c_X2_init {x : CX} {q : MS} {as rest : List Value} {h : MH} {xk : String → MH → Prop} {b : Nat × Nat} {K : Nat × Nat → List Value → MH → Prop} : (callE x q sX2_init as rest h xk b K) = (catS rest ≤ 8 ∧ 1 < msD q ∧ (6 ≤ b.1 ∧ 266 ≤ b.2) ∧ CALLV x sX2_init as h xk (fun h' => K (b.1 - 6, b.2 - 266) rest h')) := propext ⟨fun ⟨a1, a2, _, a4, a5, a6⟩ => ⟨a1, a2, ⟨a4, a5⟩, a6⟩, fun ⟨a1, a2, ⟨a4, a5⟩, a6⟩ => ⟨a1, a2, by decide, a4, a5, a6⟩⟩
theorem d_X2_arc : msD sX2_arc = 0 := rfl
theorem rt_X2_arc : sX2_arc.2.2.2.1 = some FieldType.int := rfl
theorem co_X2_arc : (sX2_arc.2.2.2.2.2.2.2.1 = 0) ∧ sX2_arc.2.2.2.2.2.2.2.2 = 0 := ⟨rfl, rfl⟩
theorem in_X2_arc : ¬ isIn sX2_arc := show ¬ ("arc" = "<init>") by decide
theorem c_X2_arc {x : CX} {q : MS} {as rest : List Value} {h : MH} {xk : String → MH → Prop} {b : Nat × Nat} {K : Nat × Nat → List Value → MH → Prop} : (callE x q sX2_arc as rest h xk b K) = (catS rest ≤ 8 ∧ 0 < msD q ∧ CALLI x sX2_arc as h xk (fun r h' => K b (.int r :: rest) h')) := propext ⟨fun ⟨a1, a2, _, _, _, a6⟩ => ⟨a1, a2, a6⟩, fun ⟨a1, a2, a6⟩ => ⟨a1, a2, by decide, Nat.zero_le _, Nat.zero_le _, a6⟩⟩
theorem d_X2_clear : msD sX2_clear = 0 := rfl
theorem rt_X2_clear : sX2_clear.2.2.2.1 = none := rfl
theorem co_X2_clear : (sX2_clear.2.2.2.2.2.2.2.1 = 0) ∧ sX2_clear.2.2.2.2.2.2.2.2 = 0 := ⟨rfl, rfl⟩
theorem in_X2_clear : ¬ isIn sX2_clear := show ¬ ("clear" = "<init>") by decide
theorem c_X2_clear {x : CX} {q : MS} {as rest : List Value} {h : MH} {xk : String → MH → Prop} {b : Nat × Nat} {K : Nat × Nat → List Value → MH → Prop} : (callE x q sX2_clear as rest h xk b K) = (catS rest ≤ 8 ∧ 0 < msD q ∧ CALLV x sX2_clear as h xk (fun h' => K b rest h')) := propext ⟨fun ⟨a1, a2, _, _, _, a6⟩ => ⟨a1, a2, a6⟩, fun ⟨a1, a2, a6⟩ => ⟨a1, a2, by decide, Nat.zero_le _, Nat.zero_le _, a6⟩⟩
theorem d_X2_copyFrom : msD sX2_copyFrom = 1 := rfl
theorem rt_X2_copyFrom : sX2_copyFrom.2.2.2.1 = none := rfl
theorem co_X2_copyFrom : (sX2_copyFrom.2.2.2.2.2.2.2.1 = 0) ∧ sX2_copyFrom.2.2.2.2.2.2.2.2 = 0 := ⟨rfl, rfl⟩
theorem in_X2_copyFrom : ¬ isIn sX2_copyFrom := show ¬ ("copyFrom" = "<init>") by decide
theorem c_X2_copyFrom {x : CX} {q : MS} {as rest : List Value} {h : MH} {xk : String → MH → Prop} {b : Nat × Nat} {K : Nat × Nat → List Value → MH → Prop} : (callE x q sX2_copyFrom as rest h xk b K) = (catS rest ≤ 8 ∧ 1 < msD q ∧ CALLV x sX2_copyFrom as h xk (fun h' => K b rest h')) := propext ⟨fun ⟨a1, a2, _, _, _, a6⟩ => ⟨a1, a2, a6⟩, fun ⟨a1, a2, a6⟩ => ⟨a1, a2, by decide, Nat.zero_le _, Nat.zero_le _, a6⟩⟩
theorem d_X2_swapInputsAndOutputs : msD sX2_swapInputsAndOutputs = 0 := rfl
theorem rt_X2_swapInputsAndOutputs : sX2_swapInputsAndOutputs.2.2.2.1 = none := rfl
theorem co_X2_swapInputsAndOutputs : (sX2_swapInputsAndOutputs.2.2.2.2.2.2.2.1 = 0) ∧ sX2_swapInputsAndOutputs.2.2.2.2.2.2.2.2 = 0 := ⟨rfl, rfl⟩
theorem in_X2_swapInputsAndOutputs : ¬ isIn sX2_swapInputsAndOutputs := show ¬ ("swapInputsAndOutputs" = "<init>") by decide
theorem c_X2_swapInputsAndOutputs {x : CX} {q : MS} {as rest : List Value} {h : MH} {xk : String → MH → Prop} {b : Nat × Nat} {K : Nat × Nat → List Value → MH → Prop} : (callE x q sX2_swapInputsAndOutputs as rest h xk b K) = (catS rest ≤ 8 ∧ 0 < msD q ∧ CALLV x sX2_swapInputsAndOutputs as h xk (fun h' => K b rest h')) := propext ⟨fun ⟨a1, a2, _, _, _, a6⟩ => ⟨a1, a2, a6⟩, fun ⟨a1, a2, a6⟩ => ⟨a1, a2, by decide, Nat.zero_le _, Nat.zero_le _, a6⟩⟩
theorem d_X2_change : msD sX2_change = 0 := rfl
theorem rt_X2_change : sX2_change.2.2.2.1 = some FieldType.int := rfl
theorem co_X2_change : (sX2_change.2.2.2.2.2.2.2.1 = 0) ∧ sX2_change.2.2.2.2.2.2.2.2 = 0 := ⟨rfl, rfl⟩
theorem in_X2_change : ¬ isIn sX2_change := show ¬ ("change" = "<init>") by decide
theorem c_X2_change {x : CX} {q : MS} {as rest : List Value} {h : MH} {xk : String → MH → Prop} {b : Nat × Nat} {K : Nat × Nat → List Value → MH → Prop} : (callE x q sX2_change as rest h xk b K) = (catS rest ≤ 8 ∧ 0 < msD q ∧ CALLI x sX2_change as h xk (fun r h' => K b (.int r :: rest) h')) := propext ⟨fun ⟨a1, a2, _, _, _, a6⟩ => ⟨a1, a2, a6⟩, fun ⟨a1, a2, a6⟩ => ⟨a1, a2, by decide, Nat.zero_le _, Nat.zero_le _, a6⟩⟩
theorem d_X2_sumOfTokens : msD sX2_sumOfTokens = 0 := rfl
theorem rt_X2_sumOfTokens : sX2_sumOfTokens.2.2.2.1 = some FieldType.int := rfl
theorem co_X2_sumOfTokens : (sX2_sumOfTokens.2.2.2.2.2.2.2.1 = 0) ∧ sX2_sumOfTokens.2.2.2.2.2.2.2.2 = 0 := ⟨rfl, rfl⟩
theorem in_X2_sumOfTokens : ¬ isIn sX2_sumOfTokens := show ¬ ("sumOfTokens" = "<init>") by decide
theorem c_X2_sumOfTokens {x : CX} {q : MS} {as rest : List Value} {h : MH} {xk : String → MH → Prop} {b : Nat × Nat} {K : Nat × Nat → List Value → MH → Prop} : (callE x q sX2_sumOfTokens as rest h xk b K) = (catS rest ≤ 8 ∧ 0 < msD q ∧ CALLI x sX2_sumOfTokens as h xk (fun r h' => K b (.int r :: rest) h')) := propext ⟨fun ⟨a1, a2, _, _, _, a6⟩ => ⟨a1, a2, a6⟩, fun ⟨a1, a2, a6⟩ => ⟨a1, a2, by decide, Nat.zero_le _, Nat.zero_le _, a6⟩⟩
theorem d_X2_placesWithWeight : msD sX2_placesWithWeight = 1 := rfl
theorem rt_X2_placesWithWeight : sX2_placesWithWeight.2.2.2.1 = some FieldType.int := rfl
theorem co_X2_placesWithWeight : (sX2_placesWithWeight.2.2.2.2.2.2.2.1 = 0) ∧ sX2_placesWithWeight.2.2.2.2.2.2.2.2 = 0 := ⟨rfl, rfl⟩
theorem in_X2_placesWithWeight : ¬ isIn sX2_placesWithWeight := show ¬ ("placesWithWeight" = "<init>") by decide
theorem c_X2_placesWithWeight {x : CX} {q : MS} {as rest : List Value} {h : MH} {xk : String → MH → Prop} {b : Nat × Nat} {K : Nat × Nat → List Value → MH → Prop} : (callE x q sX2_placesWithWeight as rest h xk b K) = (catS rest ≤ 8 ∧ 1 < msD q ∧ CALLI x sX2_placesWithWeight as h xk (fun r h' => K b (.int r :: rest) h')) := propext ⟨fun ⟨a1, a2, _, _, _, a6⟩ => ⟨a1, a2, a6⟩, fun ⟨a1, a2, a6⟩ => ⟨a1, a2, by decide, Nat.zero_le _, Nat.zero_le _, a6⟩⟩
theorem d_X2_placesOutOfRange : msD sX2_placesOutOfRange = 0 := rfl
theorem rt_X2_placesOutOfRange : sX2_placesOutOfRange.2.2.2.1 = some FieldType.int := rfl
theorem co_X2_placesOutOfRange : (sX2_placesOutOfRange.2.2.2.2.2.2.2.1 = 0) ∧ sX2_placesOutOfRange.2.2.2.2.2.2.2.2 = 0 := ⟨rfl, rfl⟩
theorem in_X2_placesOutOfRange : ¬ isIn sX2_placesOutOfRange := show ¬ ("placesOutOfRange" = "<init>") by decide
theorem c_X2_placesOutOfRange {x : CX} {q : MS} {as rest : List Value} {h : MH} {xk : String → MH → Prop} {b : Nat × Nat} {K : Nat × Nat → List Value → MH → Prop} : (callE x q sX2_placesOutOfRange as rest h xk b K) = (catS rest ≤ 8 ∧ 0 < msD q ∧ CALLI x sX2_placesOutOfRange as h xk (fun r h' => K b (.int r :: rest) h')) := propext ⟨fun ⟨a1, a2, _, _, _, a6⟩ => ⟨a1, a2, a6⟩, fun ⟨a1, a2, a6⟩ => ⟨a1, a2, by decide, Nat.zero_le _, Nat.zero_le _, a6⟩⟩
theorem d_X2_reasonAt : msD sX2_reasonAt = 0 := rfl
theorem rt_X2_reasonAt : sX2_reasonAt.2.2.2.1 = some FieldType.int := rfl
theorem co_X2_reasonAt : (sX2_reasonAt.2.2.2.2.2.2.2.1 = 0) ∧ sX2_reasonAt.2.2.2.2.2.2.2.2 = 0 := ⟨rfl, rfl⟩
theorem in_X2_reasonAt : ¬ isIn sX2_reasonAt := show ¬ ("reasonAt" = "<init>") by decide
theorem c_X2_reasonAt {x : CX} {q : MS} {as rest : List Value} {h : MH} {xk : String → MH → Prop} {b : Nat × Nat} {K : Nat × Nat → List Value → MH → Prop} : (callE x q sX2_reasonAt as rest h xk b K) = (catS rest ≤ 8 ∧ 0 < msD q ∧ CALLI x sX2_reasonAt as h xk (fun r h' => K b (.int r :: rest) h')) := propext ⟨fun ⟨a1, a2, _, _, _, a6⟩ => ⟨a1, a2, a6⟩, fun ⟨a1, a2, a6⟩ => ⟨a1, a2, by decide, Nat.zero_le _, Nat.zero_le _, a6⟩⟩
theorem d_X2_allows : msD sX2_allows = 1 := rfl
theorem rt_X2_allows : sX2_allows.2.2.2.1 = some FieldType.boolean := rfl
theorem co_X2_allows : (sX2_allows.2.2.2.2.2.2.2.1 = 0) ∧ sX2_allows.2.2.2.2.2.2.2.2 = 0 := ⟨rfl, rfl⟩
theorem in_X2_allows : ¬ isIn sX2_allows := show ¬ ("allows" = "<init>") by decide
theorem c_X2_allows {x : CX} {q : MS} {as rest : List Value} {h : MH} {xk : String → MH → Prop} {b : Nat × Nat} {K : Nat × Nat → List Value → MH → Prop} : (callE x q sX2_allows as rest h xk b K) = (catS rest ≤ 8 ∧ 1 < msD q ∧ CALLI x sX2_allows as h xk (fun r h' => K b (.int r :: rest) h')) := propext ⟨fun ⟨a1, a2, _, _, _, a6⟩ => ⟨a1, a2, a6⟩, fun ⟨a1, a2, a6⟩ => ⟨a1, a2, by decide, Nat.zero_le _, Nat.zero_le _, a6⟩⟩
theorem d_X2_reasonAgainst : msD sX2_reasonAgainst = 1 := rfl
theorem rt_X2_reasonAgainst : sX2_reasonAgainst.2.2.2.1 = some FieldType.int := rfl
theorem co_X2_reasonAgainst : (sX2_reasonAgainst.2.2.2.2.2.2.2.1 = 0) ∧ sX2_reasonAgainst.2.2.2.2.2.2.2.2 = 0 := ⟨rfl, rfl⟩
theorem in_X2_reasonAgainst : ¬ isIn sX2_reasonAgainst := show ¬ ("reasonAgainst" = "<init>") by decide
theorem c_X2_reasonAgainst {x : CX} {q : MS} {as rest : List Value} {h : MH} {xk : String → MH → Prop} {b : Nat × Nat} {K : Nat × Nat → List Value → MH → Prop} : (callE x q sX2_reasonAgainst as rest h xk b K) = (catS rest ≤ 8 ∧ 1 < msD q ∧ CALLI x sX2_reasonAgainst as h xk (fun r h' => K b (.int r :: rest) h')) := propext ⟨fun ⟨a1, a2, _, _, _, a6⟩ => ⟨a1, a2, a6⟩, fun ⟨a1, a2, a6⟩ => ⟨a1, a2, by decide, Nat.zero_le _, Nat.zero_le _, a6⟩⟩
theorem d_X2_firstBlocker : msD sX2_firstBlocker = 2 := rfl
theorem rt_X2_firstBlocker : sX2_firstBlocker.2.2.2.1 = some FieldType.int := rfl
theorem co_X2_firstBlocker : (sX2_firstBlocker.2.2.2.2.2.2.2.1 = 0) ∧ sX2_firstBlocker.2.2.2.2.2.2.2.2 = 0 := ⟨rfl, rfl⟩
theorem in_X2_firstBlocker : ¬ isIn sX2_firstBlocker := show ¬ ("firstBlocker" = "<init>") by decide
theorem c_X2_firstBlocker {x : CX} {q : MS} {as rest : List Value} {h : MH} {xk : String → MH → Prop} {b : Nat × Nat} {K : Nat × Nat → List Value → MH → Prop} : (callE x q sX2_firstBlocker as rest h xk b K) = (catS rest ≤ 8 ∧ 2 < msD q ∧ CALLI x sX2_firstBlocker as h xk (fun r h' => K b (.int r :: rest) h')) := propext ⟨fun ⟨a1, a2, _, _, _, a6⟩ => ⟨a1, a2, a6⟩, fun ⟨a1, a2, a6⟩ => ⟨a1, a2, by decide, Nat.zero_le _, Nat.zero_le _, a6⟩⟩
theorem d_X2_enabledSet : msD sX2_enabledSet = 2 := rfl
theorem rt_X2_enabledSet : sX2_enabledSet.2.2.2.1 = some FieldType.int := rfl
theorem co_X2_enabledSet : (sX2_enabledSet.2.2.2.2.2.2.2.1 = 0) ∧ sX2_enabledSet.2.2.2.2.2.2.2.2 = 0 := ⟨rfl, rfl⟩
theorem in_X2_enabledSet : ¬ isIn sX2_enabledSet := show ¬ ("enabledSet" = "<init>") by decide
theorem c_X2_enabledSet {x : CX} {q : MS} {as rest : List Value} {h : MH} {xk : String → MH → Prop} {b : Nat × Nat} {K : Nat × Nat → List Value → MH → Prop} : (callE x q sX2_enabledSet as rest h xk b K) = (catS rest ≤ 8 ∧ 2 < msD q ∧ CALLI x sX2_enabledSet as h xk (fun r h' => K b (.int r :: rest) h')) := propext ⟨fun ⟨a1, a2, _, _, _, a6⟩ => ⟨a1, a2, a6⟩, fun ⟨a1, a2, a6⟩ => ⟨a1, a2, by decide, Nat.zero_le _, Nat.zero_le _, a6⟩⟩
theorem d_X2_fireOnce : msD sX2_fireOnce = 1 := rfl
theorem rt_X2_fireOnce : sX2_fireOnce.2.2.2.1 = none := rfl
theorem co_X2_fireOnce : (sX2_fireOnce.2.2.2.2.2.2.2.1 = 0) ∧ sX2_fireOnce.2.2.2.2.2.2.2.2 = 0 := ⟨rfl, rfl⟩
theorem in_X2_fireOnce : ¬ isIn sX2_fireOnce := show ¬ ("fireOnce" = "<init>") by decide
theorem c_X2_fireOnce {x : CX} {q : MS} {as rest : List Value} {h : MH} {xk : String → MH → Prop} {b : Nat × Nat} {K : Nat × Nat → List Value → MH → Prop} : (callE x q sX2_fireOnce as rest h xk b K) = (catS rest ≤ 8 ∧ 1 < msD q ∧ CALLV x sX2_fireOnce as h xk (fun h' => K b rest h')) := propext ⟨fun ⟨a1, a2, _, _, _, a6⟩ => ⟨a1, a2, a6⟩, fun ⟨a1, a2, a6⟩ => ⟨a1, a2, by decide, Nat.zero_le _, Nat.zero_le _, a6⟩⟩
theorem d_X2_nextToFire : msD sX2_nextToFire = 2 := rfl
theorem rt_X2_nextToFire : sX2_nextToFire.2.2.2.1 = some FieldType.int := rfl
theorem co_X2_nextToFire : (sX2_nextToFire.2.2.2.2.2.2.2.1 = 0) ∧ sX2_nextToFire.2.2.2.2.2.2.2.2 = 0 := ⟨rfl, rfl⟩
theorem in_X2_nextToFire : ¬ isIn sX2_nextToFire := show ¬ ("nextToFire" = "<init>") by decide
theorem c_X2_nextToFire {x : CX} {q : MS} {as rest : List Value} {h : MH} {xk : String → MH → Prop} {b : Nat × Nat} {K : Nat × Nat → List Value → MH → Prop} : (callE x q sX2_nextToFire as rest h xk b K) = (catS rest ≤ 8 ∧ 2 < msD q ∧ CALLI x sX2_nextToFire as h xk (fun r h' => K b (.int r :: rest) h')) := propext ⟨fun ⟨a1, a2, _, _, _, a6⟩ => ⟨a1, a2, a6⟩, fun ⟨a1, a2, a6⟩ => ⟨a1, a2, by decide, Nat.zero_le _, Nat.zero_le _, a6⟩⟩
theorem d_X2_advance : msD sX2_advance = 3 := rfl
theorem rt_X2_advance : sX2_advance.2.2.2.1 = some FieldType.int := rfl
theorem co_X2_advance : (sX2_advance.2.2.2.2.2.2.2.1 = 0) ∧ sX2_advance.2.2.2.2.2.2.2.2 = 0 := ⟨rfl, rfl⟩
theorem in_X2_advance : ¬ isIn sX2_advance := show ¬ ("advance" = "<init>") by decide
theorem c_X2_advance {x : CX} {q : MS} {as rest : List Value} {h : MH} {xk : String → MH → Prop} {b : Nat × Nat} {K : Nat × Nat → List Value → MH → Prop} : (callE x q sX2_advance as rest h xk b K) = (catS rest ≤ 8 ∧ 3 < msD q ∧ CALLI x sX2_advance as h xk (fun r h' => K b (.int r :: rest) h')) := propext ⟨fun ⟨a1, a2, _, _, _, a6⟩ => ⟨a1, a2, a6⟩, fun ⟨a1, a2, a6⟩ => ⟨a1, a2, by decide, Nat.zero_le _, Nat.zero_le _, a6⟩⟩
theorem d_X2_keepsWeightedTokens : msD sX2_keepsWeightedTokens = 1 := rfl
theorem rt_X2_keepsWeightedTokens : sX2_keepsWeightedTokens.2.2.2.1 = some FieldType.boolean := rfl
theorem co_X2_keepsWeightedTokens : (sX2_keepsWeightedTokens.2.2.2.2.2.2.2.1 = 0) ∧ sX2_keepsWeightedTokens.2.2.2.2.2.2.2.2 = 0 := ⟨rfl, rfl⟩
theorem in_X2_keepsWeightedTokens : ¬ isIn sX2_keepsWeightedTokens := show ¬ ("keepsWeightedTokens" = "<init>") by decide
theorem c_X2_keepsWeightedTokens {x : CX} {q : MS} {as rest : List Value} {h : MH} {xk : String → MH → Prop} {b : Nat × Nat} {K : Nat × Nat → List Value → MH → Prop} : (callE x q sX2_keepsWeightedTokens as rest h xk b K) = (catS rest ≤ 8 ∧ 1 < msD q ∧ CALLI x sX2_keepsWeightedTokens as h xk (fun r h' => K b (.int r :: rest) h')) := propext ⟨fun ⟨a1, a2, _, _, _, a6⟩ => ⟨a1, a2, a6⟩, fun ⟨a1, a2, a6⟩ => ⟨a1, a2, by decide, Nat.zero_le _, Nat.zero_le _, a6⟩⟩
theorem d_X2_keepsMarking : msD sX2_keepsMarking = 1 := rfl
theorem rt_X2_keepsMarking : sX2_keepsMarking.2.2.2.1 = some FieldType.boolean := rfl
theorem co_X2_keepsMarking : (sX2_keepsMarking.2.2.2.2.2.2.2.1 = 0) ∧ sX2_keepsMarking.2.2.2.2.2.2.2.2 = 0 := ⟨rfl, rfl⟩
theorem in_X2_keepsMarking : ¬ isIn sX2_keepsMarking := show ¬ ("keepsMarking" = "<init>") by decide
theorem c_X2_keepsMarking {x : CX} {q : MS} {as rest : List Value} {h : MH} {xk : String → MH → Prop} {b : Nat × Nat} {K : Nat × Nat → List Value → MH → Prop} : (callE x q sX2_keepsMarking as rest h xk b K) = (catS rest ≤ 8 ∧ 1 < msD q ∧ CALLI x sX2_keepsMarking as h xk (fun r h' => K b (.int r :: rest) h')) := propext ⟨fun ⟨a1, a2, _, _, _, a6⟩ => ⟨a1, a2, a6⟩, fun ⟨a1, a2, a6⟩ => ⟨a1, a2, by decide, Nat.zero_le _, Nat.zero_le _, a6⟩⟩
theorem d_X2_packMarking : msD sX2_packMarking = 0 := rfl
theorem rt_X2_packMarking : sX2_packMarking.2.2.2.1 = some FieldType.long := rfl
theorem co_X2_packMarking : (sX2_packMarking.2.2.2.2.2.2.2.1 = 0) ∧ sX2_packMarking.2.2.2.2.2.2.2.2 = 0 := ⟨rfl, rfl⟩
theorem in_X2_packMarking : ¬ isIn sX2_packMarking := show ¬ ("packMarking" = "<init>") by decide
theorem c_X2_packMarking {x : CX} {q : MS} {as rest : List Value} {h : MH} {xk : String → MH → Prop} {b : Nat × Nat} {K : Nat × Nat → List Value → MH → Prop} : (callE x q sX2_packMarking as rest h xk b K) = (catS rest ≤ 8 ∧ 0 < msD q ∧ CALLJ x sX2_packMarking as h xk (fun r h' => K b (.long r :: rest) h')) := propext ⟨fun ⟨a1, a2, _, _, _, a6⟩ => ⟨a1, a2, a6⟩, fun ⟨a1, a2, a6⟩ => ⟨a1, a2, by decide, Nat.zero_le _, Nat.zero_le _, a6⟩⟩
theorem d_X2_packChange : msD sX2_packChange = 1 := rfl
theorem rt_X2_packChange : sX2_packChange.2.2.2.1 = some FieldType.long := rfl
theorem co_X2_packChange : (sX2_packChange.2.2.2.2.2.2.2.1 = 0) ∧ sX2_packChange.2.2.2.2.2.2.2.2 = 0 := ⟨rfl, rfl⟩
theorem in_X2_packChange : ¬ isIn sX2_packChange := show ¬ ("packChange" = "<init>") by decide
theorem c_X2_packChange {x : CX} {q : MS} {as rest : List Value} {h : MH} {xk : String → MH → Prop} {b : Nat × Nat} {K : Nat × Nat → List Value → MH → Prop} : (callE x q sX2_packChange as rest h xk b K) = (catS rest ≤ 8 ∧ 1 < msD q ∧ CALLJ x sX2_packChange as h xk (fun r h' => K b (.long r :: rest) h')) := propext ⟨fun ⟨a1, a2, _, _, _, a6⟩ => ⟨a1, a2, a6⟩, fun ⟨a1, a2, a6⟩ => ⟨a1, a2, by decide, Nat.zero_le _, Nat.zero_le _, a6⟩⟩
theorem d_X2_unpackTokens : msD sX2_unpackTokens = 0 := rfl
theorem rt_X2_unpackTokens : sX2_unpackTokens.2.2.2.1 = some FieldType.int := rfl
theorem co_X2_unpackTokens : (sX2_unpackTokens.2.2.2.2.2.2.2.1 = 0) ∧ sX2_unpackTokens.2.2.2.2.2.2.2.2 = 0 := ⟨rfl, rfl⟩
theorem in_X2_unpackTokens : ¬ isIn sX2_unpackTokens := show ¬ ("unpackTokens" = "<init>") by decide
theorem c_X2_unpackTokens {x : CX} {q : MS} {as rest : List Value} {h : MH} {xk : String → MH → Prop} {b : Nat × Nat} {K : Nat × Nat → List Value → MH → Prop} : (callE x q sX2_unpackTokens as rest h xk b K) = (catS rest ≤ 8 ∧ 0 < msD q ∧ CALLI x sX2_unpackTokens as h xk (fun r h' => K b (.int r :: rest) h')) := propext ⟨fun ⟨a1, a2, _, _, _, a6⟩ => ⟨a1, a2, a6⟩, fun ⟨a1, a2, a6⟩ => ⟨a1, a2, by decide, Nat.zero_le _, Nat.zero_le _, a6⟩⟩
theorem d_X2_unpackMarking : msD sX2_unpackMarking = 1 := rfl
theorem rt_X2_unpackMarking : sX2_unpackMarking.2.2.2.1 = none := rfl
theorem co_X2_unpackMarking : (sX2_unpackMarking.2.2.2.2.2.2.2.1 = 0) ∧ sX2_unpackMarking.2.2.2.2.2.2.2.2 = 0 := ⟨rfl, rfl⟩
theorem in_X2_unpackMarking : ¬ isIn sX2_unpackMarking := show ¬ ("unpackMarking" = "<init>") by decide
theorem c_X2_unpackMarking {x : CX} {q : MS} {as rest : List Value} {h : MH} {xk : String → MH → Prop} {b : Nat × Nat} {K : Nat × Nat → List Value → MH → Prop} : (callE x q sX2_unpackMarking as rest h xk b K) = (catS rest ≤ 8 ∧ 1 < msD q ∧ CALLV x sX2_unpackMarking as h xk (fun h' => K b rest h')) := propext ⟨fun ⟨a1, a2, _, _, _, a6⟩ => ⟨a1, a2, a6⟩, fun ⟨a1, a2, a6⟩ => ⟨a1, a2, by decide, Nat.zero_le _, Nat.zero_le _, a6⟩⟩
theorem d_X3_init : msD sX3_init = 2 := rfl
theorem rt_X3_init : sX3_init.2.2.2.1 = none := rfl
theorem co_X3_init : (sX3_init.2.2.2.2.2.2.2.1 = 8) ∧ sX3_init.2.2.2.2.2.2.2.2 = 774 := ⟨rfl, rfl⟩
theorem c_X3_init {x : CX} {q : MS} {as rest : List Value} {h : MH} {xk : String → MH → Prop} {b : Nat × Nat} {K : Nat × Nat → List Value → MH → Prop} : (callE x q sX3_init as rest h xk b K) = (catS rest ≤ 8 ∧ 2 < msD q ∧ (8 ≤ b.1 ∧ 774 ≤ b.2) ∧ CALLV x sX3_init as h xk (fun h' => K (b.1 - 8, b.2 - 774) rest h')) := propext ⟨fun ⟨a1, a2, _, a4, a5, a6⟩ => ⟨a1, a2, ⟨a4, a5⟩, a6⟩, fun ⟨a1, a2, ⟨a4, a5⟩, a6⟩ => ⟨a1, a2, by decide, a4, a5, a6⟩⟩
theorem d_X3_addFourBytes : msD sX3_addFourBytes = 0 := rfl
theorem rt_X3_addFourBytes : sX3_addFourBytes.2.2.2.1 = none := rfl
theorem co_X3_addFourBytes : (sX3_addFourBytes.2.2.2.2.2.2.2.1 = 0) ∧ sX3_addFourBytes.2.2.2.2.2.2.2.2 = 0 := ⟨rfl, rfl⟩
theorem in_X3_addFourBytes : ¬ isIn sX3_addFourBytes := show ¬ ("addFourBytes" = "<init>") by decide
theorem c_X3_addFourBytes {x : CX} {q : MS} {as rest : List Value} {h : MH} {xk : String → MH → Prop} {b : Nat × Nat} {K : Nat × Nat → List Value → MH → Prop} : (callE x q sX3_addFourBytes as rest h xk b K) = (catS rest ≤ 8 ∧ 0 < msD q ∧ CALLV x sX3_addFourBytes as h xk (fun h' => K b rest h')) := propext ⟨fun ⟨a1, a2, _, _, _, a6⟩ => ⟨a1, a2, a6⟩, fun ⟨a1, a2, a6⟩ => ⟨a1, a2, by decide, Nat.zero_le _, Nat.zero_le _, a6⟩⟩
theorem d_X3_execute : msD sX3_execute = 7 := rfl
theorem rt_X3_execute : sX3_execute.2.2.2.1 = none := rfl
theorem co_X3_execute : (sX3_execute.2.2.2.2.2.2.2.1 = 0) ∧ sX3_execute.2.2.2.2.2.2.2.2 = 0 := ⟨rfl, rfl⟩
theorem in_X3_execute : ¬ isIn sX3_execute := show ¬ ("execute" = "<init>") by decide
theorem c_X3_execute {x : CX} {q : MS} {as rest : List Value} {h : MH} {xk : String → MH → Prop} {b : Nat × Nat} {K : Nat × Nat → List Value → MH → Prop} : (callE x q sX3_execute as rest h xk b K) = (catS rest ≤ 8 ∧ 7 < msD q ∧ CALLV x sX3_execute as h xk (fun h' => K b rest h')) := propext ⟨fun ⟨a1, a2, _, _, _, a6⟩ => ⟨a1, a2, a6⟩, fun ⟨a1, a2, a6⟩ => ⟨a1, a2, by decide, Nat.zero_le _, Nat.zero_le _, a6⟩⟩
theorem d_X3_readHeader : msD sX3_readHeader = 5 := rfl
theorem rt_X3_readHeader : sX3_readHeader.2.2.2.1 = some FieldType.boolean := rfl
theorem co_X3_readHeader : (sX3_readHeader.2.2.2.2.2.2.2.1 = 0) ∧ sX3_readHeader.2.2.2.2.2.2.2.2 = 0 := ⟨rfl, rfl⟩
theorem in_X3_readHeader : ¬ isIn sX3_readHeader := show ¬ ("readHeader" = "<init>") by decide
theorem c_X3_readHeader {x : CX} {q : MS} {as rest : List Value} {h : MH} {xk : String → MH → Prop} {b : Nat × Nat} {K : Nat × Nat → List Value → MH → Prop} : (callE x q sX3_readHeader as rest h xk b K) = (catS rest ≤ 8 ∧ 5 < msD q ∧ CALLI x sX3_readHeader as h xk (fun r h' => K b (.int r :: rest) h')) := propext ⟨fun ⟨a1, a2, _, _, _, a6⟩ => ⟨a1, a2, a6⟩, fun ⟨a1, a2, a6⟩ => ⟨a1, a2, by decide, Nat.zero_le _, Nat.zero_le _, a6⟩⟩
theorem d_X3_readCommand : msD sX3_readCommand = 6 := rfl
theorem rt_X3_readCommand : sX3_readCommand.2.2.2.1 = some FieldType.boolean := rfl
theorem co_X3_readCommand : (sX3_readCommand.2.2.2.2.2.2.2.1 = 0) ∧ sX3_readCommand.2.2.2.2.2.2.2.2 = 0 := ⟨rfl, rfl⟩
theorem in_X3_readCommand : ¬ isIn sX3_readCommand := show ¬ ("readCommand" = "<init>") by decide
theorem c_X3_readCommand {x : CX} {q : MS} {as rest : List Value} {h : MH} {xk : String → MH → Prop} {b : Nat × Nat} {K : Nat × Nat → List Value → MH → Prop} : (callE x q sX3_readCommand as rest h xk b K) = (catS rest ≤ 8 ∧ 6 < msD q ∧ CALLI x sX3_readCommand as h xk (fun r h' => K b (.int r :: rest) h')) := propext ⟨fun ⟨a1, a2, _, _, _, a6⟩ => ⟨a1, a2, a6⟩, fun ⟨a1, a2, a6⟩ => ⟨a1, a2, by decide, Nat.zero_le _, Nat.zero_le _, a6⟩⟩
theorem d_X3_commandOfToken : msD sX3_commandOfToken = 5 := rfl
theorem rt_X3_commandOfToken : sX3_commandOfToken.2.2.2.1 = some FieldType.int := rfl
theorem co_X3_commandOfToken : (sX3_commandOfToken.2.2.2.2.2.2.2.1 = 0) ∧ sX3_commandOfToken.2.2.2.2.2.2.2.2 = 0 := ⟨rfl, rfl⟩
theorem in_X3_commandOfToken : ¬ isIn sX3_commandOfToken := show ¬ ("commandOfToken" = "<init>") by decide
theorem c_X3_commandOfToken {x : CX} {q : MS} {as rest : List Value} {h : MH} {xk : String → MH → Prop} {b : Nat × Nat} {K : Nat × Nat → List Value → MH → Prop} : (callE x q sX3_commandOfToken as rest h xk b K) = (catS rest ≤ 8 ∧ 5 < msD q ∧ CALLI x sX3_commandOfToken as h xk (fun r h' => K b (.int r :: rest) h')) := propext ⟨fun ⟨a1, a2, _, _, _, a6⟩ => ⟨a1, a2, a6⟩, fun ⟨a1, a2, a6⟩ => ⟨a1, a2, by decide, Nat.zero_le _, Nat.zero_le _, a6⟩⟩
theorem d_X3_readTokens : msD sX3_readTokens = 3 := rfl
theorem rt_X3_readTokens : sX3_readTokens.2.2.2.1 = some FieldType.boolean := rfl
theorem co_X3_readTokens : (sX3_readTokens.2.2.2.2.2.2.2.1 = 0) ∧ sX3_readTokens.2.2.2.2.2.2.2.2 = 0 := ⟨rfl, rfl⟩
theorem in_X3_readTokens : ¬ isIn sX3_readTokens := show ¬ ("readTokens" = "<init>") by decide
theorem c_X3_readTokens {x : CX} {q : MS} {as rest : List Value} {h : MH} {xk : String → MH → Prop} {b : Nat × Nat} {K : Nat × Nat → List Value → MH → Prop} : (callE x q sX3_readTokens as rest h xk b K) = (catS rest ≤ 8 ∧ 3 < msD q ∧ CALLI x sX3_readTokens as h xk (fun r h' => K b (.int r :: rest) h')) := propext ⟨fun ⟨a1, a2, _, _, _, a6⟩ => ⟨a1, a2, a6⟩, fun ⟨a1, a2, a6⟩ => ⟨a1, a2, by decide, Nat.zero_le _, Nat.zero_le _, a6⟩⟩
theorem d_X3_readCapacity : msD sX3_readCapacity = 3 := rfl
theorem rt_X3_readCapacity : sX3_readCapacity.2.2.2.1 = some FieldType.boolean := rfl
theorem co_X3_readCapacity : (sX3_readCapacity.2.2.2.2.2.2.2.1 = 0) ∧ sX3_readCapacity.2.2.2.2.2.2.2.2 = 0 := ⟨rfl, rfl⟩
theorem in_X3_readCapacity : ¬ isIn sX3_readCapacity := show ¬ ("readCapacity" = "<init>") by decide
theorem c_X3_readCapacity {x : CX} {q : MS} {as rest : List Value} {h : MH} {xk : String → MH → Prop} {b : Nat × Nat} {K : Nat × Nat → List Value → MH → Prop} : (callE x q sX3_readCapacity as rest h xk b K) = (catS rest ≤ 8 ∧ 3 < msD q ∧ CALLI x sX3_readCapacity as h xk (fun r h' => K b (.int r :: rest) h')) := propext ⟨fun ⟨a1, a2, _, _, _, a6⟩ => ⟨a1, a2, a6⟩, fun ⟨a1, a2, a6⟩ => ⟨a1, a2, by decide, Nat.zero_le _, Nat.zero_le _, a6⟩⟩
theorem d_X3_readArcFromPlace : msD sX3_readArcFromPlace = 3 := rfl
theorem rt_X3_readArcFromPlace : sX3_readArcFromPlace.2.2.2.1 = some FieldType.boolean := rfl
theorem co_X3_readArcFromPlace : (sX3_readArcFromPlace.2.2.2.2.2.2.2.1 = 0) ∧ sX3_readArcFromPlace.2.2.2.2.2.2.2.2 = 0 := ⟨rfl, rfl⟩
theorem in_X3_readArcFromPlace : ¬ isIn sX3_readArcFromPlace := show ¬ ("readArcFromPlace" = "<init>") by decide
theorem c_X3_readArcFromPlace {x : CX} {q : MS} {as rest : List Value} {h : MH} {xk : String → MH → Prop} {b : Nat × Nat} {K : Nat × Nat → List Value → MH → Prop} : (callE x q sX3_readArcFromPlace as rest h xk b K) = (catS rest ≤ 8 ∧ 3 < msD q ∧ CALLI x sX3_readArcFromPlace as h xk (fun r h' => K b (.int r :: rest) h')) := propext ⟨fun ⟨a1, a2, _, _, _, a6⟩ => ⟨a1, a2, a6⟩, fun ⟨a1, a2, a6⟩ => ⟨a1, a2, by decide, Nat.zero_le _, Nat.zero_le _, a6⟩⟩
theorem d_X3_readArcFromTransition : msD sX3_readArcFromTransition = 3 := rfl
theorem rt_X3_readArcFromTransition : sX3_readArcFromTransition.2.2.2.1 = some FieldType.boolean := rfl
theorem co_X3_readArcFromTransition : (sX3_readArcFromTransition.2.2.2.2.2.2.2.1 = 0) ∧ sX3_readArcFromTransition.2.2.2.2.2.2.2.2 = 0 := ⟨rfl, rfl⟩
theorem in_X3_readArcFromTransition : ¬ isIn sX3_readArcFromTransition := show ¬ ("readArcFromTransition" = "<init>") by decide
theorem c_X3_readArcFromTransition {x : CX} {q : MS} {as rest : List Value} {h : MH} {xk : String → MH → Prop} {b : Nat × Nat} {K : Nat × Nat → List Value → MH → Prop} : (callE x q sX3_readArcFromTransition as rest h xk b K) = (catS rest ≤ 8 ∧ 3 < msD q ∧ CALLI x sX3_readArcFromTransition as h xk (fun r h' => K b (.int r :: rest) h')) := propext ⟨fun ⟨a1, a2, _, _, _, a6⟩ => ⟨a1, a2, a6⟩, fun ⟨a1, a2, a6⟩ => ⟨a1, a2, by decide, Nat.zero_le _, Nat.zero_le _, a6⟩⟩
theorem d_X3_readFire : msD sX3_readFire = 3 := rfl
theorem rt_X3_readFire : sX3_readFire.2.2.2.1 = some FieldType.boolean := rfl
theorem co_X3_readFire : (sX3_readFire.2.2.2.2.2.2.2.1 = 0) ∧ sX3_readFire.2.2.2.2.2.2.2.2 = 0 := ⟨rfl, rfl⟩
theorem in_X3_readFire : ¬ isIn sX3_readFire := show ¬ ("readFire" = "<init>") by decide
theorem c_X3_readFire {x : CX} {q : MS} {as rest : List Value} {h : MH} {xk : String → MH → Prop} {b : Nat × Nat} {K : Nat × Nat → List Value → MH → Prop} : (callE x q sX3_readFire as rest h xk b K) = (catS rest ≤ 8 ∧ 3 < msD q ∧ CALLI x sX3_readFire as h xk (fun r h' => K b (.int r :: rest) h')) := propext ⟨fun ⟨a1, a2, _, _, _, a6⟩ => ⟨a1, a2, a6⟩, fun ⟨a1, a2, a6⟩ => ⟨a1, a2, by decide, Nat.zero_le _, Nat.zero_le _, a6⟩⟩
theorem d_X3_readSemicolon : msD sX3_readSemicolon = 2 := rfl
theorem rt_X3_readSemicolon : sX3_readSemicolon.2.2.2.1 = some FieldType.boolean := rfl
theorem co_X3_readSemicolon : (sX3_readSemicolon.2.2.2.2.2.2.2.1 = 0) ∧ sX3_readSemicolon.2.2.2.2.2.2.2.2 = 0 := ⟨rfl, rfl⟩
theorem in_X3_readSemicolon : ¬ isIn sX3_readSemicolon := show ¬ ("readSemicolon" = "<init>") by decide
theorem c_X3_readSemicolon {x : CX} {q : MS} {as rest : List Value} {h : MH} {xk : String → MH → Prop} {b : Nat × Nat} {K : Nat × Nat → List Value → MH → Prop} : (callE x q sX3_readSemicolon as rest h xk b K) = (catS rest ≤ 8 ∧ 2 < msD q ∧ CALLI x sX3_readSemicolon as h xk (fun r h' => K b (.int r :: rest) h')) := propext ⟨fun ⟨a1, a2, _, _, _, a6⟩ => ⟨a1, a2, a6⟩, fun ⟨a1, a2, a6⟩ => ⟨a1, a2, by decide, Nat.zero_le _, Nat.zero_le _, a6⟩⟩
theorem d_X3_readNumber : msD sX3_readNumber = 2 := rfl
theorem rt_X3_readNumber : sX3_readNumber.2.2.2.1 = some FieldType.int := rfl
theorem co_X3_readNumber : (sX3_readNumber.2.2.2.2.2.2.2.1 = 0) ∧ sX3_readNumber.2.2.2.2.2.2.2.2 = 0 := ⟨rfl, rfl⟩
theorem in_X3_readNumber : ¬ isIn sX3_readNumber := show ¬ ("readNumber" = "<init>") by decide
theorem c_X3_readNumber {x : CX} {q : MS} {as rest : List Value} {h : MH} {xk : String → MH → Prop} {b : Nat × Nat} {K : Nat × Nat → List Value → MH → Prop} : (callE x q sX3_readNumber as rest h xk b K) = (catS rest ≤ 8 ∧ 2 < msD q ∧ CALLI x sX3_readNumber as h xk (fun r h' => K b (.int r :: rest) h')) := propext ⟨fun ⟨a1, a2, _, _, _, a6⟩ => ⟨a1, a2, a6⟩, fun ⟨a1, a2, a6⟩ => ⟨a1, a2, by decide, Nat.zero_le _, Nat.zero_le _, a6⟩⟩
theorem d_X3_fail : msD sX3_fail = 0 := rfl
theorem rt_X3_fail : sX3_fail.2.2.2.1 = some FieldType.boolean := rfl
theorem co_X3_fail : (sX3_fail.2.2.2.2.2.2.2.1 = 0) ∧ sX3_fail.2.2.2.2.2.2.2.2 = 0 := ⟨rfl, rfl⟩
theorem in_X3_fail : ¬ isIn sX3_fail := show ¬ ("fail" = "<init>") by decide
theorem c_X3_fail {x : CX} {q : MS} {as rest : List Value} {h : MH} {xk : String → MH → Prop} {b : Nat × Nat} {K : Nat × Nat → List Value → MH → Prop} : (callE x q sX3_fail as rest h xk b K) = (catS rest ≤ 8 ∧ 0 < msD q ∧ CALLI x sX3_fail as h xk (fun r h' => K b (.int r :: rest) h')) := propext ⟨fun ⟨a1, a2, _, _, _, a6⟩ => ⟨a1, a2, a6⟩, fun ⟨a1, a2, a6⟩ => ⟨a1, a2, by decide, Nat.zero_le _, Nat.zero_le _, a6⟩⟩
theorem d_X3_isWord : msD sX3_isWord = 4 := rfl
theorem rt_X3_isWord : sX3_isWord.2.2.2.1 = some FieldType.boolean := rfl
theorem co_X3_isWord : (sX3_isWord.2.2.2.2.2.2.2.1 = 0) ∧ sX3_isWord.2.2.2.2.2.2.2.2 = 0 := ⟨rfl, rfl⟩
theorem in_X3_isWord : ¬ isIn sX3_isWord := show ¬ ("isWord" = "<init>") by decide
theorem c_X3_isWord {x : CX} {q : MS} {as rest : List Value} {h : MH} {xk : String → MH → Prop} {b : Nat × Nat} {K : Nat × Nat → List Value → MH → Prop} : (callE x q sX3_isWord as rest h xk b K) = (catS rest ≤ 8 ∧ 4 < msD q ∧ CALLI x sX3_isWord as h xk (fun r h' => K b (.int r :: rest) h')) := propext ⟨fun ⟨a1, a2, _, _, _, a6⟩ => ⟨a1, a2, a6⟩, fun ⟨a1, a2, a6⟩ => ⟨a1, a2, by decide, Nat.zero_le _, Nat.zero_le _, a6⟩⟩
theorem d_X3_readToken : msD sX3_readToken = 1 := rfl
theorem rt_X3_readToken : sX3_readToken.2.2.2.1 = none := rfl
theorem co_X3_readToken : (sX3_readToken.2.2.2.2.2.2.2.1 = 0) ∧ sX3_readToken.2.2.2.2.2.2.2.2 = 0 := ⟨rfl, rfl⟩
theorem in_X3_readToken : ¬ isIn sX3_readToken := show ¬ ("readToken" = "<init>") by decide
theorem c_X3_readToken {x : CX} {q : MS} {as rest : List Value} {h : MH} {xk : String → MH → Prop} {b : Nat × Nat} {K : Nat × Nat → List Value → MH → Prop} : (callE x q sX3_readToken as rest h xk b K) = (catS rest ≤ 8 ∧ 1 < msD q ∧ CALLV x sX3_readToken as h xk (fun h' => K b rest h')) := propext ⟨fun ⟨a1, a2, _, _, _, a6⟩ => ⟨a1, a2, a6⟩, fun ⟨a1, a2, a6⟩ => ⟨a1, a2, by decide, Nat.zero_le _, Nat.zero_le _, a6⟩⟩
theorem d_X3_isLetter : msD sX3_isLetter = 0 := rfl
theorem rt_X3_isLetter : sX3_isLetter.2.2.2.1 = some FieldType.boolean := rfl
theorem co_X3_isLetter : (sX3_isLetter.2.2.2.2.2.2.2.1 = 0) ∧ sX3_isLetter.2.2.2.2.2.2.2.2 = 0 := ⟨rfl, rfl⟩
theorem in_X3_isLetter : ¬ isIn sX3_isLetter := show ¬ ("isLetter" = "<init>") by decide
theorem c_X3_isLetter {x : CX} {q : MS} {as rest : List Value} {h : MH} {xk : String → MH → Prop} {b : Nat × Nat} {K : Nat × Nat → List Value → MH → Prop} : (callE x q sX3_isLetter as rest h xk b K) = (catS rest ≤ 8 ∧ 0 < msD q ∧ CALLI x sX3_isLetter as h xk (fun r h' => K b (.int r :: rest) h')) := propext ⟨fun ⟨a1, a2, _, _, _, a6⟩ => ⟨a1, a2, a6⟩, fun ⟨a1, a2, a6⟩ => ⟨a1, a2, by decide, Nat.zero_le _, Nat.zero_le _, a6⟩⟩
theorem d_X3_isDigit : msD sX3_isDigit = 0 := rfl
theorem rt_X3_isDigit : sX3_isDigit.2.2.2.1 = some FieldType.boolean := rfl
theorem co_X3_isDigit : (sX3_isDigit.2.2.2.2.2.2.2.1 = 0) ∧ sX3_isDigit.2.2.2.2.2.2.2.2 = 0 := ⟨rfl, rfl⟩
theorem in_X3_isDigit : ¬ isIn sX3_isDigit := show ¬ ("isDigit" = "<init>") by decide
theorem c_X3_isDigit {x : CX} {q : MS} {as rest : List Value} {h : MH} {xk : String → MH → Prop} {b : Nat × Nat} {K : Nat × Nat → List Value → MH → Prop} : (callE x q sX3_isDigit as rest h xk b K) = (catS rest ≤ 8 ∧ 0 < msD q ∧ CALLI x sX3_isDigit as h xk (fun r h' => K b (.int r :: rest) h')) := propext ⟨fun ⟨a1, a2, _, _, _, a6⟩ => ⟨a1, a2, a6⟩, fun ⟨a1, a2, a6⟩ => ⟨a1, a2, by decide, Nat.zero_le _, Nat.zero_le _, a6⟩⟩
theorem d_X4_init : msD sX4_init = 3 := rfl
theorem rt_X4_init : sX4_init.2.2.2.1 = none := rfl
theorem co_X4_init : (sX4_init.2.2.2.2.2.2.2.1 = 118) ∧ sX4_init.2.2.2.2.2.2.2.2 = 5836 := ⟨rfl, rfl⟩
theorem c_X4_init {x : CX} {q : MS} {as rest : List Value} {h : MH} {xk : String → MH → Prop} {b : Nat × Nat} {K : Nat × Nat → List Value → MH → Prop} : (callE x q sX4_init as rest h xk b K) = (catS rest ≤ 8 ∧ 3 < msD q ∧ (118 ≤ b.1 ∧ 5836 ≤ b.2) ∧ CALLV x sX4_init as h xk (fun h' => K (b.1 - 118, b.2 - 5836) rest h')) := propext ⟨fun ⟨a1, a2, _, a4, a5, a6⟩ => ⟨a1, a2, ⟨a4, a5⟩, a6⟩, fun ⟨a1, a2, ⟨a4, a5⟩, a6⟩ => ⟨a1, a2, by decide, a4, a5, a6⟩⟩
theorem d_X4_firstNet : msD sX4_firstNet = 2 := rfl
theorem rt_X4_firstNet : sX4_firstNet.2.2.2.1 = some (FieldType.object "PetriNet$Net") := rfl
theorem co_X4_firstNet : (sX4_firstNet.2.2.2.2.2.2.2.1 = 7) ∧ sX4_firstNet.2.2.2.2.2.2.2.2 = 274 := ⟨rfl, rfl⟩
theorem in_X4_firstNet : ¬ isIn sX4_firstNet := show ¬ ("firstNet" = "<init>") by decide
theorem c_X4_firstNet {x : CX} {q : MS} {as rest : List Value} {h : MH} {xk : String → MH → Prop} {b : Nat × Nat} {K : Nat × Nat → List Value → MH → Prop} : (callE x q sX4_firstNet as rest h xk b K) = (catS rest ≤ 8 ∧ 2 < msD q ∧ (7 ≤ b.1 ∧ 274 ≤ b.2) ∧ CALLR x sX4_firstNet as h xk (fun r h' => K (b.1 - 7, b.2 - 274) (.ref r :: rest) h')) := propext ⟨fun ⟨a1, a2, _, a4, a5, a6⟩ => ⟨a1, a2, ⟨a4, a5⟩, a6⟩, fun ⟨a1, a2, ⟨a4, a5⟩, a6⟩ => ⟨a1, a2, by decide, a4, a5, a6⟩⟩
theorem d_X4_append : msD sX4_append = 1 := rfl
theorem rt_X4_append : sX4_append.2.2.2.1 = some FieldType.int := rfl
theorem co_X4_append : (sX4_append.2.2.2.2.2.2.2.1 = 0) ∧ sX4_append.2.2.2.2.2.2.2.2 = 0 := ⟨rfl, rfl⟩
theorem in_X4_append : ¬ isIn sX4_append := show ¬ ("append" = "<init>") by decide
theorem c_X4_append {x : CX} {q : MS} {as rest : List Value} {h : MH} {xk : String → MH → Prop} {b : Nat × Nat} {K : Nat × Nat → List Value → MH → Prop} : (callE x q sX4_append as rest h xk b K) = (catS rest ≤ 8 ∧ 1 < msD q ∧ CALLI x sX4_append as h xk (fun r h' => K b (.int r :: rest) h')) := propext ⟨fun ⟨a1, a2, _, _, _, a6⟩ => ⟨a1, a2, a6⟩, fun ⟨a1, a2, a6⟩ => ⟨a1, a2, by decide, Nat.zero_le _, Nat.zero_le _, a6⟩⟩
theorem d_X4_truncateInput : msD sX4_truncateInput = 6 := rfl
theorem rt_X4_truncateInput : sX4_truncateInput.2.2.2.1 = some FieldType.int := rfl
theorem co_X4_truncateInput : (sX4_truncateInput.2.2.2.2.2.2.2.1 = 1) ∧ sX4_truncateInput.2.2.2.2.2.2.2.2 = 6 := ⟨rfl, rfl⟩
theorem in_X4_truncateInput : ¬ isIn sX4_truncateInput := show ¬ ("truncateInput" = "<init>") by decide
theorem c_X4_truncateInput {x : CX} {q : MS} {as rest : List Value} {h : MH} {xk : String → MH → Prop} {b : Nat × Nat} {K : Nat × Nat → List Value → MH → Prop} : (callE x q sX4_truncateInput as rest h xk b K) = (catS rest ≤ 8 ∧ 6 < msD q ∧ (1 ≤ b.1 ∧ 6 ≤ b.2) ∧ CALLI x sX4_truncateInput as h xk (fun r h' => K (b.1 - 1, b.2 - 6) (.int r :: rest) h')) := propext ⟨fun ⟨a1, a2, _, a4, a5, a6⟩ => ⟨a1, a2, ⟨a4, a5⟩, a6⟩, fun ⟨a1, a2, ⟨a4, a5⟩, a6⟩ => ⟨a1, a2, by decide, a4, a5, a6⟩⟩
theorem d_X4_inputLength : msD sX4_inputLength = 0 := rfl
theorem rt_X4_inputLength : sX4_inputLength.2.2.2.1 = some FieldType.int := rfl
theorem co_X4_inputLength : (sX4_inputLength.2.2.2.2.2.2.2.1 = 0) ∧ sX4_inputLength.2.2.2.2.2.2.2.2 = 0 := ⟨rfl, rfl⟩
theorem in_X4_inputLength : ¬ isIn sX4_inputLength := show ¬ ("inputLength" = "<init>") by decide
theorem c_X4_inputLength {x : CX} {q : MS} {as rest : List Value} {h : MH} {xk : String → MH → Prop} {b : Nat × Nat} {K : Nat × Nat → List Value → MH → Prop} : (callE x q sX4_inputLength as rest h xk b K) = (catS rest ≤ 8 ∧ 0 < msD q ∧ CALLI x sX4_inputLength as h xk (fun r h' => K b (.int r :: rest) h')) := propext ⟨fun ⟨a1, a2, _, _, _, a6⟩ => ⟨a1, a2, a6⟩, fun ⟨a1, a2, a6⟩ => ⟨a1, a2, by decide, Nat.zero_le _, Nat.zero_le _, a6⟩⟩
theorem d_X4_runScript : msD sX4_runScript = 8 := rfl
theorem rt_X4_runScript : sX4_runScript.2.2.2.1 = some FieldType.int := rfl
theorem co_X4_runScript : (sX4_runScript.2.2.2.2.2.2.2.1 = 0) ∧ sX4_runScript.2.2.2.2.2.2.2.2 = 0 := ⟨rfl, rfl⟩
theorem in_X4_runScript : ¬ isIn sX4_runScript := show ¬ ("runScript" = "<init>") by decide
theorem c_X4_runScript {x : CX} {q : MS} {as rest : List Value} {h : MH} {xk : String → MH → Prop} {b : Nat × Nat} {K : Nat × Nat → List Value → MH → Prop} : (callE x q sX4_runScript as rest h xk b K) = (catS rest ≤ 8 ∧ 8 < msD q ∧ CALLI x sX4_runScript as h xk (fun r h' => K b (.int r :: rest) h')) := propext ⟨fun ⟨a1, a2, _, _, _, a6⟩ => ⟨a1, a2, a6⟩, fun ⟨a1, a2, a6⟩ => ⟨a1, a2, by decide, Nat.zero_le _, Nat.zero_le _, a6⟩⟩
theorem d_X4_setTokens : msD sX4_setTokens = 6 := rfl
theorem rt_X4_setTokens : sX4_setTokens.2.2.2.1 = some FieldType.int := rfl
theorem co_X4_setTokens : (sX4_setTokens.2.2.2.2.2.2.2.1 = 2) ∧ sX4_setTokens.2.2.2.2.2.2.2.2 = 12 := ⟨rfl, rfl⟩
theorem in_X4_setTokens : ¬ isIn sX4_setTokens := show ¬ ("setTokens" = "<init>") by decide
theorem c_X4_setTokens {x : CX} {q : MS} {as rest : List Value} {h : MH} {xk : String → MH → Prop} {b : Nat × Nat} {K : Nat × Nat → List Value → MH → Prop} : (callE x q sX4_setTokens as rest h xk b K) = (catS rest ≤ 8 ∧ 6 < msD q ∧ (2 ≤ b.1 ∧ 12 ≤ b.2) ∧ CALLI x sX4_setTokens as h xk (fun r h' => K (b.1 - 2, b.2 - 12) (.int r :: rest) h')) := propext ⟨fun ⟨a1, a2, _, a4, a5, a6⟩ => ⟨a1, a2, ⟨a4, a5⟩, a6⟩, fun ⟨a1, a2, ⟨a4, a5⟩, a6⟩ => ⟨a1, a2, by decide, a4, a5, a6⟩⟩
theorem d_X4_setCapacity : msD sX4_setCapacity = 6 := rfl
theorem rt_X4_setCapacity : sX4_setCapacity.2.2.2.1 = some FieldType.int := rfl
theorem co_X4_setCapacity : (sX4_setCapacity.2.2.2.2.2.2.2.1 = 3) ∧ sX4_setCapacity.2.2.2.2.2.2.2.2 = 18 := ⟨rfl, rfl⟩
theorem in_X4_setCapacity : ¬ isIn sX4_setCapacity := show ¬ ("setCapacity" = "<init>") by decide
theorem c_X4_setCapacity {x : CX} {q : MS} {as rest : List Value} {h : MH} {xk : String → MH → Prop} {b : Nat × Nat} {K : Nat × Nat → List Value → MH → Prop} : (callE x q sX4_setCapacity as rest h xk b K) = (catS rest ≤ 8 ∧ 6 < msD q ∧ (3 ≤ b.1 ∧ 18 ≤ b.2) ∧ CALLI x sX4_setCapacity as h xk (fun r h' => K (b.1 - 3, b.2 - 18) (.int r :: rest) h')) := propext ⟨fun ⟨a1, a2, _, a4, a5, a6⟩ => ⟨a1, a2, ⟨a4, a5⟩, a6⟩, fun ⟨a1, a2, ⟨a4, a5⟩, a6⟩ => ⟨a1, a2, by decide, a4, a5, a6⟩⟩
theorem d_X4_setInput : msD sX4_setInput = 7 := rfl
theorem rt_X4_setInput : sX4_setInput.2.2.2.1 = some FieldType.int := rfl
theorem co_X4_setInput : (sX4_setInput.2.2.2.2.2.2.2.1 = 3) ∧ sX4_setInput.2.2.2.2.2.2.2.2 = 18 := ⟨rfl, rfl⟩
theorem in_X4_setInput : ¬ isIn sX4_setInput := show ¬ ("setInput" = "<init>") by decide
theorem c_X4_setInput {x : CX} {q : MS} {as rest : List Value} {h : MH} {xk : String → MH → Prop} {b : Nat × Nat} {K : Nat × Nat → List Value → MH → Prop} : (callE x q sX4_setInput as rest h xk b K) = (catS rest ≤ 8 ∧ 7 < msD q ∧ (3 ≤ b.1 ∧ 18 ≤ b.2) ∧ CALLI x sX4_setInput as h xk (fun r h' => K (b.1 - 3, b.2 - 18) (.int r :: rest) h')) := propext ⟨fun ⟨a1, a2, _, a4, a5, a6⟩ => ⟨a1, a2, ⟨a4, a5⟩, a6⟩, fun ⟨a1, a2, ⟨a4, a5⟩, a6⟩ => ⟨a1, a2, by decide, a4, a5, a6⟩⟩
theorem d_X4_setOutput : msD sX4_setOutput = 7 := rfl
theorem rt_X4_setOutput : sX4_setOutput.2.2.2.1 = some FieldType.int := rfl
theorem co_X4_setOutput : (sX4_setOutput.2.2.2.2.2.2.2.1 = 3) ∧ sX4_setOutput.2.2.2.2.2.2.2.2 = 18 := ⟨rfl, rfl⟩
theorem in_X4_setOutput : ¬ isIn sX4_setOutput := show ¬ ("setOutput" = "<init>") by decide
theorem c_X4_setOutput {x : CX} {q : MS} {as rest : List Value} {h : MH} {xk : String → MH → Prop} {b : Nat × Nat} {K : Nat × Nat → List Value → MH → Prop} : (callE x q sX4_setOutput as rest h xk b K) = (catS rest ≤ 8 ∧ 7 < msD q ∧ (3 ≤ b.1 ∧ 18 ≤ b.2) ∧ CALLI x sX4_setOutput as h xk (fun r h' => K (b.1 - 3, b.2 - 18) (.int r :: rest) h')) := propext ⟨fun ⟨a1, a2, _, a4, a5, a6⟩ => ⟨a1, a2, ⟨a4, a5⟩, a6⟩, fun ⟨a1, a2, ⟨a4, a5⟩, a6⟩ => ⟨a1, a2, by decide, a4, a5, a6⟩⟩
theorem d_X4_setInhibitor : msD sX4_setInhibitor = 7 := rfl
theorem rt_X4_setInhibitor : sX4_setInhibitor.2.2.2.1 = some FieldType.int := rfl
theorem co_X4_setInhibitor : (sX4_setInhibitor.2.2.2.2.2.2.2.1 = 3) ∧ sX4_setInhibitor.2.2.2.2.2.2.2.2 = 18 := ⟨rfl, rfl⟩
theorem in_X4_setInhibitor : ¬ isIn sX4_setInhibitor := show ¬ ("setInhibitor" = "<init>") by decide
theorem c_X4_setInhibitor {x : CX} {q : MS} {as rest : List Value} {h : MH} {xk : String → MH → Prop} {b : Nat × Nat} {K : Nat × Nat → List Value → MH → Prop} : (callE x q sX4_setInhibitor as rest h xk b K) = (catS rest ≤ 8 ∧ 7 < msD q ∧ (3 ≤ b.1 ∧ 18 ≤ b.2) ∧ CALLI x sX4_setInhibitor as h xk (fun r h' => K (b.1 - 3, b.2 - 18) (.int r :: rest) h')) := propext ⟨fun ⟨a1, a2, _, a4, a5, a6⟩ => ⟨a1, a2, ⟨a4, a5⟩, a6⟩, fun ⟨a1, a2, ⟨a4, a5⟩, a6⟩ => ⟨a1, a2, by decide, a4, a5, a6⟩⟩
theorem d_X4_fire : msD sX4_fire = 6 := rfl
theorem rt_X4_fire : sX4_fire.2.2.2.1 = some FieldType.int := rfl
theorem co_X4_fire : (sX4_fire.2.2.2.2.2.2.2.1 = 2) ∧ sX4_fire.2.2.2.2.2.2.2.2 = 12 := ⟨rfl, rfl⟩
theorem in_X4_fire : ¬ isIn sX4_fire := show ¬ ("fire" = "<init>") by decide
theorem c_X4_fire {x : CX} {q : MS} {as rest : List Value} {h : MH} {xk : String → MH → Prop} {b : Nat × Nat} {K : Nat × Nat → List Value → MH → Prop} : (callE x q sX4_fire as rest h xk b K) = (catS rest ≤ 8 ∧ 6 < msD q ∧ (2 ≤ b.1 ∧ 12 ≤ b.2) ∧ CALLI x sX4_fire as h xk (fun r h' => K (b.1 - 2, b.2 - 12) (.int r :: rest) h')) := propext ⟨fun ⟨a1, a2, _, a4, a5, a6⟩ => ⟨a1, a2, ⟨a4, a5⟩, a6⟩, fun ⟨a1, a2, ⟨a4, a5⟩, a6⟩ => ⟨a1, a2, by decide, a4, a5, a6⟩⟩
theorem d_X4_run : msD sX4_run = 6 := rfl
theorem rt_X4_run : sX4_run.2.2.2.1 = some FieldType.int := rfl
theorem co_X4_run : (sX4_run.2.2.2.2.2.2.2.1 = 1) ∧ sX4_run.2.2.2.2.2.2.2.2 = 6 := ⟨rfl, rfl⟩
theorem in_X4_run : ¬ isIn sX4_run := show ¬ ("run" = "<init>") by decide
theorem c_X4_run {x : CX} {q : MS} {as rest : List Value} {h : MH} {xk : String → MH → Prop} {b : Nat × Nat} {K : Nat × Nat → List Value → MH → Prop} : (callE x q sX4_run as rest h xk b K) = (catS rest ≤ 8 ∧ 6 < msD q ∧ (1 ≤ b.1 ∧ 6 ≤ b.2) ∧ CALLI x sX4_run as h xk (fun r h' => K (b.1 - 1, b.2 - 6) (.int r :: rest) h')) := propext ⟨fun ⟨a1, a2, _, a4, a5, a6⟩ => ⟨a1, a2, ⟨a4, a5⟩, a6⟩, fun ⟨a1, a2, ⟨a4, a5⟩, a6⟩ => ⟨a1, a2, by decide, a4, a5, a6⟩⟩
theorem d_X4_moveToMarking : msD sX4_moveToMarking = 6 := rfl
theorem rt_X4_moveToMarking : sX4_moveToMarking.2.2.2.1 = some FieldType.int := rfl
theorem co_X4_moveToMarking : (sX4_moveToMarking.2.2.2.2.2.2.2.1 = 1) ∧ sX4_moveToMarking.2.2.2.2.2.2.2.2 = 6 := ⟨rfl, rfl⟩
theorem in_X4_moveToMarking : ¬ isIn sX4_moveToMarking := show ¬ ("moveToMarking" = "<init>") by decide
theorem c_X4_moveToMarking {x : CX} {q : MS} {as rest : List Value} {h : MH} {xk : String → MH → Prop} {b : Nat × Nat} {K : Nat × Nat → List Value → MH → Prop} : (callE x q sX4_moveToMarking as rest h xk b K) = (catS rest ≤ 8 ∧ 6 < msD q ∧ (1 ≤ b.1 ∧ 6 ≤ b.2) ∧ CALLI x sX4_moveToMarking as h xk (fun r h' => K (b.1 - 1, b.2 - 6) (.int r :: rest) h')) := propext ⟨fun ⟨a1, a2, _, a4, a5, a6⟩ => ⟨a1, a2, ⟨a4, a5⟩, a6⟩, fun ⟨a1, a2, ⟨a4, a5⟩, a6⟩ => ⟨a1, a2, by decide, a4, a5, a6⟩⟩
theorem d_X4_reverseNet : msD sX4_reverseNet = 4 := rfl
theorem rt_X4_reverseNet : sX4_reverseNet.2.2.2.1 = some FieldType.int := rfl
theorem co_X4_reverseNet : (sX4_reverseNet.2.2.2.2.2.2.2.1 = 0) ∧ sX4_reverseNet.2.2.2.2.2.2.2.2 = 0 := ⟨rfl, rfl⟩
theorem in_X4_reverseNet : ¬ isIn sX4_reverseNet := show ¬ ("reverseNet" = "<init>") by decide
theorem c_X4_reverseNet {x : CX} {q : MS} {as rest : List Value} {h : MH} {xk : String → MH → Prop} {b : Nat × Nat} {K : Nat × Nat → List Value → MH → Prop} : (callE x q sX4_reverseNet as rest h xk b K) = (catS rest ≤ 8 ∧ 4 < msD q ∧ CALLI x sX4_reverseNet as h xk (fun r h' => K b (.int r :: rest) h')) := propext ⟨fun ⟨a1, a2, _, _, _, a6⟩ => ⟨a1, a2, a6⟩, fun ⟨a1, a2, a6⟩ => ⟨a1, a2, by decide, Nat.zero_le _, Nat.zero_le _, a6⟩⟩
theorem d_X4_beginChange : msD sX4_beginChange = 3 := rfl
theorem rt_X4_beginChange : sX4_beginChange.2.2.2.1 = none := rfl
theorem co_X4_beginChange : (sX4_beginChange.2.2.2.2.2.2.2.1 = 0) ∧ sX4_beginChange.2.2.2.2.2.2.2.2 = 0 := ⟨rfl, rfl⟩
theorem in_X4_beginChange : ¬ isIn sX4_beginChange := show ¬ ("beginChange" = "<init>") by decide
theorem c_X4_beginChange {x : CX} {q : MS} {as rest : List Value} {h : MH} {xk : String → MH → Prop} {b : Nat × Nat} {K : Nat × Nat → List Value → MH → Prop} : (callE x q sX4_beginChange as rest h xk b K) = (catS rest ≤ 8 ∧ 3 < msD q ∧ CALLV x sX4_beginChange as h xk (fun h' => K b rest h')) := propext ⟨fun ⟨a1, a2, _, _, _, a6⟩ => ⟨a1, a2, a6⟩, fun ⟨a1, a2, a6⟩ => ⟨a1, a2, by decide, Nat.zero_le _, Nat.zero_le _, a6⟩⟩
theorem d_X4_undo : msD sX4_undo = 3 := rfl
theorem rt_X4_undo : sX4_undo.2.2.2.1 = some FieldType.int := rfl
theorem co_X4_undo : (sX4_undo.2.2.2.2.2.2.2.1 = 0) ∧ sX4_undo.2.2.2.2.2.2.2.2 = 0 := ⟨rfl, rfl⟩
theorem in_X4_undo : ¬ isIn sX4_undo := show ¬ ("undo" = "<init>") by decide
theorem c_X4_undo {x : CX} {q : MS} {as rest : List Value} {h : MH} {xk : String → MH → Prop} {b : Nat × Nat} {K : Nat × Nat → List Value → MH → Prop} : (callE x q sX4_undo as rest h xk b K) = (catS rest ≤ 8 ∧ 3 < msD q ∧ CALLI x sX4_undo as h xk (fun r h' => K b (.int r :: rest) h')) := propext ⟨fun ⟨a1, a2, _, _, _, a6⟩ => ⟨a1, a2, a6⟩, fun ⟨a1, a2, a6⟩ => ⟨a1, a2, by decide, Nat.zero_le _, Nat.zero_le _, a6⟩⟩
theorem d_X4_undoCount : msD sX4_undoCount = 0 := rfl
theorem rt_X4_undoCount : sX4_undoCount.2.2.2.1 = some FieldType.int := rfl
theorem co_X4_undoCount : (sX4_undoCount.2.2.2.2.2.2.2.1 = 0) ∧ sX4_undoCount.2.2.2.2.2.2.2.2 = 0 := ⟨rfl, rfl⟩
theorem in_X4_undoCount : ¬ isIn sX4_undoCount := show ¬ ("undoCount" = "<init>") by decide
theorem c_X4_undoCount {x : CX} {q : MS} {as rest : List Value} {h : MH} {xk : String → MH → Prop} {b : Nat × Nat} {K : Nat × Nat → List Value → MH → Prop} : (callE x q sX4_undoCount as rest h xk b K) = (catS rest ≤ 8 ∧ 0 < msD q ∧ CALLI x sX4_undoCount as h xk (fun r h' => K b (.int r :: rest) h')) := propext ⟨fun ⟨a1, a2, _, _, _, a6⟩ => ⟨a1, a2, a6⟩, fun ⟨a1, a2, a6⟩ => ⟨a1, a2, by decide, Nat.zero_le _, Nat.zero_le _, a6⟩⟩
theorem d_X4_saveSnapshot : msD sX4_saveSnapshot = 2 := rfl
theorem rt_X4_saveSnapshot : sX4_saveSnapshot.2.2.2.1 = some FieldType.int := rfl
theorem co_X4_saveSnapshot : (sX4_saveSnapshot.2.2.2.2.2.2.2.1 = 0) ∧ sX4_saveSnapshot.2.2.2.2.2.2.2.2 = 0 := ⟨rfl, rfl⟩
theorem in_X4_saveSnapshot : ¬ isIn sX4_saveSnapshot := show ¬ ("saveSnapshot" = "<init>") by decide
theorem c_X4_saveSnapshot {x : CX} {q : MS} {as rest : List Value} {h : MH} {xk : String → MH → Prop} {b : Nat × Nat} {K : Nat × Nat → List Value → MH → Prop} : (callE x q sX4_saveSnapshot as rest h xk b K) = (catS rest ≤ 8 ∧ 2 < msD q ∧ CALLI x sX4_saveSnapshot as h xk (fun r h' => K b (.int r :: rest) h')) := propext ⟨fun ⟨a1, a2, _, _, _, a6⟩ => ⟨a1, a2, a6⟩, fun ⟨a1, a2, a6⟩ => ⟨a1, a2, by decide, Nat.zero_le _, Nat.zero_le _, a6⟩⟩
theorem d_X4_restoreSnapshot : msD sX4_restoreSnapshot = 5 := rfl
theorem rt_X4_restoreSnapshot : sX4_restoreSnapshot.2.2.2.1 = some FieldType.int := rfl
theorem co_X4_restoreSnapshot : (sX4_restoreSnapshot.2.2.2.2.2.2.2.1 = 1) ∧ sX4_restoreSnapshot.2.2.2.2.2.2.2.2 = 6 := ⟨rfl, rfl⟩
theorem in_X4_restoreSnapshot : ¬ isIn sX4_restoreSnapshot := show ¬ ("restoreSnapshot" = "<init>") by decide
theorem c_X4_restoreSnapshot {x : CX} {q : MS} {as rest : List Value} {h : MH} {xk : String → MH → Prop} {b : Nat × Nat} {K : Nat × Nat → List Value → MH → Prop} : (callE x q sX4_restoreSnapshot as rest h xk b K) = (catS rest ≤ 8 ∧ 5 < msD q ∧ (1 ≤ b.1 ∧ 6 ≤ b.2) ∧ CALLI x sX4_restoreSnapshot as h xk (fun r h' => K (b.1 - 1, b.2 - 6) (.int r :: rest) h')) := propext ⟨fun ⟨a1, a2, _, a4, a5, a6⟩ => ⟨a1, a2, ⟨a4, a5⟩, a6⟩, fun ⟨a1, a2, ⟨a4, a5⟩, a6⟩ => ⟨a1, a2, by decide, a4, a5, a6⟩⟩
theorem d_X4_scriptErrorKind : msD sX4_scriptErrorKind = 0 := rfl
theorem rt_X4_scriptErrorKind : sX4_scriptErrorKind.2.2.2.1 = some FieldType.int := rfl
theorem co_X4_scriptErrorKind : (sX4_scriptErrorKind.2.2.2.2.2.2.2.1 = 0) ∧ sX4_scriptErrorKind.2.2.2.2.2.2.2.2 = 0 := ⟨rfl, rfl⟩
theorem in_X4_scriptErrorKind : ¬ isIn sX4_scriptErrorKind := show ¬ ("scriptErrorKind" = "<init>") by decide
theorem c_X4_scriptErrorKind {x : CX} {q : MS} {as rest : List Value} {h : MH} {xk : String → MH → Prop} {b : Nat × Nat} {K : Nat × Nat → List Value → MH → Prop} : (callE x q sX4_scriptErrorKind as rest h xk b K) = (catS rest ≤ 8 ∧ 0 < msD q ∧ CALLI x sX4_scriptErrorKind as h xk (fun r h' => K b (.int r :: rest) h')) := propext ⟨fun ⟨a1, a2, _, _, _, a6⟩ => ⟨a1, a2, a6⟩, fun ⟨a1, a2, a6⟩ => ⟨a1, a2, by decide, Nat.zero_le _, Nat.zero_le _, a6⟩⟩
theorem d_X4_scriptErrorOffset : msD sX4_scriptErrorOffset = 0 := rfl
theorem rt_X4_scriptErrorOffset : sX4_scriptErrorOffset.2.2.2.1 = some FieldType.int := rfl
theorem co_X4_scriptErrorOffset : (sX4_scriptErrorOffset.2.2.2.2.2.2.2.1 = 0) ∧ sX4_scriptErrorOffset.2.2.2.2.2.2.2.2 = 0 := ⟨rfl, rfl⟩
theorem in_X4_scriptErrorOffset : ¬ isIn sX4_scriptErrorOffset := show ¬ ("scriptErrorOffset" = "<init>") by decide
theorem c_X4_scriptErrorOffset {x : CX} {q : MS} {as rest : List Value} {h : MH} {xk : String → MH → Prop} {b : Nat × Nat} {K : Nat × Nat → List Value → MH → Prop} : (callE x q sX4_scriptErrorOffset as rest h xk b K) = (catS rest ≤ 8 ∧ 0 < msD q ∧ CALLI x sX4_scriptErrorOffset as h xk (fun r h' => K b (.int r :: rest) h')) := propext ⟨fun ⟨a1, a2, _, _, _, a6⟩ => ⟨a1, a2, a6⟩, fun ⟨a1, a2, a6⟩ => ⟨a1, a2, by decide, Nat.zero_le _, Nat.zero_le _, a6⟩⟩
theorem d_X4_placeCount : msD sX4_placeCount = 0 := rfl
theorem rt_X4_placeCount : sX4_placeCount.2.2.2.1 = some FieldType.int := rfl
theorem co_X4_placeCount : (sX4_placeCount.2.2.2.2.2.2.2.1 = 0) ∧ sX4_placeCount.2.2.2.2.2.2.2.2 = 0 := ⟨rfl, rfl⟩
theorem in_X4_placeCount : ¬ isIn sX4_placeCount := show ¬ ("placeCount" = "<init>") by decide
theorem c_X4_placeCount {x : CX} {q : MS} {as rest : List Value} {h : MH} {xk : String → MH → Prop} {b : Nat × Nat} {K : Nat × Nat → List Value → MH → Prop} : (callE x q sX4_placeCount as rest h xk b K) = (catS rest ≤ 8 ∧ 0 < msD q ∧ CALLI x sX4_placeCount as h xk (fun r h' => K b (.int r :: rest) h')) := propext ⟨fun ⟨a1, a2, _, _, _, a6⟩ => ⟨a1, a2, a6⟩, fun ⟨a1, a2, a6⟩ => ⟨a1, a2, by decide, Nat.zero_le _, Nat.zero_le _, a6⟩⟩
theorem d_X4_transitionCount : msD sX4_transitionCount = 0 := rfl
theorem rt_X4_transitionCount : sX4_transitionCount.2.2.2.1 = some FieldType.int := rfl
theorem co_X4_transitionCount : (sX4_transitionCount.2.2.2.2.2.2.2.1 = 0) ∧ sX4_transitionCount.2.2.2.2.2.2.2.2 = 0 := ⟨rfl, rfl⟩
theorem in_X4_transitionCount : ¬ isIn sX4_transitionCount := show ¬ ("transitionCount" = "<init>") by decide
theorem c_X4_transitionCount {x : CX} {q : MS} {as rest : List Value} {h : MH} {xk : String → MH → Prop} {b : Nat × Nat} {K : Nat × Nat → List Value → MH → Prop} : (callE x q sX4_transitionCount as rest h xk b K) = (catS rest ≤ 8 ∧ 0 < msD q ∧ CALLI x sX4_transitionCount as h xk (fun r h' => K b (.int r :: rest) h')) := propext ⟨fun ⟨a1, a2, _, _, _, a6⟩ => ⟨a1, a2, a6⟩, fun ⟨a1, a2, a6⟩ => ⟨a1, a2, by decide, Nat.zero_le _, Nat.zero_le _, a6⟩⟩
theorem d_X4_tokens : msD sX4_tokens = 6 := rfl
theorem rt_X4_tokens : sX4_tokens.2.2.2.1 = some FieldType.int := rfl
theorem co_X4_tokens : (sX4_tokens.2.2.2.2.2.2.2.1 = 1) ∧ sX4_tokens.2.2.2.2.2.2.2.2 = 6 := ⟨rfl, rfl⟩
theorem in_X4_tokens : ¬ isIn sX4_tokens := show ¬ ("tokens" = "<init>") by decide
theorem c_X4_tokens {x : CX} {q : MS} {as rest : List Value} {h : MH} {xk : String → MH → Prop} {b : Nat × Nat} {K : Nat × Nat → List Value → MH → Prop} : (callE x q sX4_tokens as rest h xk b K) = (catS rest ≤ 8 ∧ 6 < msD q ∧ (1 ≤ b.1 ∧ 6 ≤ b.2) ∧ CALLI x sX4_tokens as h xk (fun r h' => K (b.1 - 1, b.2 - 6) (.int r :: rest) h')) := propext ⟨fun ⟨a1, a2, _, a4, a5, a6⟩ => ⟨a1, a2, ⟨a4, a5⟩, a6⟩, fun ⟨a1, a2, ⟨a4, a5⟩, a6⟩ => ⟨a1, a2, by decide, a4, a5, a6⟩⟩
theorem d_X4_capacity : msD sX4_capacity = 6 := rfl
theorem rt_X4_capacity : sX4_capacity.2.2.2.1 = some FieldType.int := rfl
theorem co_X4_capacity : (sX4_capacity.2.2.2.2.2.2.2.1 = 1) ∧ sX4_capacity.2.2.2.2.2.2.2.2 = 6 := ⟨rfl, rfl⟩
theorem in_X4_capacity : ¬ isIn sX4_capacity := show ¬ ("capacity" = "<init>") by decide
theorem c_X4_capacity {x : CX} {q : MS} {as rest : List Value} {h : MH} {xk : String → MH → Prop} {b : Nat × Nat} {K : Nat × Nat → List Value → MH → Prop} : (callE x q sX4_capacity as rest h xk b K) = (catS rest ≤ 8 ∧ 6 < msD q ∧ (1 ≤ b.1 ∧ 6 ≤ b.2) ∧ CALLI x sX4_capacity as h xk (fun r h' => K (b.1 - 1, b.2 - 6) (.int r :: rest) h')) := propext ⟨fun ⟨a1, a2, _, a4, a5, a6⟩ => ⟨a1, a2, ⟨a4, a5⟩, a6⟩, fun ⟨a1, a2, ⟨a4, a5⟩, a6⟩ => ⟨a1, a2, by decide, a4, a5, a6⟩⟩
theorem d_X4_effect : msD sX4_effect = 6 := rfl
theorem rt_X4_effect : sX4_effect.2.2.2.1 = some FieldType.int := rfl
theorem co_X4_effect : (sX4_effect.2.2.2.2.2.2.2.1 = 2) ∧ sX4_effect.2.2.2.2.2.2.2.2 = 12 := ⟨rfl, rfl⟩
theorem in_X4_effect : ¬ isIn sX4_effect := show ¬ ("effect" = "<init>") by decide
theorem c_X4_effect {x : CX} {q : MS} {as rest : List Value} {h : MH} {xk : String → MH → Prop} {b : Nat × Nat} {K : Nat × Nat → List Value → MH → Prop} : (callE x q sX4_effect as rest h xk b K) = (catS rest ≤ 8 ∧ 6 < msD q ∧ (2 ≤ b.1 ∧ 12 ≤ b.2) ∧ CALLI x sX4_effect as h xk (fun r h' => K (b.1 - 2, b.2 - 12) (.int r :: rest) h')) := propext ⟨fun ⟨a1, a2, _, a4, a5, a6⟩ => ⟨a1, a2, ⟨a4, a5⟩, a6⟩, fun ⟨a1, a2, ⟨a4, a5⟩, a6⟩ => ⟨a1, a2, by decide, a4, a5, a6⟩⟩
theorem d_X4_totalTokens : msD sX4_totalTokens = 1 := rfl
theorem rt_X4_totalTokens : sX4_totalTokens.2.2.2.1 = some FieldType.int := rfl
theorem co_X4_totalTokens : (sX4_totalTokens.2.2.2.2.2.2.2.1 = 0) ∧ sX4_totalTokens.2.2.2.2.2.2.2.2 = 0 := ⟨rfl, rfl⟩
theorem in_X4_totalTokens : ¬ isIn sX4_totalTokens := show ¬ ("totalTokens" = "<init>") by decide
theorem c_X4_totalTokens {x : CX} {q : MS} {as rest : List Value} {h : MH} {xk : String → MH → Prop} {b : Nat × Nat} {K : Nat × Nat → List Value → MH → Prop} : (callE x q sX4_totalTokens as rest h xk b K) = (catS rest ≤ 8 ∧ 1 < msD q ∧ CALLI x sX4_totalTokens as h xk (fun r h' => K b (.int r :: rest) h')) := propext ⟨fun ⟨a1, a2, _, _, _, a6⟩ => ⟨a1, a2, a6⟩, fun ⟨a1, a2, a6⟩ => ⟨a1, a2, by decide, Nat.zero_le _, Nat.zero_le _, a6⟩⟩
theorem d_X4_inputPlaces : msD sX4_inputPlaces = 6 := rfl
theorem rt_X4_inputPlaces : sX4_inputPlaces.2.2.2.1 = some FieldType.int := rfl
theorem co_X4_inputPlaces : (sX4_inputPlaces.2.2.2.2.2.2.2.1 = 1) ∧ sX4_inputPlaces.2.2.2.2.2.2.2.2 = 6 := ⟨rfl, rfl⟩
theorem in_X4_inputPlaces : ¬ isIn sX4_inputPlaces := show ¬ ("inputPlaces" = "<init>") by decide
theorem c_X4_inputPlaces {x : CX} {q : MS} {as rest : List Value} {h : MH} {xk : String → MH → Prop} {b : Nat × Nat} {K : Nat × Nat → List Value → MH → Prop} : (callE x q sX4_inputPlaces as rest h xk b K) = (catS rest ≤ 8 ∧ 6 < msD q ∧ (1 ≤ b.1 ∧ 6 ≤ b.2) ∧ CALLI x sX4_inputPlaces as h xk (fun r h' => K (b.1 - 1, b.2 - 6) (.int r :: rest) h')) := propext ⟨fun ⟨a1, a2, _, a4, a5, a6⟩ => ⟨a1, a2, ⟨a4, a5⟩, a6⟩, fun ⟨a1, a2, ⟨a4, a5⟩, a6⟩ => ⟨a1, a2, by decide, a4, a5, a6⟩⟩
theorem d_X4_outputPlaces : msD sX4_outputPlaces = 6 := rfl
theorem rt_X4_outputPlaces : sX4_outputPlaces.2.2.2.1 = some FieldType.int := rfl
theorem co_X4_outputPlaces : (sX4_outputPlaces.2.2.2.2.2.2.2.1 = 1) ∧ sX4_outputPlaces.2.2.2.2.2.2.2.2 = 6 := ⟨rfl, rfl⟩
theorem in_X4_outputPlaces : ¬ isIn sX4_outputPlaces := show ¬ ("outputPlaces" = "<init>") by decide
theorem c_X4_outputPlaces {x : CX} {q : MS} {as rest : List Value} {h : MH} {xk : String → MH → Prop} {b : Nat × Nat} {K : Nat × Nat → List Value → MH → Prop} : (callE x q sX4_outputPlaces as rest h xk b K) = (catS rest ≤ 8 ∧ 6 < msD q ∧ (1 ≤ b.1 ∧ 6 ≤ b.2) ∧ CALLI x sX4_outputPlaces as h xk (fun r h' => K (b.1 - 1, b.2 - 6) (.int r :: rest) h')) := propext ⟨fun ⟨a1, a2, _, a4, a5, a6⟩ => ⟨a1, a2, ⟨a4, a5⟩, a6⟩, fun ⟨a1, a2, ⟨a4, a5⟩, a6⟩ => ⟨a1, a2, by decide, a4, a5, a6⟩⟩
theorem d_X4_consumers : msD sX4_consumers = 6 := rfl
theorem rt_X4_consumers : sX4_consumers.2.2.2.1 = some FieldType.int := rfl
theorem co_X4_consumers : (sX4_consumers.2.2.2.2.2.2.2.1 = 1) ∧ sX4_consumers.2.2.2.2.2.2.2.2 = 6 := ⟨rfl, rfl⟩
theorem in_X4_consumers : ¬ isIn sX4_consumers := show ¬ ("consumers" = "<init>") by decide
theorem c_X4_consumers {x : CX} {q : MS} {as rest : List Value} {h : MH} {xk : String → MH → Prop} {b : Nat × Nat} {K : Nat × Nat → List Value → MH → Prop} : (callE x q sX4_consumers as rest h xk b K) = (catS rest ≤ 8 ∧ 6 < msD q ∧ (1 ≤ b.1 ∧ 6 ≤ b.2) ∧ CALLI x sX4_consumers as h xk (fun r h' => K (b.1 - 1, b.2 - 6) (.int r :: rest) h')) := propext ⟨fun ⟨a1, a2, _, a4, a5, a6⟩ => ⟨a1, a2, ⟨a4, a5⟩, a6⟩, fun ⟨a1, a2, ⟨a4, a5⟩, a6⟩ => ⟨a1, a2, by decide, a4, a5, a6⟩⟩
theorem d_X4_whyNotEnabled : msD sX4_whyNotEnabled = 6 := rfl
theorem rt_X4_whyNotEnabled : sX4_whyNotEnabled.2.2.2.1 = some FieldType.int := rfl
theorem co_X4_whyNotEnabled : (sX4_whyNotEnabled.2.2.2.2.2.2.2.1 = 1) ∧ sX4_whyNotEnabled.2.2.2.2.2.2.2.2 = 6 := ⟨rfl, rfl⟩
theorem in_X4_whyNotEnabled : ¬ isIn sX4_whyNotEnabled := show ¬ ("whyNotEnabled" = "<init>") by decide
theorem c_X4_whyNotEnabled {x : CX} {q : MS} {as rest : List Value} {h : MH} {xk : String → MH → Prop} {b : Nat × Nat} {K : Nat × Nat → List Value → MH → Prop} : (callE x q sX4_whyNotEnabled as rest h xk b K) = (catS rest ≤ 8 ∧ 6 < msD q ∧ (1 ≤ b.1 ∧ 6 ≤ b.2) ∧ CALLI x sX4_whyNotEnabled as h xk (fun r h' => K (b.1 - 1, b.2 - 6) (.int r :: rest) h')) := propext ⟨fun ⟨a1, a2, _, a4, a5, a6⟩ => ⟨a1, a2, ⟨a4, a5⟩, a6⟩, fun ⟨a1, a2, ⟨a4, a5⟩, a6⟩ => ⟨a1, a2, by decide, a4, a5, a6⟩⟩
theorem d_X4_blockingPlace : msD sX4_blockingPlace = 6 := rfl
theorem rt_X4_blockingPlace : sX4_blockingPlace.2.2.2.1 = some FieldType.int := rfl
theorem co_X4_blockingPlace : (sX4_blockingPlace.2.2.2.2.2.2.2.1 = 1) ∧ sX4_blockingPlace.2.2.2.2.2.2.2.2 = 6 := ⟨rfl, rfl⟩
theorem in_X4_blockingPlace : ¬ isIn sX4_blockingPlace := show ¬ ("blockingPlace" = "<init>") by decide
theorem c_X4_blockingPlace {x : CX} {q : MS} {as rest : List Value} {h : MH} {xk : String → MH → Prop} {b : Nat × Nat} {K : Nat × Nat → List Value → MH → Prop} : (callE x q sX4_blockingPlace as rest h xk b K) = (catS rest ≤ 8 ∧ 6 < msD q ∧ (1 ≤ b.1 ∧ 6 ≤ b.2) ∧ CALLI x sX4_blockingPlace as h xk (fun r h' => K (b.1 - 1, b.2 - 6) (.int r :: rest) h')) := propext ⟨fun ⟨a1, a2, _, a4, a5, a6⟩ => ⟨a1, a2, ⟨a4, a5⟩, a6⟩, fun ⟨a1, a2, ⟨a4, a5⟩, a6⟩ => ⟨a1, a2, by decide, a4, a5, a6⟩⟩
theorem d_X4_enabledTransitions : msD sX4_enabledTransitions = 3 := rfl
theorem rt_X4_enabledTransitions : sX4_enabledTransitions.2.2.2.1 = some FieldType.int := rfl
theorem co_X4_enabledTransitions : (sX4_enabledTransitions.2.2.2.2.2.2.2.1 = 0) ∧ sX4_enabledTransitions.2.2.2.2.2.2.2.2 = 0 := ⟨rfl, rfl⟩
theorem in_X4_enabledTransitions : ¬ isIn sX4_enabledTransitions := show ¬ ("enabledTransitions" = "<init>") by decide
theorem c_X4_enabledTransitions {x : CX} {q : MS} {as rest : List Value} {h : MH} {xk : String → MH → Prop} {b : Nat × Nat} {K : Nat × Nat → List Value → MH → Prop} : (callE x q sX4_enabledTransitions as rest h xk b K) = (catS rest ≤ 8 ∧ 3 < msD q ∧ CALLI x sX4_enabledTransitions as h xk (fun r h' => K b (.int r :: rest) h')) := propext ⟨fun ⟨a1, a2, _, _, _, a6⟩ => ⟨a1, a2, a6⟩, fun ⟨a1, a2, a6⟩ => ⟨a1, a2, by decide, Nat.zero_le _, Nat.zero_le _, a6⟩⟩
theorem d_X4_isDead : msD sX4_isDead = 3 := rfl
theorem rt_X4_isDead : sX4_isDead.2.2.2.1 = some FieldType.boolean := rfl
theorem co_X4_isDead : (sX4_isDead.2.2.2.2.2.2.2.1 = 0) ∧ sX4_isDead.2.2.2.2.2.2.2.2 = 0 := ⟨rfl, rfl⟩
theorem in_X4_isDead : ¬ isIn sX4_isDead := show ¬ ("isDead" = "<init>") by decide
theorem c_X4_isDead {x : CX} {q : MS} {as rest : List Value} {h : MH} {xk : String → MH → Prop} {b : Nat × Nat} {K : Nat × Nat → List Value → MH → Prop} : (callE x q sX4_isDead as rest h xk b K) = (catS rest ≤ 8 ∧ 3 < msD q ∧ CALLI x sX4_isDead as h xk (fun r h' => K b (.int r :: rest) h')) := propext ⟨fun ⟨a1, a2, _, _, _, a6⟩ => ⟨a1, a2, a6⟩, fun ⟨a1, a2, a6⟩ => ⟨a1, a2, by decide, Nat.zero_le _, Nat.zero_le _, a6⟩⟩
theorem d_X4_firings : msD sX4_firings = 6 := rfl
theorem rt_X4_firings : sX4_firings.2.2.2.1 = some FieldType.int := rfl
theorem co_X4_firings : (sX4_firings.2.2.2.2.2.2.2.1 = 1) ∧ sX4_firings.2.2.2.2.2.2.2.2 = 6 := ⟨rfl, rfl⟩
theorem in_X4_firings : ¬ isIn sX4_firings := show ¬ ("firings" = "<init>") by decide
theorem c_X4_firings {x : CX} {q : MS} {as rest : List Value} {h : MH} {xk : String → MH → Prop} {b : Nat × Nat} {K : Nat × Nat → List Value → MH → Prop} : (callE x q sX4_firings as rest h xk b K) = (catS rest ≤ 8 ∧ 6 < msD q ∧ (1 ≤ b.1 ∧ 6 ≤ b.2) ∧ CALLI x sX4_firings as h xk (fun r h' => K (b.1 - 1, b.2 - 6) (.int r :: rest) h')) := propext ⟨fun ⟨a1, a2, _, a4, a5, a6⟩ => ⟨a1, a2, ⟨a4, a5⟩, a6⟩, fun ⟨a1, a2, ⟨a4, a5⟩, a6⟩ => ⟨a1, a2, by decide, a4, a5, a6⟩⟩
theorem d_X4_nextOfRun : msD sX4_nextOfRun = 3 := rfl
theorem rt_X4_nextOfRun : sX4_nextOfRun.2.2.2.1 = some FieldType.int := rfl
theorem co_X4_nextOfRun : (sX4_nextOfRun.2.2.2.2.2.2.2.1 = 0) ∧ sX4_nextOfRun.2.2.2.2.2.2.2.2 = 0 := ⟨rfl, rfl⟩
theorem in_X4_nextOfRun : ¬ isIn sX4_nextOfRun := show ¬ ("nextOfRun" = "<init>") by decide
theorem c_X4_nextOfRun {x : CX} {q : MS} {as rest : List Value} {h : MH} {xk : String → MH → Prop} {b : Nat × Nat} {K : Nat × Nat → List Value → MH → Prop} : (callE x q sX4_nextOfRun as rest h xk b K) = (catS rest ≤ 8 ∧ 3 < msD q ∧ CALLI x sX4_nextOfRun as h xk (fun r h' => K b (.int r :: rest) h')) := propext ⟨fun ⟨a1, a2, _, _, _, a6⟩ => ⟨a1, a2, a6⟩, fun ⟨a1, a2, a6⟩ => ⟨a1, a2, by decide, Nat.zero_le _, Nat.zero_le _, a6⟩⟩
theorem d_X4_firesInRow : msD sX4_firesInRow = 6 := rfl
theorem rt_X4_firesInRow : sX4_firesInRow.2.2.2.1 = some FieldType.int := rfl
theorem co_X4_firesInRow : (sX4_firesInRow.2.2.2.2.2.2.2.1 = 1) ∧ sX4_firesInRow.2.2.2.2.2.2.2.2 = 6 := ⟨rfl, rfl⟩
theorem in_X4_firesInRow : ¬ isIn sX4_firesInRow := show ¬ ("firesInRow" = "<init>") by decide
theorem c_X4_firesInRow {x : CX} {q : MS} {as rest : List Value} {h : MH} {xk : String → MH → Prop} {b : Nat × Nat} {K : Nat × Nat → List Value → MH → Prop} : (callE x q sX4_firesInRow as rest h xk b K) = (catS rest ≤ 8 ∧ 6 < msD q ∧ (1 ≤ b.1 ∧ 6 ≤ b.2) ∧ CALLI x sX4_firesInRow as h xk (fun r h' => K (b.1 - 1, b.2 - 6) (.int r :: rest) h')) := propext ⟨fun ⟨a1, a2, _, a4, a5, a6⟩ => ⟨a1, a2, ⟨a4, a5⟩, a6⟩, fun ⟨a1, a2, ⟨a4, a5⟩, a6⟩ => ⟨a1, a2, by decide, a4, a5, a6⟩⟩
theorem d_X4_areInConflict : msD sX4_areInConflict = 6 := rfl
theorem rt_X4_areInConflict : sX4_areInConflict.2.2.2.1 = some FieldType.boolean := rfl
theorem co_X4_areInConflict : (sX4_areInConflict.2.2.2.2.2.2.2.1 = 2) ∧ sX4_areInConflict.2.2.2.2.2.2.2.2 = 12 := ⟨rfl, rfl⟩
theorem in_X4_areInConflict : ¬ isIn sX4_areInConflict := show ¬ ("areInConflict" = "<init>") by decide
theorem c_X4_areInConflict {x : CX} {q : MS} {as rest : List Value} {h : MH} {xk : String → MH → Prop} {b : Nat × Nat} {K : Nat × Nat → List Value → MH → Prop} : (callE x q sX4_areInConflict as rest h xk b K) = (catS rest ≤ 8 ∧ 6 < msD q ∧ (2 ≤ b.1 ∧ 12 ≤ b.2) ∧ CALLI x sX4_areInConflict as h xk (fun r h' => K (b.1 - 2, b.2 - 12) (.int r :: rest) h')) := propext ⟨fun ⟨a1, a2, _, a4, a5, a6⟩ => ⟨a1, a2, ⟨a4, a5⟩, a6⟩, fun ⟨a1, a2, ⟨a4, a5⟩, a6⟩ => ⟨a1, a2, by decide, a4, a5, a6⟩⟩
theorem d_X4_disables : msD sX4_disables = 2 := rfl
theorem rt_X4_disables : sX4_disables.2.2.2.1 = some FieldType.boolean := rfl
theorem co_X4_disables : (sX4_disables.2.2.2.2.2.2.2.1 = 0) ∧ sX4_disables.2.2.2.2.2.2.2.2 = 0 := ⟨rfl, rfl⟩
theorem in_X4_disables : ¬ isIn sX4_disables := show ¬ ("disables" = "<init>") by decide
theorem c_X4_disables {x : CX} {q : MS} {as rest : List Value} {h : MH} {xk : String → MH → Prop} {b : Nat × Nat} {K : Nat × Nat → List Value → MH → Prop} : (callE x q sX4_disables as rest h xk b K) = (catS rest ≤ 8 ∧ 2 < msD q ∧ CALLI x sX4_disables as h xk (fun r h' => K b (.int r :: rest) h')) := propext ⟨fun ⟨a1, a2, _, _, _, a6⟩ => ⟨a1, a2, a6⟩, fun ⟨a1, a2, a6⟩ => ⟨a1, a2, by decide, Nat.zero_le _, Nat.zero_le _, a6⟩⟩
theorem d_X4_markingCount : msD sX4_markingCount = 6 := rfl
theorem rt_X4_markingCount : sX4_markingCount.2.2.2.1 = some FieldType.int := rfl
theorem co_X4_markingCount : (sX4_markingCount.2.2.2.2.2.2.2.1 = 0) ∧ sX4_markingCount.2.2.2.2.2.2.2.2 = 0 := ⟨rfl, rfl⟩
theorem in_X4_markingCount : ¬ isIn sX4_markingCount := show ¬ ("markingCount" = "<init>") by decide
theorem c_X4_markingCount {x : CX} {q : MS} {as rest : List Value} {h : MH} {xk : String → MH → Prop} {b : Nat × Nat} {K : Nat × Nat → List Value → MH → Prop} : (callE x q sX4_markingCount as rest h xk b K) = (catS rest ≤ 8 ∧ 6 < msD q ∧ CALLI x sX4_markingCount as h xk (fun r h' => K b (.int r :: rest) h')) := propext ⟨fun ⟨a1, a2, _, _, _, a6⟩ => ⟨a1, a2, a6⟩, fun ⟨a1, a2, a6⟩ => ⟨a1, a2, by decide, Nat.zero_le _, Nat.zero_le _, a6⟩⟩
theorem d_X4_isComplete : msD sX4_isComplete = 6 := rfl
theorem rt_X4_isComplete : sX4_isComplete.2.2.2.1 = some FieldType.boolean := rfl
theorem co_X4_isComplete : (sX4_isComplete.2.2.2.2.2.2.2.1 = 0) ∧ sX4_isComplete.2.2.2.2.2.2.2.2 = 0 := ⟨rfl, rfl⟩
theorem in_X4_isComplete : ¬ isIn sX4_isComplete := show ¬ ("isComplete" = "<init>") by decide
theorem c_X4_isComplete {x : CX} {q : MS} {as rest : List Value} {h : MH} {xk : String → MH → Prop} {b : Nat × Nat} {K : Nat × Nat → List Value → MH → Prop} : (callE x q sX4_isComplete as rest h xk b K) = (catS rest ≤ 8 ∧ 6 < msD q ∧ CALLI x sX4_isComplete as h xk (fun r h' => K b (.int r :: rest) h')) := propext ⟨fun ⟨a1, a2, _, _, _, a6⟩ => ⟨a1, a2, a6⟩, fun ⟨a1, a2, a6⟩ => ⟨a1, a2, by decide, Nat.zero_le _, Nat.zero_le _, a6⟩⟩
theorem d_X4_markingTokens : msD sX4_markingTokens = 6 := rfl
theorem rt_X4_markingTokens : sX4_markingTokens.2.2.2.1 = some FieldType.int := rfl
theorem co_X4_markingTokens : (sX4_markingTokens.2.2.2.2.2.2.2.1 = 2) ∧ sX4_markingTokens.2.2.2.2.2.2.2.2 = 12 := ⟨rfl, rfl⟩
theorem in_X4_markingTokens : ¬ isIn sX4_markingTokens := show ¬ ("markingTokens" = "<init>") by decide
theorem c_X4_markingTokens {x : CX} {q : MS} {as rest : List Value} {h : MH} {xk : String → MH → Prop} {b : Nat × Nat} {K : Nat × Nat → List Value → MH → Prop} : (callE x q sX4_markingTokens as rest h xk b K) = (catS rest ≤ 8 ∧ 6 < msD q ∧ (2 ≤ b.1 ∧ 12 ≤ b.2) ∧ CALLI x sX4_markingTokens as h xk (fun r h' => K (b.1 - 2, b.2 - 12) (.int r :: rest) h')) := propext ⟨fun ⟨a1, a2, _, a4, a5, a6⟩ => ⟨a1, a2, ⟨a4, a5⟩, a6⟩, fun ⟨a1, a2, ⟨a4, a5⟩, a6⟩ => ⟨a1, a2, by decide, a4, a5, a6⟩⟩
theorem d_X4_markingDistance : msD sX4_markingDistance = 6 := rfl
theorem rt_X4_markingDistance : sX4_markingDistance.2.2.2.1 = some FieldType.int := rfl
theorem co_X4_markingDistance : (sX4_markingDistance.2.2.2.2.2.2.2.1 = 1) ∧ sX4_markingDistance.2.2.2.2.2.2.2.2 = 6 := ⟨rfl, rfl⟩
theorem in_X4_markingDistance : ¬ isIn sX4_markingDistance := show ¬ ("markingDistance" = "<init>") by decide
theorem c_X4_markingDistance {x : CX} {q : MS} {as rest : List Value} {h : MH} {xk : String → MH → Prop} {b : Nat × Nat} {K : Nat × Nat → List Value → MH → Prop} : (callE x q sX4_markingDistance as rest h xk b K) = (catS rest ≤ 8 ∧ 6 < msD q ∧ (1 ≤ b.1 ∧ 6 ≤ b.2) ∧ CALLI x sX4_markingDistance as h xk (fun r h' => K (b.1 - 1, b.2 - 6) (.int r :: rest) h')) := propext ⟨fun ⟨a1, a2, _, a4, a5, a6⟩ => ⟨a1, a2, ⟨a4, a5⟩, a6⟩, fun ⟨a1, a2, ⟨a4, a5⟩, a6⟩ => ⟨a1, a2, by decide, a4, a5, a6⟩⟩
theorem d_X4_markingTransition : msD sX4_markingTransition = 6 := rfl
theorem rt_X4_markingTransition : sX4_markingTransition.2.2.2.1 = some FieldType.int := rfl
theorem co_X4_markingTransition : (sX4_markingTransition.2.2.2.2.2.2.2.1 = 1) ∧ sX4_markingTransition.2.2.2.2.2.2.2.2 = 6 := ⟨rfl, rfl⟩
theorem in_X4_markingTransition : ¬ isIn sX4_markingTransition := show ¬ ("markingTransition" = "<init>") by decide
theorem c_X4_markingTransition {x : CX} {q : MS} {as rest : List Value} {h : MH} {xk : String → MH → Prop} {b : Nat × Nat} {K : Nat × Nat → List Value → MH → Prop} : (callE x q sX4_markingTransition as rest h xk b K) = (catS rest ≤ 8 ∧ 6 < msD q ∧ (1 ≤ b.1 ∧ 6 ≤ b.2) ∧ CALLI x sX4_markingTransition as h xk (fun r h' => K (b.1 - 1, b.2 - 6) (.int r :: rest) h')) := propext ⟨fun ⟨a1, a2, _, a4, a5, a6⟩ => ⟨a1, a2, ⟨a4, a5⟩, a6⟩, fun ⟨a1, a2, ⟨a4, a5⟩, a6⟩ => ⟨a1, a2, by decide, a4, a5, a6⟩⟩
theorem d_X4_firstDeadMarking : msD sX4_firstDeadMarking = 6 := rfl
theorem rt_X4_firstDeadMarking : sX4_firstDeadMarking.2.2.2.1 = some FieldType.int := rfl
theorem co_X4_firstDeadMarking : (sX4_firstDeadMarking.2.2.2.2.2.2.2.1 = 0) ∧ sX4_firstDeadMarking.2.2.2.2.2.2.2.2 = 0 := ⟨rfl, rfl⟩
theorem in_X4_firstDeadMarking : ¬ isIn sX4_firstDeadMarking := show ¬ ("firstDeadMarking" = "<init>") by decide
theorem c_X4_firstDeadMarking {x : CX} {q : MS} {as rest : List Value} {h : MH} {xk : String → MH → Prop} {b : Nat × Nat} {K : Nat × Nat → List Value → MH → Prop} : (callE x q sX4_firstDeadMarking as rest h xk b K) = (catS rest ≤ 8 ∧ 6 < msD q ∧ CALLI x sX4_firstDeadMarking as h xk (fun r h' => K b (.int r :: rest) h')) := propext ⟨fun ⟨a1, a2, _, _, _, a6⟩ => ⟨a1, a2, a6⟩, fun ⟨a1, a2, a6⟩ => ⟨a1, a2, by decide, Nat.zero_le _, Nat.zero_le _, a6⟩⟩
theorem d_X4_deadMarkings : msD sX4_deadMarkings = 6 := rfl
theorem rt_X4_deadMarkings : sX4_deadMarkings.2.2.2.1 = some FieldType.int := rfl
theorem co_X4_deadMarkings : (sX4_deadMarkings.2.2.2.2.2.2.2.1 = 0) ∧ sX4_deadMarkings.2.2.2.2.2.2.2.2 = 0 := ⟨rfl, rfl⟩
theorem in_X4_deadMarkings : ¬ isIn sX4_deadMarkings := show ¬ ("deadMarkings" = "<init>") by decide
theorem c_X4_deadMarkings {x : CX} {q : MS} {as rest : List Value} {h : MH} {xk : String → MH → Prop} {b : Nat × Nat} {K : Nat × Nat → List Value → MH → Prop} : (callE x q sX4_deadMarkings as rest h xk b K) = (catS rest ≤ 8 ∧ 6 < msD q ∧ CALLI x sX4_deadMarkings as h xk (fun r h' => K b (.int r :: rest) h')) := propext ⟨fun ⟨a1, a2, _, _, _, a6⟩ => ⟨a1, a2, a6⟩, fun ⟨a1, a2, a6⟩ => ⟨a1, a2, by decide, Nat.zero_le _, Nat.zero_le _, a6⟩⟩
theorem d_X4_bound : msD sX4_bound = 6 := rfl
theorem rt_X4_bound : sX4_bound.2.2.2.1 = some FieldType.int := rfl
theorem co_X4_bound : (sX4_bound.2.2.2.2.2.2.2.1 = 1) ∧ sX4_bound.2.2.2.2.2.2.2.2 = 6 := ⟨rfl, rfl⟩
theorem in_X4_bound : ¬ isIn sX4_bound := show ¬ ("bound" = "<init>") by decide
theorem c_X4_bound {x : CX} {q : MS} {as rest : List Value} {h : MH} {xk : String → MH → Prop} {b : Nat × Nat} {K : Nat × Nat → List Value → MH → Prop} : (callE x q sX4_bound as rest h xk b K) = (catS rest ≤ 8 ∧ 6 < msD q ∧ (1 ≤ b.1 ∧ 6 ≤ b.2) ∧ CALLI x sX4_bound as h xk (fun r h' => K (b.1 - 1, b.2 - 6) (.int r :: rest) h')) := propext ⟨fun ⟨a1, a2, _, a4, a5, a6⟩ => ⟨a1, a2, ⟨a4, a5⟩, a6⟩, fun ⟨a1, a2, ⟨a4, a5⟩, a6⟩ => ⟨a1, a2, by decide, a4, a5, a6⟩⟩
theorem d_X4_canFire : msD sX4_canFire = 6 := rfl
theorem rt_X4_canFire : sX4_canFire.2.2.2.1 = some FieldType.boolean := rfl
theorem co_X4_canFire : (sX4_canFire.2.2.2.2.2.2.2.1 = 1) ∧ sX4_canFire.2.2.2.2.2.2.2.2 = 6 := ⟨rfl, rfl⟩
theorem in_X4_canFire : ¬ isIn sX4_canFire := show ¬ ("canFire" = "<init>") by decide
theorem c_X4_canFire {x : CX} {q : MS} {as rest : List Value} {h : MH} {xk : String → MH → Prop} {b : Nat × Nat} {K : Nat × Nat → List Value → MH → Prop} : (callE x q sX4_canFire as rest h xk b K) = (catS rest ≤ 8 ∧ 6 < msD q ∧ (1 ≤ b.1 ∧ 6 ≤ b.2) ∧ CALLI x sX4_canFire as h xk (fun r h' => K (b.1 - 1, b.2 - 6) (.int r :: rest) h')) := propext ⟨fun ⟨a1, a2, _, a4, a5, a6⟩ => ⟨a1, a2, ⟨a4, a5⟩, a6⟩, fun ⟨a1, a2, ⟨a4, a5⟩, a6⟩ => ⟨a1, a2, by decide, a4, a5, a6⟩⟩
theorem d_X4_returnsHome : msD sX4_returnsHome = 6 := rfl
theorem rt_X4_returnsHome : sX4_returnsHome.2.2.2.1 = some FieldType.boolean := rfl
theorem co_X4_returnsHome : (sX4_returnsHome.2.2.2.2.2.2.2.1 = 0) ∧ sX4_returnsHome.2.2.2.2.2.2.2.2 = 0 := ⟨rfl, rfl⟩
theorem in_X4_returnsHome : ¬ isIn sX4_returnsHome := show ¬ ("returnsHome" = "<init>") by decide
theorem c_X4_returnsHome {x : CX} {q : MS} {as rest : List Value} {h : MH} {xk : String → MH → Prop} {b : Nat × Nat} {K : Nat × Nat → List Value → MH → Prop} : (callE x q sX4_returnsHome as rest h xk b K) = (catS rest ≤ 8 ∧ 6 < msD q ∧ CALLI x sX4_returnsHome as h xk (fun r h' => K b (.int r :: rest) h')) := propext ⟨fun ⟨a1, a2, _, _, _, a6⟩ => ⟨a1, a2, a6⟩, fun ⟨a1, a2, a6⟩ => ⟨a1, a2, by decide, Nat.zero_le _, Nat.zero_le _, a6⟩⟩
theorem d_X4_distanceToEmpty : msD sX4_distanceToEmpty = 6 := rfl
theorem rt_X4_distanceToEmpty : sX4_distanceToEmpty.2.2.2.1 = some FieldType.int := rfl
theorem co_X4_distanceToEmpty : (sX4_distanceToEmpty.2.2.2.2.2.2.2.1 = 1) ∧ sX4_distanceToEmpty.2.2.2.2.2.2.2.2 = 6 := ⟨rfl, rfl⟩
theorem in_X4_distanceToEmpty : ¬ isIn sX4_distanceToEmpty := show ¬ ("distanceToEmpty" = "<init>") by decide
theorem c_X4_distanceToEmpty {x : CX} {q : MS} {as rest : List Value} {h : MH} {xk : String → MH → Prop} {b : Nat × Nat} {K : Nat × Nat → List Value → MH → Prop} : (callE x q sX4_distanceToEmpty as rest h xk b K) = (catS rest ≤ 8 ∧ 6 < msD q ∧ (1 ≤ b.1 ∧ 6 ≤ b.2) ∧ CALLI x sX4_distanceToEmpty as h xk (fun r h' => K (b.1 - 1, b.2 - 6) (.int r :: rest) h')) := propext ⟨fun ⟨a1, a2, _, a4, a5, a6⟩ => ⟨a1, a2, ⟨a4, a5⟩, a6⟩, fun ⟨a1, a2, ⟨a4, a5⟩, a6⟩ => ⟨a1, a2, by decide, a4, a5, a6⟩⟩
theorem d_X4_explored : msD sX4_explored = 5 := rfl
theorem rt_X4_explored : sX4_explored.2.2.2.1 = some (FieldType.object "PetriNet$Exploration") := rfl
theorem co_X4_explored : (sX4_explored.2.2.2.2.2.2.2.1 = 0) ∧ sX4_explored.2.2.2.2.2.2.2.2 = 0 := ⟨rfl, rfl⟩
theorem in_X4_explored : ¬ isIn sX4_explored := show ¬ ("explored" = "<init>") by decide
theorem c_X4_explored {x : CX} {q : MS} {as rest : List Value} {h : MH} {xk : String → MH → Prop} {b : Nat × Nat} {K : Nat × Nat → List Value → MH → Prop} : (callE x q sX4_explored as rest h xk b K) = (catS rest ≤ 8 ∧ 5 < msD q ∧ CALLR x sX4_explored as h xk (fun r h' => K b (.ref r :: rest) h')) := propext ⟨fun ⟨a1, a2, _, _, _, a6⟩ => ⟨a1, a2, a6⟩, fun ⟨a1, a2, a6⟩ => ⟨a1, a2, by decide, Nat.zero_le _, Nat.zero_le _, a6⟩⟩
theorem d_X4_isPlaceInvariant : msD sX4_isPlaceInvariant = 6 := rfl
theorem rt_X4_isPlaceInvariant : sX4_isPlaceInvariant.2.2.2.1 = some FieldType.boolean := rfl
theorem co_X4_isPlaceInvariant : (sX4_isPlaceInvariant.2.2.2.2.2.2.2.1 = 1) ∧ sX4_isPlaceInvariant.2.2.2.2.2.2.2.2 = 6 := ⟨rfl, rfl⟩
theorem in_X4_isPlaceInvariant : ¬ isIn sX4_isPlaceInvariant := show ¬ ("isPlaceInvariant" = "<init>") by decide
theorem c_X4_isPlaceInvariant {x : CX} {q : MS} {as rest : List Value} {h : MH} {xk : String → MH → Prop} {b : Nat × Nat} {K : Nat × Nat → List Value → MH → Prop} : (callE x q sX4_isPlaceInvariant as rest h xk b K) = (catS rest ≤ 8 ∧ 6 < msD q ∧ (1 ≤ b.1 ∧ 6 ≤ b.2) ∧ CALLI x sX4_isPlaceInvariant as h xk (fun r h' => K (b.1 - 1, b.2 - 6) (.int r :: rest) h')) := propext ⟨fun ⟨a1, a2, _, a4, a5, a6⟩ => ⟨a1, a2, ⟨a4, a5⟩, a6⟩, fun ⟨a1, a2, ⟨a4, a5⟩, a6⟩ => ⟨a1, a2, by decide, a4, a5, a6⟩⟩
theorem d_X4_isTransitionInvariant : msD sX4_isTransitionInvariant = 6 := rfl
theorem rt_X4_isTransitionInvariant : sX4_isTransitionInvariant.2.2.2.1 = some FieldType.boolean := rfl
theorem co_X4_isTransitionInvariant : (sX4_isTransitionInvariant.2.2.2.2.2.2.2.1 = 1) ∧ sX4_isTransitionInvariant.2.2.2.2.2.2.2.2 = 6 := ⟨rfl, rfl⟩
theorem in_X4_isTransitionInvariant : ¬ isIn sX4_isTransitionInvariant := show ¬ ("isTransitionInvariant" = "<init>") by decide
theorem c_X4_isTransitionInvariant {x : CX} {q : MS} {as rest : List Value} {h : MH} {xk : String → MH → Prop} {b : Nat × Nat} {K : Nat × Nat → List Value → MH → Prop} : (callE x q sX4_isTransitionInvariant as rest h xk b K) = (catS rest ≤ 8 ∧ 6 < msD q ∧ (1 ≤ b.1 ∧ 6 ≤ b.2) ∧ CALLI x sX4_isTransitionInvariant as h xk (fun r h' => K (b.1 - 1, b.2 - 6) (.int r :: rest) h')) := propext ⟨fun ⟨a1, a2, _, a4, a5, a6⟩ => ⟨a1, a2, ⟨a4, a5⟩, a6⟩, fun ⟨a1, a2, ⟨a4, a5⟩, a6⟩ => ⟨a1, a2, by decide, a4, a5, a6⟩⟩
theorem d_X4_weightedTokens : msD sX4_weightedTokens = 6 := rfl
theorem rt_X4_weightedTokens : sX4_weightedTokens.2.2.2.1 = some FieldType.int := rfl
theorem co_X4_weightedTokens : (sX4_weightedTokens.2.2.2.2.2.2.2.1 = 1) ∧ sX4_weightedTokens.2.2.2.2.2.2.2.2 = 6 := ⟨rfl, rfl⟩
theorem in_X4_weightedTokens : ¬ isIn sX4_weightedTokens := show ¬ ("weightedTokens" = "<init>") by decide
theorem c_X4_weightedTokens {x : CX} {q : MS} {as rest : List Value} {h : MH} {xk : String → MH → Prop} {b : Nat × Nat} {K : Nat × Nat → List Value → MH → Prop} : (callE x q sX4_weightedTokens as rest h xk b K) = (catS rest ≤ 8 ∧ 6 < msD q ∧ (1 ≤ b.1 ∧ 6 ≤ b.2) ∧ CALLI x sX4_weightedTokens as h xk (fun r h' => K (b.1 - 1, b.2 - 6) (.int r :: rest) h')) := propext ⟨fun ⟨a1, a2, _, a4, a5, a6⟩ => ⟨a1, a2, ⟨a4, a5⟩, a6⟩, fun ⟨a1, a2, ⟨a4, a5⟩, a6⟩ => ⟨a1, a2, by decide, a4, a5, a6⟩⟩
theorem d_X4_simpleInvariants : msD sX4_simpleInvariants = 3 := rfl
theorem rt_X4_simpleInvariants : sX4_simpleInvariants.2.2.2.1 = some FieldType.int := rfl
theorem co_X4_simpleInvariants : (sX4_simpleInvariants.2.2.2.2.2.2.2.1 = 0) ∧ sX4_simpleInvariants.2.2.2.2.2.2.2.2 = 0 := ⟨rfl, rfl⟩
theorem in_X4_simpleInvariants : ¬ isIn sX4_simpleInvariants := show ¬ ("simpleInvariants" = "<init>") by decide
theorem c_X4_simpleInvariants {x : CX} {q : MS} {as rest : List Value} {h : MH} {xk : String → MH → Prop} {b : Nat × Nat} {K : Nat × Nat → List Value → MH → Prop} : (callE x q sX4_simpleInvariants as rest h xk b K) = (catS rest ≤ 8 ∧ 3 < msD q ∧ CALLI x sX4_simpleInvariants as h xk (fun r h' => K b (.int r :: rest) h')) := propext ⟨fun ⟨a1, a2, _, _, _, a6⟩ => ⟨a1, a2, a6⟩, fun ⟨a1, a2, a6⟩ => ⟨a1, a2, by decide, Nat.zero_le _, Nat.zero_le _, a6⟩⟩
theorem d_X4_smallestInvariant : msD sX4_smallestInvariant = 3 := rfl
theorem rt_X4_smallestInvariant : sX4_smallestInvariant.2.2.2.1 = some FieldType.int := rfl
theorem co_X4_smallestInvariant : (sX4_smallestInvariant.2.2.2.2.2.2.2.1 = 0) ∧ sX4_smallestInvariant.2.2.2.2.2.2.2.2 = 0 := ⟨rfl, rfl⟩
theorem in_X4_smallestInvariant : ¬ isIn sX4_smallestInvariant := show ¬ ("smallestInvariant" = "<init>") by decide
theorem c_X4_smallestInvariant {x : CX} {q : MS} {as rest : List Value} {h : MH} {xk : String → MH → Prop} {b : Nat × Nat} {K : Nat × Nat → List Value → MH → Prop} : (callE x q sX4_smallestInvariant as rest h xk b K) = (catS rest ≤ 8 ∧ 3 < msD q ∧ CALLI x sX4_smallestInvariant as h xk (fun r h' => K b (.int r :: rest) h')) := propext ⟨fun ⟨a1, a2, _, _, _, a6⟩ => ⟨a1, a2, a6⟩, fun ⟨a1, a2, a6⟩ => ⟨a1, a2, by decide, Nat.zero_le _, Nat.zero_le _, a6⟩⟩
theorem d_X4_coveredPlaces : msD sX4_coveredPlaces = 3 := rfl
theorem rt_X4_coveredPlaces : sX4_coveredPlaces.2.2.2.1 = some FieldType.int := rfl
theorem co_X4_coveredPlaces : (sX4_coveredPlaces.2.2.2.2.2.2.2.1 = 0) ∧ sX4_coveredPlaces.2.2.2.2.2.2.2.2 = 0 := ⟨rfl, rfl⟩
theorem in_X4_coveredPlaces : ¬ isIn sX4_coveredPlaces := show ¬ ("coveredPlaces" = "<init>") by decide
theorem c_X4_coveredPlaces {x : CX} {q : MS} {as rest : List Value} {h : MH} {xk : String → MH → Prop} {b : Nat × Nat} {K : Nat × Nat → List Value → MH → Prop} : (callE x q sX4_coveredPlaces as rest h xk b K) = (catS rest ≤ 8 ∧ 3 < msD q ∧ CALLI x sX4_coveredPlaces as h xk (fun r h' => K b (.int r :: rest) h')) := propext ⟨fun ⟨a1, a2, _, _, _, a6⟩ => ⟨a1, a2, a6⟩, fun ⟨a1, a2, a6⟩ => ⟨a1, a2, by decide, Nat.zero_le _, Nat.zero_le _, a6⟩⟩
theorem d_X4_readVector : msD sX4_readVector = 5 := rfl
theorem rt_X4_readVector : sX4_readVector.2.2.2.1 = none := rfl
theorem co_X4_readVector : (sX4_readVector.2.2.2.2.2.2.2.1 = 1) ∧ sX4_readVector.2.2.2.2.2.2.2.2 = 6 := ⟨rfl, rfl⟩
theorem in_X4_readVector : ¬ isIn sX4_readVector := show ¬ ("readVector" = "<init>") by decide
theorem c_X4_readVector {x : CX} {q : MS} {as rest : List Value} {h : MH} {xk : String → MH → Prop} {b : Nat × Nat} {K : Nat × Nat → List Value → MH → Prop} : (callE x q sX4_readVector as rest h xk b K) = (catS rest ≤ 8 ∧ 5 < msD q ∧ (1 ≤ b.1 ∧ 6 ≤ b.2) ∧ CALLV x sX4_readVector as h xk (fun h' => K (b.1 - 1, b.2 - 6) rest h')) := propext ⟨fun ⟨a1, a2, _, a4, a5, a6⟩ => ⟨a1, a2, ⟨a4, a5⟩, a6⟩, fun ⟨a1, a2, ⟨a4, a5⟩, a6⟩ => ⟨a1, a2, by decide, a4, a5, a6⟩⟩
theorem d_X4_isSimpleInvariant : msD sX4_isSimpleInvariant = 2 := rfl
theorem rt_X4_isSimpleInvariant : sX4_isSimpleInvariant.2.2.2.1 = some FieldType.boolean := rfl
theorem co_X4_isSimpleInvariant : (sX4_isSimpleInvariant.2.2.2.2.2.2.2.1 = 0) ∧ sX4_isSimpleInvariant.2.2.2.2.2.2.2.2 = 0 := ⟨rfl, rfl⟩
theorem in_X4_isSimpleInvariant : ¬ isIn sX4_isSimpleInvariant := show ¬ ("isSimpleInvariant" = "<init>") by decide
theorem c_X4_isSimpleInvariant {x : CX} {q : MS} {as rest : List Value} {h : MH} {xk : String → MH → Prop} {b : Nat × Nat} {K : Nat × Nat → List Value → MH → Prop} : (callE x q sX4_isSimpleInvariant as rest h xk b K) = (catS rest ≤ 8 ∧ 2 < msD q ∧ CALLI x sX4_isSimpleInvariant as h xk (fun r h' => K b (.int r :: rest) h')) := propext ⟨fun ⟨a1, a2, _, _, _, a6⟩ => ⟨a1, a2, a6⟩, fun ⟨a1, a2, a6⟩ => ⟨a1, a2, by decide, Nat.zero_le _, Nat.zero_le _, a6⟩⟩
theorem d_X4_vectorOf : msD sX4_vectorOf = 0 := rfl
theorem rt_X4_vectorOf : sX4_vectorOf.2.2.2.1 = some FieldType.int := rfl
theorem co_X4_vectorOf : (sX4_vectorOf.2.2.2.2.2.2.2.1 = 0) ∧ sX4_vectorOf.2.2.2.2.2.2.2.2 = 0 := ⟨rfl, rfl⟩
theorem in_X4_vectorOf : ¬ isIn sX4_vectorOf := show ¬ ("vectorOf" = "<init>") by decide
theorem c_X4_vectorOf {x : CX} {q : MS} {as rest : List Value} {h : MH} {xk : String → MH → Prop} {b : Nat × Nat} {K : Nat × Nat → List Value → MH → Prop} : (callE x q sX4_vectorOf as rest h xk b K) = (catS rest ≤ 8 ∧ 0 < msD q ∧ CALLI x sX4_vectorOf as h xk (fun r h' => K b (.int r :: rest) h')) := propext ⟨fun ⟨a1, a2, _, _, _, a6⟩ => ⟨a1, a2, a6⟩, fun ⟨a1, a2, a6⟩ => ⟨a1, a2, by decide, Nat.zero_le _, Nat.zero_le _, a6⟩⟩
theorem d_X4_tokensAfterRun : msD sX4_tokensAfterRun = 6 := rfl
theorem rt_X4_tokensAfterRun : sX4_tokensAfterRun.2.2.2.1 = some FieldType.int := rfl
theorem co_X4_tokensAfterRun : (sX4_tokensAfterRun.2.2.2.2.2.2.2.1 = 2) ∧ sX4_tokensAfterRun.2.2.2.2.2.2.2.2 = 12 := ⟨rfl, rfl⟩
theorem in_X4_tokensAfterRun : ¬ isIn sX4_tokensAfterRun := show ¬ ("tokensAfterRun" = "<init>") by decide
theorem c_X4_tokensAfterRun {x : CX} {q : MS} {as rest : List Value} {h : MH} {xk : String → MH → Prop} {b : Nat × Nat} {K : Nat × Nat → List Value → MH → Prop} : (callE x q sX4_tokensAfterRun as rest h xk b K) = (catS rest ≤ 8 ∧ 6 < msD q ∧ (2 ≤ b.1 ∧ 12 ≤ b.2) ∧ CALLI x sX4_tokensAfterRun as h xk (fun r h' => K (b.1 - 2, b.2 - 12) (.int r :: rest) h')) := propext ⟨fun ⟨a1, a2, _, a4, a5, a6⟩ => ⟨a1, a2, ⟨a4, a5⟩, a6⟩, fun ⟨a1, a2, ⟨a4, a5⟩, a6⟩ => ⟨a1, a2, by decide, a4, a5, a6⟩⟩
theorem d_X4_runLength : msD sX4_runLength = 4 := rfl
theorem rt_X4_runLength : sX4_runLength.2.2.2.1 = some FieldType.int := rfl
theorem co_X4_runLength : (sX4_runLength.2.2.2.2.2.2.2.1 = 0) ∧ sX4_runLength.2.2.2.2.2.2.2.2 = 0 := ⟨rfl, rfl⟩
theorem in_X4_runLength : ¬ isIn sX4_runLength := show ¬ ("runLength" = "<init>") by decide
theorem c_X4_runLength {x : CX} {q : MS} {as rest : List Value} {h : MH} {xk : String → MH → Prop} {b : Nat × Nat} {K : Nat × Nat → List Value → MH → Prop} : (callE x q sX4_runLength as rest h xk b K) = (catS rest ≤ 8 ∧ 4 < msD q ∧ CALLI x sX4_runLength as h xk (fun r h' => K b (.int r :: rest) h')) := propext ⟨fun ⟨a1, a2, _, _, _, a6⟩ => ⟨a1, a2, a6⟩, fun ⟨a1, a2, a6⟩ => ⟨a1, a2, by decide, Nat.zero_le _, Nat.zero_le _, a6⟩⟩
theorem d_X4_load : msD sX4_load = 1 := rfl
theorem rt_X4_load : sX4_load.2.2.2.1 = some FieldType.double := rfl
theorem co_X4_load : (sX4_load.2.2.2.2.2.2.2.1 = 0) ∧ sX4_load.2.2.2.2.2.2.2.2 = 0 := ⟨rfl, rfl⟩
theorem in_X4_load : ¬ isIn sX4_load := show ¬ ("load" = "<init>") by decide
theorem d_X4_enabledShare : msD sX4_enabledShare = 3 := rfl
theorem rt_X4_enabledShare : sX4_enabledShare.2.2.2.1 = some FieldType.float := rfl
theorem co_X4_enabledShare : (sX4_enabledShare.2.2.2.2.2.2.2.1 = 0) ∧ sX4_enabledShare.2.2.2.2.2.2.2.2 = 0 := ⟨rfl, rfl⟩
theorem in_X4_enabledShare : ¬ isIn sX4_enabledShare := show ¬ ("enabledShare" = "<init>") by decide
theorem d_X4_violations : msD sX4_violations = 6 := rfl
theorem rt_X4_violations : sX4_violations.2.2.2.1 = some FieldType.int := rfl
theorem co_X4_violations : (sX4_violations.2.2.2.2.2.2.2.1 = 0) ∧ sX4_violations.2.2.2.2.2.2.2.2 = 0 := ⟨rfl, rfl⟩
theorem in_X4_violations : ¬ isIn sX4_violations := show ¬ ("violations" = "<init>") by decide
theorem c_X4_violations {x : CX} {q : MS} {as rest : List Value} {h : MH} {xk : String → MH → Prop} {b : Nat × Nat} {K : Nat × Nat → List Value → MH → Prop} : (callE x q sX4_violations as rest h xk b K) = (catS rest ≤ 8 ∧ 6 < msD q ∧ CALLI x sX4_violations as h xk (fun r h' => K b (.int r :: rest) h')) := propext ⟨fun ⟨a1, a2, _, _, _, a6⟩ => ⟨a1, a2, a6⟩, fun ⟨a1, a2, a6⟩ => ⟨a1, a2, by decide, Nat.zero_le _, Nat.zero_le _, a6⟩⟩
theorem d_X4_writeMarking : msD sX4_writeMarking = 3 := rfl
theorem rt_X4_writeMarking : sX4_writeMarking.2.2.2.1 = some FieldType.int := rfl
theorem co_X4_writeMarking : (sX4_writeMarking.2.2.2.2.2.2.2.1 = 0) ∧ sX4_writeMarking.2.2.2.2.2.2.2.2 = 0 := ⟨rfl, rfl⟩
theorem in_X4_writeMarking : ¬ isIn sX4_writeMarking := show ¬ ("writeMarking" = "<init>") by decide
theorem c_X4_writeMarking {x : CX} {q : MS} {as rest : List Value} {h : MH} {xk : String → MH → Prop} {b : Nat × Nat} {K : Nat × Nat → List Value → MH → Prop} : (callE x q sX4_writeMarking as rest h xk b K) = (catS rest ≤ 8 ∧ 3 < msD q ∧ CALLI x sX4_writeMarking as h xk (fun r h' => K b (.int r :: rest) h')) := propext ⟨fun ⟨a1, a2, _, _, _, a6⟩ => ⟨a1, a2, a6⟩, fun ⟨a1, a2, a6⟩ => ⟨a1, a2, by decide, Nat.zero_le _, Nat.zero_le _, a6⟩⟩
theorem d_X4_reportByte : msD sX4_reportByte = 0 := rfl
theorem rt_X4_reportByte : sX4_reportByte.2.2.2.1 = some FieldType.int := rfl
theorem co_X4_reportByte : (sX4_reportByte.2.2.2.2.2.2.2.1 = 0) ∧ sX4_reportByte.2.2.2.2.2.2.2.2 = 0 := ⟨rfl, rfl⟩
theorem in_X4_reportByte : ¬ isIn sX4_reportByte := show ¬ ("reportByte" = "<init>") by decide
theorem c_X4_reportByte {x : CX} {q : MS} {as rest : List Value} {h : MH} {xk : String → MH → Prop} {b : Nat × Nat} {K : Nat × Nat → List Value → MH → Prop} : (callE x q sX4_reportByte as rest h xk b K) = (catS rest ≤ 8 ∧ 0 < msD q ∧ CALLI x sX4_reportByte as h xk (fun r h' => K b (.int r :: rest) h')) := propext ⟨fun ⟨a1, a2, _, _, _, a6⟩ => ⟨a1, a2, a6⟩, fun ⟨a1, a2, a6⟩ => ⟨a1, a2, by decide, Nat.zero_le _, Nat.zero_le _, a6⟩⟩
theorem d_X4_putEnabled : msD sX4_putEnabled = 2 := rfl
theorem rt_X4_putEnabled : sX4_putEnabled.2.2.2.1 = none := rfl
theorem co_X4_putEnabled : (sX4_putEnabled.2.2.2.2.2.2.2.1 = 0) ∧ sX4_putEnabled.2.2.2.2.2.2.2.2 = 0 := ⟨rfl, rfl⟩
theorem in_X4_putEnabled : ¬ isIn sX4_putEnabled := show ¬ ("putEnabled" = "<init>") by decide
theorem c_X4_putEnabled {x : CX} {q : MS} {as rest : List Value} {h : MH} {xk : String → MH → Prop} {b : Nat × Nat} {K : Nat × Nat → List Value → MH → Prop} : (callE x q sX4_putEnabled as rest h xk b K) = (catS rest ≤ 8 ∧ 2 < msD q ∧ CALLV x sX4_putEnabled as h xk (fun h' => K b rest h')) := propext ⟨fun ⟨a1, a2, _, _, _, a6⟩ => ⟨a1, a2, a6⟩, fun ⟨a1, a2, a6⟩ => ⟨a1, a2, by decide, Nat.zero_le _, Nat.zero_le _, a6⟩⟩
theorem d_X4_putNumber : msD sX4_putNumber = 1 := rfl
theorem rt_X4_putNumber : sX4_putNumber.2.2.2.1 = none := rfl
theorem co_X4_putNumber : (sX4_putNumber.2.2.2.2.2.2.2.1 = 0) ∧ sX4_putNumber.2.2.2.2.2.2.2.2 = 0 := ⟨rfl, rfl⟩
theorem in_X4_putNumber : ¬ isIn sX4_putNumber := show ¬ ("putNumber" = "<init>") by decide
theorem c_X4_putNumber {x : CX} {q : MS} {as rest : List Value} {h : MH} {xk : String → MH → Prop} {b : Nat × Nat} {K : Nat × Nat → List Value → MH → Prop} : (callE x q sX4_putNumber as rest h xk b K) = (catS rest ≤ 8 ∧ 1 < msD q ∧ CALLV x sX4_putNumber as h xk (fun h' => K b rest h')) := propext ⟨fun ⟨a1, a2, _, _, _, a6⟩ => ⟨a1, a2, a6⟩, fun ⟨a1, a2, a6⟩ => ⟨a1, a2, by decide, Nat.zero_le _, Nat.zero_le _, a6⟩⟩
theorem d_X4_put : msD sX4_put = 0 := rfl
theorem rt_X4_put : sX4_put.2.2.2.1 = none := rfl
theorem co_X4_put : (sX4_put.2.2.2.2.2.2.2.1 = 0) ∧ sX4_put.2.2.2.2.2.2.2.2 = 0 := ⟨rfl, rfl⟩
theorem in_X4_put : ¬ isIn sX4_put := show ¬ ("put" = "<init>") by decide
theorem c_X4_put {x : CX} {q : MS} {as rest : List Value} {h : MH} {xk : String → MH → Prop} {b : Nat × Nat} {K : Nat × Nat → List Value → MH → Prop} : (callE x q sX4_put as rest h xk b K) = (catS rest ≤ 8 ∧ 0 < msD q ∧ CALLV x sX4_put as h xk (fun h' => K b rest h')) := propext ⟨fun ⟨a1, a2, _, _, _, a6⟩ => ⟨a1, a2, a6⟩, fun ⟨a1, a2, a6⟩ => ⟨a1, a2, by decide, Nat.zero_le _, Nat.zero_le _, a6⟩⟩
theorem d_X4_checkPlace : msD sX4_checkPlace = 5 := rfl
theorem rt_X4_checkPlace : sX4_checkPlace.2.2.2.1 = none := rfl
theorem co_X4_checkPlace : (sX4_checkPlace.2.2.2.2.2.2.2.1 = 1) ∧ sX4_checkPlace.2.2.2.2.2.2.2.2 = 6 := ⟨rfl, rfl⟩
theorem in_X4_checkPlace : ¬ isIn sX4_checkPlace := show ¬ ("checkPlace" = "<init>") by decide
theorem c_X4_checkPlace {x : CX} {q : MS} {as rest : List Value} {h : MH} {xk : String → MH → Prop} {b : Nat × Nat} {K : Nat × Nat → List Value → MH → Prop} : (callE x q sX4_checkPlace as rest h xk b K) = (catS rest ≤ 8 ∧ 5 < msD q ∧ (1 ≤ b.1 ∧ 6 ≤ b.2) ∧ CALLV x sX4_checkPlace as h xk (fun h' => K (b.1 - 1, b.2 - 6) rest h')) := propext ⟨fun ⟨a1, a2, _, a4, a5, a6⟩ => ⟨a1, a2, ⟨a4, a5⟩, a6⟩, fun ⟨a1, a2, ⟨a4, a5⟩, a6⟩ => ⟨a1, a2, by decide, a4, a5, a6⟩⟩
theorem d_X4_checkTransition : msD sX4_checkTransition = 5 := rfl
theorem rt_X4_checkTransition : sX4_checkTransition.2.2.2.1 = none := rfl
theorem co_X4_checkTransition : (sX4_checkTransition.2.2.2.2.2.2.2.1 = 1) ∧ sX4_checkTransition.2.2.2.2.2.2.2.2 = 6 := ⟨rfl, rfl⟩
theorem in_X4_checkTransition : ¬ isIn sX4_checkTransition := show ¬ ("checkTransition" = "<init>") by decide
theorem c_X4_checkTransition {x : CX} {q : MS} {as rest : List Value} {h : MH} {xk : String → MH → Prop} {b : Nat × Nat} {K : Nat × Nat → List Value → MH → Prop} : (callE x q sX4_checkTransition as rest h xk b K) = (catS rest ≤ 8 ∧ 5 < msD q ∧ (1 ≤ b.1 ∧ 6 ≤ b.2) ∧ CALLV x sX4_checkTransition as h xk (fun h' => K (b.1 - 1, b.2 - 6) rest h')) := propext ⟨fun ⟨a1, a2, _, a4, a5, a6⟩ => ⟨a1, a2, ⟨a4, a5⟩, a6⟩, fun ⟨a1, a2, ⟨a4, a5⟩, a6⟩ => ⟨a1, a2, by decide, a4, a5, a6⟩⟩
theorem d_X4_checkArc : msD sX4_checkArc = 6 := rfl
theorem rt_X4_checkArc : sX4_checkArc.2.2.2.1 = none := rfl
theorem co_X4_checkArc : (sX4_checkArc.2.2.2.2.2.2.2.1 = 3) ∧ sX4_checkArc.2.2.2.2.2.2.2.2 = 18 := ⟨rfl, rfl⟩
theorem in_X4_checkArc : ¬ isIn sX4_checkArc := show ¬ ("checkArc" = "<init>") by decide
theorem c_X4_checkArc {x : CX} {q : MS} {as rest : List Value} {h : MH} {xk : String → MH → Prop} {b : Nat × Nat} {K : Nat × Nat → List Value → MH → Prop} : (callE x q sX4_checkArc as rest h xk b K) = (catS rest ≤ 8 ∧ 6 < msD q ∧ (3 ≤ b.1 ∧ 18 ≤ b.2) ∧ CALLV x sX4_checkArc as h xk (fun h' => K (b.1 - 3, b.2 - 18) rest h')) := propext ⟨fun ⟨a1, a2, _, a4, a5, a6⟩ => ⟨a1, a2, ⟨a4, a5⟩, a6⟩, fun ⟨a1, a2, ⟨a4, a5⟩, a6⟩ => ⟨a1, a2, by decide, a4, a5, a6⟩⟩
theorem d_X4_checkMarking : msD sX4_checkMarking = 5 := rfl
theorem rt_X4_checkMarking : sX4_checkMarking.2.2.2.1 = none := rfl
theorem co_X4_checkMarking : (sX4_checkMarking.2.2.2.2.2.2.2.1 = 1) ∧ sX4_checkMarking.2.2.2.2.2.2.2.2 = 6 := ⟨rfl, rfl⟩
theorem in_X4_checkMarking : ¬ isIn sX4_checkMarking := show ¬ ("checkMarking" = "<init>") by decide
theorem c_X4_checkMarking {x : CX} {q : MS} {as rest : List Value} {h : MH} {xk : String → MH → Prop} {b : Nat × Nat} {K : Nat × Nat → List Value → MH → Prop} : (callE x q sX4_checkMarking as rest h xk b K) = (catS rest ≤ 8 ∧ 5 < msD q ∧ (1 ≤ b.1 ∧ 6 ≤ b.2) ∧ CALLV x sX4_checkMarking as h xk (fun h' => K (b.1 - 1, b.2 - 6) rest h')) := propext ⟨fun ⟨a1, a2, _, a4, a5, a6⟩ => ⟨a1, a2, ⟨a4, a5⟩, a6⟩, fun ⟨a1, a2, ⟨a4, a5⟩, a6⟩ => ⟨a1, a2, by decide, a4, a5, a6⟩⟩
theorem d_X4_checkRange : msD sX4_checkRange = 5 := rfl
theorem rt_X4_checkRange : sX4_checkRange.2.2.2.1 = none := rfl
theorem co_X4_checkRange : (sX4_checkRange.2.2.2.2.2.2.2.1 = 1) ∧ sX4_checkRange.2.2.2.2.2.2.2.2 = 6 := ⟨rfl, rfl⟩
theorem in_X4_checkRange : ¬ isIn sX4_checkRange := show ¬ ("checkRange" = "<init>") by decide
theorem c_X4_checkRange {x : CX} {q : MS} {as rest : List Value} {h : MH} {xk : String → MH → Prop} {b : Nat × Nat} {K : Nat × Nat → List Value → MH → Prop} : (callE x q sX4_checkRange as rest h xk b K) = (catS rest ≤ 8 ∧ 5 < msD q ∧ (1 ≤ b.1 ∧ 6 ≤ b.2) ∧ CALLV x sX4_checkRange as h xk (fun h' => K (b.1 - 1, b.2 - 6) rest h')) := propext ⟨fun ⟨a1, a2, _, a4, a5, a6⟩ => ⟨a1, a2, ⟨a4, a5⟩, a6⟩, fun ⟨a1, a2, ⟨a4, a5⟩, a6⟩ => ⟨a1, a2, by decide, a4, a5, a6⟩⟩
theorem d_X5_init : msD sX5_init = 4 := rfl
theorem rt_X5_init : sX5_init.2.2.2.1 = none := rfl
theorem co_X5_init : (sX5_init.2.2.2.2.2.2.2.1 = 40) ∧ sX5_init.2.2.2.2.2.2.2.2 = 8000 := ⟨rfl, rfl⟩
theorem c_X5_init {x : CX} {q : MS} {as rest : List Value} {h : MH} {xk : String → MH → Prop} {b : Nat × Nat} {K : Nat × Nat → List Value → MH → Prop} : (callE x q sX5_init as rest h xk b K) = (catS rest ≤ 8 ∧ 4 < msD q ∧ (40 ≤ b.1 ∧ 8000 ≤ b.2) ∧ CALLV x sX5_init as h xk (fun h' => K (b.1 - 40, b.2 - 8000) rest h')) := propext ⟨fun ⟨a1, a2, _, a4, a5, a6⟩ => ⟨a1, a2, ⟨a4, a5⟩, a6⟩, fun ⟨a1, a2, ⟨a4, a5⟩, a6⟩ => ⟨a1, a2, by decide, a4, a5, a6⟩⟩
theorem d_X5_thrown : msD sX5_thrown = 0 := rfl
theorem rt_X5_thrown : sX5_thrown.2.2.2.1 = some FieldType.int := rfl
theorem co_X5_thrown : (sX5_thrown.2.2.2.2.2.2.2.1 = 0) ∧ sX5_thrown.2.2.2.2.2.2.2.2 = 0 := ⟨rfl, rfl⟩
theorem in_X5_thrown : ¬ isIn sX5_thrown := show ¬ ("thrown" = "<init>") by decide
theorem c_X5_thrown {x : CX} {q : MS} {as rest : List Value} {h : MH} {xk : String → MH → Prop} {b : Nat × Nat} {K : Nat × Nat → List Value → MH → Prop} : (callE x q sX5_thrown as rest h xk b K) = (catS rest ≤ 8 ∧ 0 < msD q ∧ CALLI x sX5_thrown as h xk (fun r h' => K b (.int r :: rest) h')) := propext ⟨fun ⟨a1, a2, _, _, _, a6⟩ => ⟨a1, a2, a6⟩, fun ⟨a1, a2, a6⟩ => ⟨a1, a2, by decide, Nat.zero_le _, Nat.zero_le _, a6⟩⟩
theorem d_X5_copy : msD sX5_copy = 0 := rfl
theorem rt_X5_copy : sX5_copy.2.2.2.1 = none := rfl
theorem co_X5_copy : (sX5_copy.2.2.2.2.2.2.2.1 = 0) ∧ sX5_copy.2.2.2.2.2.2.2.2 = 0 := ⟨rfl, rfl⟩
theorem in_X5_copy : ¬ isIn sX5_copy := show ¬ ("copy" = "<init>") by decide
theorem c_X5_copy {x : CX} {q : MS} {as rest : List Value} {h : MH} {xk : String → MH → Prop} {b : Nat × Nat} {K : Nat × Nat → List Value → MH → Prop} : (callE x q sX5_copy as rest h xk b K) = (catS rest ≤ 8 ∧ 0 < msD q ∧ CALLV x sX5_copy as h xk (fun h' => K b rest h')) := propext ⟨fun ⟨a1, a2, _, _, _, a6⟩ => ⟨a1, a2, a6⟩, fun ⟨a1, a2, a6⟩ => ⟨a1, a2, by decide, Nat.zero_le _, Nat.zero_le _, a6⟩⟩
theorem d_X5_start : msD sX5_start = 0 := rfl
theorem rt_X5_start : sX5_start.2.2.2.1 = none := rfl
theorem co_X5_start : (sX5_start.2.2.2.2.2.2.2.1 = 0) ∧ sX5_start.2.2.2.2.2.2.2.2 = 0 := ⟨rfl, rfl⟩
theorem in_X5_start : ¬ isIn sX5_start := show ¬ ("start" = "<init>") by decide
theorem c_X5_start {x : CX} {q : MS} {as rest : List Value} {h : MH} {xk : String → MH → Prop} {b : Nat × Nat} {K : Nat × Nat → List Value → MH → Prop} : (callE x q sX5_start as rest h xk b K) = (catS rest ≤ 8 ∧ 0 < msD q ∧ CALLV x sX5_start as h xk (fun h' => K b rest h')) := propext ⟨fun ⟨a1, a2, _, _, _, a6⟩ => ⟨a1, a2, a6⟩, fun ⟨a1, a2, a6⟩ => ⟨a1, a2, by decide, Nat.zero_le _, Nat.zero_le _, a6⟩⟩
theorem d_X5_remember : msD sX5_remember = 1 := rfl
theorem rt_X5_remember : sX5_remember.2.2.2.1 = none := rfl
theorem co_X5_remember : (sX5_remember.2.2.2.2.2.2.2.1 = 0) ∧ sX5_remember.2.2.2.2.2.2.2.2 = 0 := ⟨rfl, rfl⟩
theorem in_X5_remember : ¬ isIn sX5_remember := show ¬ ("remember" = "<init>") by decide
theorem c_X5_remember {x : CX} {q : MS} {as rest : List Value} {h : MH} {xk : String → MH → Prop} {b : Nat × Nat} {K : Nat × Nat → List Value → MH → Prop} : (callE x q sX5_remember as rest h xk b K) = (catS rest ≤ 8 ∧ 1 < msD q ∧ CALLV x sX5_remember as h xk (fun h' => K b rest h')) := propext ⟨fun ⟨a1, a2, _, _, _, a6⟩ => ⟨a1, a2, a6⟩, fun ⟨a1, a2, a6⟩ => ⟨a1, a2, by decide, Nat.zero_le _, Nat.zero_le _, a6⟩⟩
theorem d_X5_outside : msD sX5_outside = 0 := rfl
theorem rt_X5_outside : sX5_outside.2.2.2.1 = some FieldType.boolean := rfl
theorem co_X5_outside : (sX5_outside.2.2.2.2.2.2.2.1 = 0) ∧ sX5_outside.2.2.2.2.2.2.2.2 = 0 := ⟨rfl, rfl⟩
theorem in_X5_outside : ¬ isIn sX5_outside := show ¬ ("outside" = "<init>") by decide
theorem c_X5_outside {x : CX} {q : MS} {as rest : List Value} {h : MH} {xk : String → MH → Prop} {b : Nat × Nat} {K : Nat × Nat → List Value → MH → Prop} : (callE x q sX5_outside as rest h xk b K) = (catS rest ≤ 8 ∧ 0 < msD q ∧ CALLI x sX5_outside as h xk (fun r h' => K b (.int r :: rest) h')) := propext ⟨fun ⟨a1, a2, _, _, _, a6⟩ => ⟨a1, a2, a6⟩, fun ⟨a1, a2, a6⟩ => ⟨a1, a2, by decide, Nat.zero_le _, Nat.zero_le _, a6⟩⟩
theorem d_X5_raise : msD sX5_raise = 0 := rfl
theorem rt_X5_raise : sX5_raise.2.2.2.1 = some FieldType.boolean := rfl
theorem co_X5_raise : (sX5_raise.2.2.2.2.2.2.2.1 = 0) ∧ sX5_raise.2.2.2.2.2.2.2.2 = 0 := ⟨rfl, rfl⟩
theorem in_X5_raise : ¬ isIn sX5_raise := show ¬ ("raise" = "<init>") by decide
theorem c_X5_raise {x : CX} {q : MS} {as rest : List Value} {h : MH} {xk : String → MH → Prop} {b : Nat × Nat} {K : Nat × Nat → List Value → MH → Prop} : (callE x q sX5_raise as rest h xk b K) = (catS rest ≤ 8 ∧ 0 < msD q ∧ CALLI x sX5_raise as h xk (fun r h' => K b (.int r :: rest) h')) := propext ⟨fun ⟨a1, a2, _, _, _, a6⟩ => ⟨a1, a2, a6⟩, fun ⟨a1, a2, a6⟩ => ⟨a1, a2, by decide, Nat.zero_le _, Nat.zero_le _, a6⟩⟩
theorem d_X5_noPlace : msD sX5_noPlace = 1 := rfl
theorem rt_X5_noPlace : sX5_noPlace.2.2.2.1 = some FieldType.boolean := rfl
theorem co_X5_noPlace : (sX5_noPlace.2.2.2.2.2.2.2.1 = 0) ∧ sX5_noPlace.2.2.2.2.2.2.2.2 = 0 := ⟨rfl, rfl⟩
theorem in_X5_noPlace : ¬ isIn sX5_noPlace := show ¬ ("noPlace" = "<init>") by decide
theorem c_X5_noPlace {x : CX} {q : MS} {as rest : List Value} {h : MH} {xk : String → MH → Prop} {b : Nat × Nat} {K : Nat × Nat → List Value → MH → Prop} : (callE x q sX5_noPlace as rest h xk b K) = (catS rest ≤ 8 ∧ 1 < msD q ∧ CALLI x sX5_noPlace as h xk (fun r h' => K b (.int r :: rest) h')) := propext ⟨fun ⟨a1, a2, _, _, _, a6⟩ => ⟨a1, a2, a6⟩, fun ⟨a1, a2, a6⟩ => ⟨a1, a2, by decide, Nat.zero_le _, Nat.zero_le _, a6⟩⟩
theorem d_X5_noTransition : msD sX5_noTransition = 1 := rfl
theorem rt_X5_noTransition : sX5_noTransition.2.2.2.1 = some FieldType.boolean := rfl
theorem co_X5_noTransition : (sX5_noTransition.2.2.2.2.2.2.2.1 = 0) ∧ sX5_noTransition.2.2.2.2.2.2.2.2 = 0 := ⟨rfl, rfl⟩
theorem in_X5_noTransition : ¬ isIn sX5_noTransition := show ¬ ("noTransition" = "<init>") by decide
theorem c_X5_noTransition {x : CX} {q : MS} {as rest : List Value} {h : MH} {xk : String → MH → Prop} {b : Nat × Nat} {K : Nat × Nat → List Value → MH → Prop} : (callE x q sX5_noTransition as rest h xk b K) = (catS rest ≤ 8 ∧ 1 < msD q ∧ CALLI x sX5_noTransition as h xk (fun r h' => K b (.int r :: rest) h')) := propext ⟨fun ⟨a1, a2, _, _, _, a6⟩ => ⟨a1, a2, a6⟩, fun ⟨a1, a2, a6⟩ => ⟨a1, a2, by decide, Nat.zero_le _, Nat.zero_le _, a6⟩⟩
theorem d_X5_ones : msD sX5_ones = 0 := rfl
theorem rt_X5_ones : sX5_ones.2.2.2.1 = some FieldType.int := rfl
theorem co_X5_ones : (sX5_ones.2.2.2.2.2.2.2.1 = 0) ∧ sX5_ones.2.2.2.2.2.2.2.2 = 0 := ⟨rfl, rfl⟩
theorem in_X5_ones : ¬ isIn sX5_ones := show ¬ ("ones" = "<init>") by decide
theorem c_X5_ones {x : CX} {q : MS} {as rest : List Value} {h : MH} {xk : String → MH → Prop} {b : Nat × Nat} {K : Nat × Nat → List Value → MH → Prop} : (callE x q sX5_ones as rest h xk b K) = (catS rest ≤ 8 ∧ 0 < msD q ∧ CALLI x sX5_ones as h xk (fun r h' => K b (.int r :: rest) h')) := propext ⟨fun ⟨a1, a2, _, _, _, a6⟩ => ⟨a1, a2, a6⟩, fun ⟨a1, a2, a6⟩ => ⟨a1, a2, by decide, Nat.zero_le _, Nat.zero_le _, a6⟩⟩
theorem d_X5_arc : msD sX5_arc = 0 := rfl
theorem rt_X5_arc : sX5_arc.2.2.2.1 = some FieldType.int := rfl
theorem co_X5_arc : (sX5_arc.2.2.2.2.2.2.2.1 = 0) ∧ sX5_arc.2.2.2.2.2.2.2.2 = 0 := ⟨rfl, rfl⟩
theorem in_X5_arc : ¬ isIn sX5_arc := show ¬ ("arc" = "<init>") by decide
theorem c_X5_arc {x : CX} {q : MS} {as rest : List Value} {h : MH} {xk : String → MH → Prop} {b : Nat × Nat} {K : Nat × Nat → List Value → MH → Prop} : (callE x q sX5_arc as rest h xk b K) = (catS rest ≤ 8 ∧ 0 < msD q ∧ CALLI x sX5_arc as h xk (fun r h' => K b (.int r :: rest) h')) := propext ⟨fun ⟨a1, a2, _, _, _, a6⟩ => ⟨a1, a2, a6⟩, fun ⟨a1, a2, a6⟩ => ⟨a1, a2, by decide, Nat.zero_le _, Nat.zero_le _, a6⟩⟩
theorem d_X5_put : msD sX5_put = 0 := rfl
theorem rt_X5_put : sX5_put.2.2.2.1 = none := rfl
theorem co_X5_put : (sX5_put.2.2.2.2.2.2.2.1 = 0) ∧ sX5_put.2.2.2.2.2.2.2.2 = 0 := ⟨rfl, rfl⟩
theorem in_X5_put : ¬ isIn sX5_put := show ¬ ("put" = "<init>") by decide
theorem c_X5_put {x : CX} {q : MS} {as rest : List Value} {h : MH} {xk : String → MH → Prop} {b : Nat × Nat} {K : Nat × Nat → List Value → MH → Prop} : (callE x q sX5_put as rest h xk b K) = (catS rest ≤ 8 ∧ 0 < msD q ∧ CALLV x sX5_put as h xk (fun h' => K b rest h')) := propext ⟨fun ⟨a1, a2, _, _, _, a6⟩ => ⟨a1, a2, a6⟩, fun ⟨a1, a2, a6⟩ => ⟨a1, a2, by decide, Nat.zero_le _, Nat.zero_le _, a6⟩⟩
theorem d_X5_tokensOf : msD sX5_tokensOf = 0 := rfl
theorem rt_X5_tokensOf : sX5_tokensOf.2.2.2.1 = some FieldType.int := rfl
theorem co_X5_tokensOf : (sX5_tokensOf.2.2.2.2.2.2.2.1 = 0) ∧ sX5_tokensOf.2.2.2.2.2.2.2.2 = 0 := ⟨rfl, rfl⟩
theorem in_X5_tokensOf : ¬ isIn sX5_tokensOf := show ¬ ("tokensOf" = "<init>") by decide
theorem c_X5_tokensOf {x : CX} {q : MS} {as rest : List Value} {h : MH} {xk : String → MH → Prop} {b : Nat × Nat} {K : Nat × Nat → List Value → MH → Prop} : (callE x q sX5_tokensOf as rest h xk b K) = (catS rest ≤ 8 ∧ 0 < msD q ∧ CALLI x sX5_tokensOf as h xk (fun r h' => K b (.int r :: rest) h')) := propext ⟨fun ⟨a1, a2, _, _, _, a6⟩ => ⟨a1, a2, a6⟩, fun ⟨a1, a2, a6⟩ => ⟨a1, a2, by decide, Nat.zero_le _, Nat.zero_le _, a6⟩⟩
theorem d_X5_capacityOf : msD sX5_capacityOf = 0 := rfl
theorem rt_X5_capacityOf : sX5_capacityOf.2.2.2.1 = some FieldType.int := rfl
theorem co_X5_capacityOf : (sX5_capacityOf.2.2.2.2.2.2.2.1 = 0) ∧ sX5_capacityOf.2.2.2.2.2.2.2.2 = 0 := ⟨rfl, rfl⟩
theorem in_X5_capacityOf : ¬ isIn sX5_capacityOf := show ¬ ("capacityOf" = "<init>") by decide
theorem c_X5_capacityOf {x : CX} {q : MS} {as rest : List Value} {h : MH} {xk : String → MH → Prop} {b : Nat × Nat} {K : Nat × Nat → List Value → MH → Prop} : (callE x q sX5_capacityOf as rest h xk b K) = (catS rest ≤ 8 ∧ 0 < msD q ∧ CALLI x sX5_capacityOf as h xk (fun r h' => K b (.int r :: rest) h')) := propext ⟨fun ⟨a1, a2, _, _, _, a6⟩ => ⟨a1, a2, a6⟩, fun ⟨a1, a2, a6⟩ => ⟨a1, a2, by decide, Nat.zero_le _, Nat.zero_le _, a6⟩⟩
theorem d_X5_effectOf : msD sX5_effectOf = 1 := rfl
theorem rt_X5_effectOf : sX5_effectOf.2.2.2.1 = some FieldType.int := rfl
theorem co_X5_effectOf : (sX5_effectOf.2.2.2.2.2.2.2.1 = 0) ∧ sX5_effectOf.2.2.2.2.2.2.2.2 = 0 := ⟨rfl, rfl⟩
theorem in_X5_effectOf : ¬ isIn sX5_effectOf := show ¬ ("effectOf" = "<init>") by decide
theorem c_X5_effectOf {x : CX} {q : MS} {as rest : List Value} {h : MH} {xk : String → MH → Prop} {b : Nat × Nat} {K : Nat × Nat → List Value → MH → Prop} : (callE x q sX5_effectOf as rest h xk b K) = (catS rest ≤ 8 ∧ 1 < msD q ∧ CALLI x sX5_effectOf as h xk (fun r h' => K b (.int r :: rest) h')) := propext ⟨fun ⟨a1, a2, _, _, _, a6⟩ => ⟨a1, a2, a6⟩, fun ⟨a1, a2, a6⟩ => ⟨a1, a2, by decide, Nat.zero_le _, Nat.zero_le _, a6⟩⟩
theorem d_X5_applies : msD sX5_applies = 2 := rfl
theorem rt_X5_applies : sX5_applies.2.2.2.1 = some FieldType.boolean := rfl
theorem co_X5_applies : (sX5_applies.2.2.2.2.2.2.2.1 = 0) ∧ sX5_applies.2.2.2.2.2.2.2.2 = 0 := ⟨rfl, rfl⟩
theorem in_X5_applies : ¬ isIn sX5_applies := show ¬ ("applies" = "<init>") by decide
theorem c_X5_applies {x : CX} {q : MS} {as rest : List Value} {h : MH} {xk : String → MH → Prop} {b : Nat × Nat} {K : Nat × Nat → List Value → MH → Prop} : (callE x q sX5_applies as rest h xk b K) = (catS rest ≤ 8 ∧ 2 < msD q ∧ CALLI x sX5_applies as h xk (fun r h' => K b (.int r :: rest) h')) := propext ⟨fun ⟨a1, a2, _, _, _, a6⟩ => ⟨a1, a2, a6⟩, fun ⟨a1, a2, a6⟩ => ⟨a1, a2, by decide, Nat.zero_le _, Nat.zero_le _, a6⟩⟩
theorem d_X5_firstPlace : msD sX5_firstPlace = 3 := rfl
theorem rt_X5_firstPlace : sX5_firstPlace.2.2.2.1 = some FieldType.int := rfl
theorem co_X5_firstPlace : (sX5_firstPlace.2.2.2.2.2.2.2.1 = 0) ∧ sX5_firstPlace.2.2.2.2.2.2.2.2 = 0 := ⟨rfl, rfl⟩
theorem in_X5_firstPlace : ¬ isIn sX5_firstPlace := show ¬ ("firstPlace" = "<init>") by decide
theorem c_X5_firstPlace {x : CX} {q : MS} {as rest : List Value} {h : MH} {xk : String → MH → Prop} {b : Nat × Nat} {K : Nat × Nat → List Value → MH → Prop} : (callE x q sX5_firstPlace as rest h xk b K) = (catS rest ≤ 8 ∧ 3 < msD q ∧ CALLI x sX5_firstPlace as h xk (fun r h' => K b (.int r :: rest) h')) := propext ⟨fun ⟨a1, a2, _, _, _, a6⟩ => ⟨a1, a2, a6⟩, fun ⟨a1, a2, a6⟩ => ⟨a1, a2, by decide, Nat.zero_le _, Nat.zero_le _, a6⟩⟩
theorem d_X5_reasonOf : msD sX5_reasonOf = 4 := rfl
theorem rt_X5_reasonOf : sX5_reasonOf.2.2.2.1 = some FieldType.int := rfl
theorem co_X5_reasonOf : (sX5_reasonOf.2.2.2.2.2.2.2.1 = 0) ∧ sX5_reasonOf.2.2.2.2.2.2.2.2 = 0 := ⟨rfl, rfl⟩
theorem in_X5_reasonOf : ¬ isIn sX5_reasonOf := show ¬ ("reasonOf" = "<init>") by decide
theorem c_X5_reasonOf {x : CX} {q : MS} {as rest : List Value} {h : MH} {xk : String → MH → Prop} {b : Nat × Nat} {K : Nat × Nat → List Value → MH → Prop} : (callE x q sX5_reasonOf as rest h xk b K) = (catS rest ≤ 8 ∧ 4 < msD q ∧ CALLI x sX5_reasonOf as h xk (fun r h' => K b (.int r :: rest) h')) := propext ⟨fun ⟨a1, a2, _, _, _, a6⟩ => ⟨a1, a2, a6⟩, fun ⟨a1, a2, a6⟩ => ⟨a1, a2, by decide, Nat.zero_le _, Nat.zero_le _, a6⟩⟩
theorem d_X5_enabled : msD sX5_enabled = 5 := rfl
theorem rt_X5_enabled : sX5_enabled.2.2.2.1 = some FieldType.boolean := rfl
theorem co_X5_enabled : (sX5_enabled.2.2.2.2.2.2.2.1 = 0) ∧ sX5_enabled.2.2.2.2.2.2.2.2 = 0 := ⟨rfl, rfl⟩
theorem in_X5_enabled : ¬ isIn sX5_enabled := show ¬ ("enabled" = "<init>") by decide
theorem c_X5_enabled {x : CX} {q : MS} {as rest : List Value} {h : MH} {xk : String → MH → Prop} {b : Nat × Nat} {K : Nat × Nat → List Value → MH → Prop} : (callE x q sX5_enabled as rest h xk b K) = (catS rest ≤ 8 ∧ 5 < msD q ∧ CALLI x sX5_enabled as h xk (fun r h' => K b (.int r :: rest) h')) := propext ⟨fun ⟨a1, a2, _, _, _, a6⟩ => ⟨a1, a2, a6⟩, fun ⟨a1, a2, a6⟩ => ⟨a1, a2, by decide, Nat.zero_le _, Nat.zero_le _, a6⟩⟩
theorem d_X5_enabledSet : msD sX5_enabledSet = 6 := rfl
theorem rt_X5_enabledSet : sX5_enabledSet.2.2.2.1 = some FieldType.int := rfl
theorem co_X5_enabledSet : (sX5_enabledSet.2.2.2.2.2.2.2.1 = 0) ∧ sX5_enabledSet.2.2.2.2.2.2.2.2 = 0 := ⟨rfl, rfl⟩
theorem in_X5_enabledSet : ¬ isIn sX5_enabledSet := show ¬ ("enabledSet" = "<init>") by decide
theorem c_X5_enabledSet {x : CX} {q : MS} {as rest : List Value} {h : MH} {xk : String → MH → Prop} {b : Nat × Nat} {K : Nat × Nat → List Value → MH → Prop} : (callE x q sX5_enabledSet as rest h xk b K) = (catS rest ≤ 8 ∧ 6 < msD q ∧ CALLI x sX5_enabledSet as h xk (fun r h' => K b (.int r :: rest) h')) := propext ⟨fun ⟨a1, a2, _, _, _, a6⟩ => ⟨a1, a2, a6⟩, fun ⟨a1, a2, a6⟩ => ⟨a1, a2, by decide, Nat.zero_le _, Nat.zero_le _, a6⟩⟩
theorem d_X5_move : msD sX5_move = 2 := rfl
theorem rt_X5_move : sX5_move.2.2.2.1 = none := rfl
theorem co_X5_move : (sX5_move.2.2.2.2.2.2.2.1 = 0) ∧ sX5_move.2.2.2.2.2.2.2.2 = 0 := ⟨rfl, rfl⟩
theorem in_X5_move : ¬ isIn sX5_move := show ¬ ("move" = "<init>") by decide
theorem c_X5_move {x : CX} {q : MS} {as rest : List Value} {h : MH} {xk : String → MH → Prop} {b : Nat × Nat} {K : Nat × Nat → List Value → MH → Prop} : (callE x q sX5_move as rest h xk b K) = (catS rest ≤ 8 ∧ 2 < msD q ∧ CALLV x sX5_move as h xk (fun h' => K b rest h')) := propext ⟨fun ⟨a1, a2, _, _, _, a6⟩ => ⟨a1, a2, a6⟩, fun ⟨a1, a2, a6⟩ => ⟨a1, a2, by decide, Nat.zero_le _, Nat.zero_le _, a6⟩⟩
theorem d_X5_fireIt : msD sX5_fireIt = 3 := rfl
theorem rt_X5_fireIt : sX5_fireIt.2.2.2.1 = none := rfl
theorem co_X5_fireIt : (sX5_fireIt.2.2.2.2.2.2.2.1 = 0) ∧ sX5_fireIt.2.2.2.2.2.2.2.2 = 0 := ⟨rfl, rfl⟩
theorem in_X5_fireIt : ¬ isIn sX5_fireIt := show ¬ ("fireIt" = "<init>") by decide
theorem c_X5_fireIt {x : CX} {q : MS} {as rest : List Value} {h : MH} {xk : String → MH → Prop} {b : Nat × Nat} {K : Nat × Nat → List Value → MH → Prop} : (callE x q sX5_fireIt as rest h xk b K) = (catS rest ≤ 8 ∧ 3 < msD q ∧ CALLV x sX5_fireIt as h xk (fun h' => K b rest h')) := propext ⟨fun ⟨a1, a2, _, _, _, a6⟩ => ⟨a1, a2, a6⟩, fun ⟨a1, a2, a6⟩ => ⟨a1, a2, by decide, Nat.zero_le _, Nat.zero_le _, a6⟩⟩
theorem d_X5_allTokens : msD sX5_allTokens = 1 := rfl
theorem rt_X5_allTokens : sX5_allTokens.2.2.2.1 = some FieldType.int := rfl
theorem co_X5_allTokens : (sX5_allTokens.2.2.2.2.2.2.2.1 = 0) ∧ sX5_allTokens.2.2.2.2.2.2.2.2 = 0 := ⟨rfl, rfl⟩
theorem in_X5_allTokens : ¬ isIn sX5_allTokens := show ¬ ("allTokens" = "<init>") by decide
theorem c_X5_allTokens {x : CX} {q : MS} {as rest : List Value} {h : MH} {xk : String → MH → Prop} {b : Nat × Nat} {K : Nat × Nat → List Value → MH → Prop} : (callE x q sX5_allTokens as rest h xk b K) = (catS rest ≤ 8 ∧ 1 < msD q ∧ CALLI x sX5_allTokens as h xk (fun r h' => K b (.int r :: rest) h')) := propext ⟨fun ⟨a1, a2, _, _, _, a6⟩ => ⟨a1, a2, a6⟩, fun ⟨a1, a2, a6⟩ => ⟨a1, a2, by decide, Nat.zero_le _, Nat.zero_le _, a6⟩⟩
theorem d_X5_nextFired : msD sX5_nextFired = 6 := rfl
theorem rt_X5_nextFired : sX5_nextFired.2.2.2.1 = some FieldType.int := rfl
theorem co_X5_nextFired : (sX5_nextFired.2.2.2.2.2.2.2.1 = 0) ∧ sX5_nextFired.2.2.2.2.2.2.2.2 = 0 := ⟨rfl, rfl⟩
theorem in_X5_nextFired : ¬ isIn sX5_nextFired := show ¬ ("nextFired" = "<init>") by decide
theorem c_X5_nextFired {x : CX} {q : MS} {as rest : List Value} {h : MH} {xk : String → MH → Prop} {b : Nat × Nat} {K : Nat × Nat → List Value → MH → Prop} : (callE x q sX5_nextFired as rest h xk b K) = (catS rest ≤ 8 ∧ 6 < msD q ∧ CALLI x sX5_nextFired as h xk (fun r h' => K b (.int r :: rest) h')) := propext ⟨fun ⟨a1, a2, _, _, _, a6⟩ => ⟨a1, a2, a6⟩, fun ⟨a1, a2, a6⟩ => ⟨a1, a2, by decide, Nat.zero_le _, Nat.zero_le _, a6⟩⟩
theorem d_X5_runIt : msD sX5_runIt = 7 := rfl
theorem rt_X5_runIt : sX5_runIt.2.2.2.1 = some FieldType.int := rfl
theorem co_X5_runIt : (sX5_runIt.2.2.2.2.2.2.2.1 = 0) ∧ sX5_runIt.2.2.2.2.2.2.2.2 = 0 := ⟨rfl, rfl⟩
theorem in_X5_runIt : ¬ isIn sX5_runIt := show ¬ ("runIt" = "<init>") by decide
theorem c_X5_runIt {x : CX} {q : MS} {as rest : List Value} {h : MH} {xk : String → MH → Prop} {b : Nat × Nat} {K : Nat × Nat → List Value → MH → Prop} : (callE x q sX5_runIt as rest h xk b K) = (catS rest ≤ 8 ∧ 7 < msD q ∧ CALLI x sX5_runIt as h xk (fun r h' => K b (.int r :: rest) h')) := propext ⟨fun ⟨a1, a2, _, _, _, a6⟩ => ⟨a1, a2, a6⟩, fun ⟨a1, a2, a6⟩ => ⟨a1, a2, by decide, Nat.zero_le _, Nat.zero_le _, a6⟩⟩
theorem d_X5_note : msD sX5_note = 0 := rfl
theorem rt_X5_note : sX5_note.2.2.2.1 = none := rfl
theorem co_X5_note : (sX5_note.2.2.2.2.2.2.2.1 = 0) ∧ sX5_note.2.2.2.2.2.2.2.2 = 0 := ⟨rfl, rfl⟩
theorem in_X5_note : ¬ isIn sX5_note := show ¬ ("note" = "<init>") by decide
theorem c_X5_note {x : CX} {q : MS} {as rest : List Value} {h : MH} {xk : String → MH → Prop} {b : Nat × Nat} {K : Nat × Nat → List Value → MH → Prop} : (callE x q sX5_note as rest h xk b K) = (catS rest ≤ 8 ∧ 0 < msD q ∧ CALLV x sX5_note as h xk (fun h' => K b rest h')) := propext ⟨fun ⟨a1, a2, _, _, _, a6⟩ => ⟨a1, a2, a6⟩, fun ⟨a1, a2, a6⟩ => ⟨a1, a2, by decide, Nat.zero_le _, Nat.zero_le _, a6⟩⟩
theorem d_X5_take : msD sX5_take = 0 := rfl
theorem rt_X5_take : sX5_take.2.2.2.1 = none := rfl
theorem co_X5_take : (sX5_take.2.2.2.2.2.2.2.1 = 0) ∧ sX5_take.2.2.2.2.2.2.2.2 = 0 := ⟨rfl, rfl⟩
theorem in_X5_take : ¬ isIn sX5_take := show ¬ ("take" = "<init>") by decide
theorem c_X5_take {x : CX} {q : MS} {as rest : List Value} {h : MH} {xk : String → MH → Prop} {b : Nat × Nat} {K : Nat × Nat → List Value → MH → Prop} : (callE x q sX5_take as rest h xk b K) = (catS rest ≤ 8 ∧ 0 < msD q ∧ CALLV x sX5_take as h xk (fun h' => K b rest h')) := propext ⟨fun ⟨a1, a2, _, _, _, a6⟩ => ⟨a1, a2, a6⟩, fun ⟨a1, a2, a6⟩ => ⟨a1, a2, by decide, Nat.zero_le _, Nat.zero_le _, a6⟩⟩
theorem d_X5_isMarking : msD sX5_isMarking = 0 := rfl
theorem rt_X5_isMarking : sX5_isMarking.2.2.2.1 = some FieldType.boolean := rfl
theorem co_X5_isMarking : (sX5_isMarking.2.2.2.2.2.2.2.1 = 0) ∧ sX5_isMarking.2.2.2.2.2.2.2.2 = 0 := ⟨rfl, rfl⟩
theorem in_X5_isMarking : ¬ isIn sX5_isMarking := show ¬ ("isMarking" = "<init>") by decide
theorem c_X5_isMarking {x : CX} {q : MS} {as rest : List Value} {h : MH} {xk : String → MH → Prop} {b : Nat × Nat} {K : Nat × Nat → List Value → MH → Prop} : (callE x q sX5_isMarking as rest h xk b K) = (catS rest ≤ 8 ∧ 0 < msD q ∧ CALLI x sX5_isMarking as h xk (fun r h' => K b (.int r :: rest) h')) := propext ⟨fun ⟨a1, a2, _, _, _, a6⟩ => ⟨a1, a2, a6⟩, fun ⟨a1, a2, a6⟩ => ⟨a1, a2, by decide, Nat.zero_le _, Nat.zero_le _, a6⟩⟩
theorem d_X5_known : msD sX5_known = 1 := rfl
theorem rt_X5_known : sX5_known.2.2.2.1 = some FieldType.int := rfl
theorem co_X5_known : (sX5_known.2.2.2.2.2.2.2.1 = 0) ∧ sX5_known.2.2.2.2.2.2.2.2 = 0 := ⟨rfl, rfl⟩
theorem in_X5_known : ¬ isIn sX5_known := show ¬ ("known" = "<init>") by decide
theorem c_X5_known {x : CX} {q : MS} {as rest : List Value} {h : MH} {xk : String → MH → Prop} {b : Nat × Nat} {K : Nat × Nat → List Value → MH → Prop} : (callE x q sX5_known as rest h xk b K) = (catS rest ≤ 8 ∧ 1 < msD q ∧ CALLI x sX5_known as h xk (fun r h' => K b (.int r :: rest) h')) := propext ⟨fun ⟨a1, a2, _, _, _, a6⟩ => ⟨a1, a2, a6⟩, fun ⟨a1, a2, a6⟩ => ⟨a1, a2, by decide, Nat.zero_le _, Nat.zero_le _, a6⟩⟩
theorem d_X5_follow : msD sX5_follow = 6 := rfl
theorem rt_X5_follow : sX5_follow.2.2.2.1 = none := rfl
theorem co_X5_follow : (sX5_follow.2.2.2.2.2.2.2.1 = 0) ∧ sX5_follow.2.2.2.2.2.2.2.2 = 0 := ⟨rfl, rfl⟩
theorem in_X5_follow : ¬ isIn sX5_follow := show ¬ ("follow" = "<init>") by decide
theorem c_X5_follow {x : CX} {q : MS} {as rest : List Value} {h : MH} {xk : String → MH → Prop} {b : Nat × Nat} {K : Nat × Nat → List Value → MH → Prop} : (callE x q sX5_follow as rest h xk b K) = (catS rest ≤ 8 ∧ 6 < msD q ∧ CALLV x sX5_follow as h xk (fun h' => K b rest h')) := propext ⟨fun ⟨a1, a2, _, _, _, a6⟩ => ⟨a1, a2, a6⟩, fun ⟨a1, a2, a6⟩ => ⟨a1, a2, by decide, Nat.zero_le _, Nat.zero_le _, a6⟩⟩
theorem d_X5_explore : msD sX5_explore = 7 := rfl
theorem rt_X5_explore : sX5_explore.2.2.2.1 = none := rfl
theorem co_X5_explore : (sX5_explore.2.2.2.2.2.2.2.1 = 0) ∧ sX5_explore.2.2.2.2.2.2.2.2 = 0 := ⟨rfl, rfl⟩
theorem in_X5_explore : ¬ isIn sX5_explore := show ¬ ("explore" = "<init>") by decide
theorem c_X5_explore {x : CX} {q : MS} {as rest : List Value} {h : MH} {xk : String → MH → Prop} {b : Nat × Nat} {K : Nat × Nat → List Value → MH → Prop} : (callE x q sX5_explore as rest h xk b K) = (catS rest ≤ 8 ∧ 7 < msD q ∧ CALLV x sX5_explore as h xk (fun h' => K b rest h')) := propext ⟨fun ⟨a1, a2, _, _, _, a6⟩ => ⟨a1, a2, a6⟩, fun ⟨a1, a2, a6⟩ => ⟨a1, a2, by decide, Nat.zero_le _, Nat.zero_le _, a6⟩⟩
theorem d_X5_setTokens : msD sX5_setTokens = 2 := rfl
theorem rt_X5_setTokens : sX5_setTokens.2.2.2.1 = some FieldType.int := rfl
theorem co_X5_setTokens : (sX5_setTokens.2.2.2.2.2.2.2.1 = 0) ∧ sX5_setTokens.2.2.2.2.2.2.2.2 = 0 := ⟨rfl, rfl⟩
theorem in_X5_setTokens : ¬ isIn sX5_setTokens := show ¬ ("setTokens" = "<init>") by decide
theorem c_X5_setTokens {x : CX} {q : MS} {as rest : List Value} {h : MH} {xk : String → MH → Prop} {b : Nat × Nat} {K : Nat × Nat → List Value → MH → Prop} : (callE x q sX5_setTokens as rest h xk b K) = (catS rest ≤ 8 ∧ 2 < msD q ∧ CALLI x sX5_setTokens as h xk (fun r h' => K b (.int r :: rest) h')) := propext ⟨fun ⟨a1, a2, _, _, _, a6⟩ => ⟨a1, a2, a6⟩, fun ⟨a1, a2, a6⟩ => ⟨a1, a2, by decide, Nat.zero_le _, Nat.zero_le _, a6⟩⟩
theorem d_X5_setCapacity : msD sX5_setCapacity = 2 := rfl
theorem rt_X5_setCapacity : sX5_setCapacity.2.2.2.1 = some FieldType.int := rfl
theorem co_X5_setCapacity : (sX5_setCapacity.2.2.2.2.2.2.2.1 = 0) ∧ sX5_setCapacity.2.2.2.2.2.2.2.2 = 0 := ⟨rfl, rfl⟩
theorem in_X5_setCapacity : ¬ isIn sX5_setCapacity := show ¬ ("setCapacity" = "<init>") by decide
theorem c_X5_setCapacity {x : CX} {q : MS} {as rest : List Value} {h : MH} {xk : String → MH → Prop} {b : Nat × Nat} {K : Nat × Nat → List Value → MH → Prop} : (callE x q sX5_setCapacity as rest h xk b K) = (catS rest ≤ 8 ∧ 2 < msD q ∧ CALLI x sX5_setCapacity as h xk (fun r h' => K b (.int r :: rest) h')) := propext ⟨fun ⟨a1, a2, _, _, _, a6⟩ => ⟨a1, a2, a6⟩, fun ⟨a1, a2, a6⟩ => ⟨a1, a2, by decide, Nat.zero_le _, Nat.zero_le _, a6⟩⟩
theorem d_X5_setArc : msD sX5_setArc = 2 := rfl
theorem rt_X5_setArc : sX5_setArc.2.2.2.1 = some FieldType.int := rfl
theorem co_X5_setArc : (sX5_setArc.2.2.2.2.2.2.2.1 = 0) ∧ sX5_setArc.2.2.2.2.2.2.2.2 = 0 := ⟨rfl, rfl⟩
theorem in_X5_setArc : ¬ isIn sX5_setArc := show ¬ ("setArc" = "<init>") by decide
theorem c_X5_setArc {x : CX} {q : MS} {as rest : List Value} {h : MH} {xk : String → MH → Prop} {b : Nat × Nat} {K : Nat × Nat → List Value → MH → Prop} : (callE x q sX5_setArc as rest h xk b K) = (catS rest ≤ 8 ∧ 2 < msD q ∧ CALLI x sX5_setArc as h xk (fun r h' => K b (.int r :: rest) h')) := propext ⟨fun ⟨a1, a2, _, _, _, a6⟩ => ⟨a1, a2, a6⟩, fun ⟨a1, a2, a6⟩ => ⟨a1, a2, by decide, Nat.zero_le _, Nat.zero_le _, a6⟩⟩
theorem d_X5_setInput : msD sX5_setInput = 3 := rfl
theorem rt_X5_setInput : sX5_setInput.2.2.2.1 = some FieldType.int := rfl
theorem co_X5_setInput : (sX5_setInput.2.2.2.2.2.2.2.1 = 0) ∧ sX5_setInput.2.2.2.2.2.2.2.2 = 0 := ⟨rfl, rfl⟩
theorem in_X5_setInput : ¬ isIn sX5_setInput := show ¬ ("setInput" = "<init>") by decide
theorem c_X5_setInput {x : CX} {q : MS} {as rest : List Value} {h : MH} {xk : String → MH → Prop} {b : Nat × Nat} {K : Nat × Nat → List Value → MH → Prop} : (callE x q sX5_setInput as rest h xk b K) = (catS rest ≤ 8 ∧ 3 < msD q ∧ CALLI x sX5_setInput as h xk (fun r h' => K b (.int r :: rest) h')) := propext ⟨fun ⟨a1, a2, _, _, _, a6⟩ => ⟨a1, a2, a6⟩, fun ⟨a1, a2, a6⟩ => ⟨a1, a2, by decide, Nat.zero_le _, Nat.zero_le _, a6⟩⟩
theorem d_X5_setOutput : msD sX5_setOutput = 3 := rfl
theorem rt_X5_setOutput : sX5_setOutput.2.2.2.1 = some FieldType.int := rfl
theorem co_X5_setOutput : (sX5_setOutput.2.2.2.2.2.2.2.1 = 0) ∧ sX5_setOutput.2.2.2.2.2.2.2.2 = 0 := ⟨rfl, rfl⟩
theorem in_X5_setOutput : ¬ isIn sX5_setOutput := show ¬ ("setOutput" = "<init>") by decide
theorem c_X5_setOutput {x : CX} {q : MS} {as rest : List Value} {h : MH} {xk : String → MH → Prop} {b : Nat × Nat} {K : Nat × Nat → List Value → MH → Prop} : (callE x q sX5_setOutput as rest h xk b K) = (catS rest ≤ 8 ∧ 3 < msD q ∧ CALLI x sX5_setOutput as h xk (fun r h' => K b (.int r :: rest) h')) := propext ⟨fun ⟨a1, a2, _, _, _, a6⟩ => ⟨a1, a2, a6⟩, fun ⟨a1, a2, a6⟩ => ⟨a1, a2, by decide, Nat.zero_le _, Nat.zero_le _, a6⟩⟩
theorem d_X5_setInhibitor : msD sX5_setInhibitor = 3 := rfl
theorem rt_X5_setInhibitor : sX5_setInhibitor.2.2.2.1 = some FieldType.int := rfl
theorem co_X5_setInhibitor : (sX5_setInhibitor.2.2.2.2.2.2.2.1 = 0) ∧ sX5_setInhibitor.2.2.2.2.2.2.2.2 = 0 := ⟨rfl, rfl⟩
theorem in_X5_setInhibitor : ¬ isIn sX5_setInhibitor := show ¬ ("setInhibitor" = "<init>") by decide
theorem c_X5_setInhibitor {x : CX} {q : MS} {as rest : List Value} {h : MH} {xk : String → MH → Prop} {b : Nat × Nat} {K : Nat × Nat → List Value → MH → Prop} : (callE x q sX5_setInhibitor as rest h xk b K) = (catS rest ≤ 8 ∧ 3 < msD q ∧ CALLI x sX5_setInhibitor as h xk (fun r h' => K b (.int r :: rest) h')) := propext ⟨fun ⟨a1, a2, _, _, _, a6⟩ => ⟨a1, a2, a6⟩, fun ⟨a1, a2, a6⟩ => ⟨a1, a2, by decide, Nat.zero_le _, Nat.zero_le _, a6⟩⟩
theorem d_X5_fire : msD sX5_fire = 6 := rfl
theorem rt_X5_fire : sX5_fire.2.2.2.1 = some FieldType.int := rfl
theorem co_X5_fire : (sX5_fire.2.2.2.2.2.2.2.1 = 0) ∧ sX5_fire.2.2.2.2.2.2.2.2 = 0 := ⟨rfl, rfl⟩
theorem in_X5_fire : ¬ isIn sX5_fire := show ¬ ("fire" = "<init>") by decide
theorem c_X5_fire {x : CX} {q : MS} {as rest : List Value} {h : MH} {xk : String → MH → Prop} {b : Nat × Nat} {K : Nat × Nat → List Value → MH → Prop} : (callE x q sX5_fire as rest h xk b K) = (catS rest ≤ 8 ∧ 6 < msD q ∧ CALLI x sX5_fire as h xk (fun r h' => K b (.int r :: rest) h')) := propext ⟨fun ⟨a1, a2, _, _, _, a6⟩ => ⟨a1, a2, a6⟩, fun ⟨a1, a2, a6⟩ => ⟨a1, a2, by decide, Nat.zero_le _, Nat.zero_le _, a6⟩⟩
theorem d_X5_run : msD sX5_run = 8 := rfl
theorem rt_X5_run : sX5_run.2.2.2.1 = some FieldType.int := rfl
theorem co_X5_run : (sX5_run.2.2.2.2.2.2.2.1 = 0) ∧ sX5_run.2.2.2.2.2.2.2.2 = 0 := ⟨rfl, rfl⟩
theorem in_X5_run : ¬ isIn sX5_run := show ¬ ("run" = "<init>") by decide
theorem c_X5_run {x : CX} {q : MS} {as rest : List Value} {h : MH} {xk : String → MH → Prop} {b : Nat × Nat} {K : Nat × Nat → List Value → MH → Prop} : (callE x q sX5_run as rest h xk b K) = (catS rest ≤ 8 ∧ 8 < msD q ∧ CALLI x sX5_run as h xk (fun r h' => K b (.int r :: rest) h')) := propext ⟨fun ⟨a1, a2, _, _, _, a6⟩ => ⟨a1, a2, a6⟩, fun ⟨a1, a2, a6⟩ => ⟨a1, a2, by decide, Nat.zero_le _, Nat.zero_le _, a6⟩⟩
theorem d_X5_noMarking : msD sX5_noMarking = 8 := rfl
theorem rt_X5_noMarking : sX5_noMarking.2.2.2.1 = some FieldType.boolean := rfl
theorem co_X5_noMarking : (sX5_noMarking.2.2.2.2.2.2.2.1 = 0) ∧ sX5_noMarking.2.2.2.2.2.2.2.2 = 0 := ⟨rfl, rfl⟩
theorem in_X5_noMarking : ¬ isIn sX5_noMarking := show ¬ ("noMarking" = "<init>") by decide
theorem c_X5_noMarking {x : CX} {q : MS} {as rest : List Value} {h : MH} {xk : String → MH → Prop} {b : Nat × Nat} {K : Nat × Nat → List Value → MH → Prop} : (callE x q sX5_noMarking as rest h xk b K) = (catS rest ≤ 8 ∧ 8 < msD q ∧ CALLI x sX5_noMarking as h xk (fun r h' => K b (.int r :: rest) h')) := propext ⟨fun ⟨a1, a2, _, _, _, a6⟩ => ⟨a1, a2, a6⟩, fun ⟨a1, a2, a6⟩ => ⟨a1, a2, by decide, Nat.zero_le _, Nat.zero_le _, a6⟩⟩
theorem d_X5_moveToMarking : msD sX5_moveToMarking = 9 := rfl
theorem rt_X5_moveToMarking : sX5_moveToMarking.2.2.2.1 = some FieldType.int := rfl
theorem co_X5_moveToMarking : (sX5_moveToMarking.2.2.2.2.2.2.2.1 = 0) ∧ sX5_moveToMarking.2.2.2.2.2.2.2.2 = 0 := ⟨rfl, rfl⟩
theorem in_X5_moveToMarking : ¬ isIn sX5_moveToMarking := show ¬ ("moveToMarking" = "<init>") by decide
theorem c_X5_moveToMarking {x : CX} {q : MS} {as rest : List Value} {h : MH} {xk : String → MH → Prop} {b : Nat × Nat} {K : Nat × Nat → List Value → MH → Prop} : (callE x q sX5_moveToMarking as rest h xk b K) = (catS rest ≤ 8 ∧ 9 < msD q ∧ CALLI x sX5_moveToMarking as h xk (fun r h' => K b (.int r :: rest) h')) := propext ⟨fun ⟨a1, a2, _, _, _, a6⟩ => ⟨a1, a2, a6⟩, fun ⟨a1, a2, a6⟩ => ⟨a1, a2, by decide, Nat.zero_le _, Nat.zero_le _, a6⟩⟩
theorem d_X5_reverseNet : msD sX5_reverseNet = 7 := rfl
theorem rt_X5_reverseNet : sX5_reverseNet.2.2.2.1 = some FieldType.int := rfl
theorem co_X5_reverseNet : (sX5_reverseNet.2.2.2.2.2.2.2.1 = 0) ∧ sX5_reverseNet.2.2.2.2.2.2.2.2 = 0 := ⟨rfl, rfl⟩
theorem in_X5_reverseNet : ¬ isIn sX5_reverseNet := show ¬ ("reverseNet" = "<init>") by decide
theorem c_X5_reverseNet {x : CX} {q : MS} {as rest : List Value} {h : MH} {xk : String → MH → Prop} {b : Nat × Nat} {K : Nat × Nat → List Value → MH → Prop} : (callE x q sX5_reverseNet as rest h xk b K) = (catS rest ≤ 8 ∧ 7 < msD q ∧ CALLI x sX5_reverseNet as h xk (fun r h' => K b (.int r :: rest) h')) := propext ⟨fun ⟨a1, a2, _, _, _, a6⟩ => ⟨a1, a2, a6⟩, fun ⟨a1, a2, a6⟩ => ⟨a1, a2, by decide, Nat.zero_le _, Nat.zero_le _, a6⟩⟩
theorem d_X5_undo : msD sX5_undo = 1 := rfl
theorem rt_X5_undo : sX5_undo.2.2.2.1 = some FieldType.int := rfl
theorem co_X5_undo : (sX5_undo.2.2.2.2.2.2.2.1 = 0) ∧ sX5_undo.2.2.2.2.2.2.2.2 = 0 := ⟨rfl, rfl⟩
theorem in_X5_undo : ¬ isIn sX5_undo := show ¬ ("undo" = "<init>") by decide
theorem c_X5_undo {x : CX} {q : MS} {as rest : List Value} {h : MH} {xk : String → MH → Prop} {b : Nat × Nat} {K : Nat × Nat → List Value → MH → Prop} : (callE x q sX5_undo as rest h xk b K) = (catS rest ≤ 8 ∧ 1 < msD q ∧ CALLI x sX5_undo as h xk (fun r h' => K b (.int r :: rest) h')) := propext ⟨fun ⟨a1, a2, _, _, _, a6⟩ => ⟨a1, a2, a6⟩, fun ⟨a1, a2, a6⟩ => ⟨a1, a2, by decide, Nat.zero_le _, Nat.zero_le _, a6⟩⟩
theorem d_X5_undoCount : msD sX5_undoCount = 0 := rfl
theorem rt_X5_undoCount : sX5_undoCount.2.2.2.1 = some FieldType.int := rfl
theorem co_X5_undoCount : (sX5_undoCount.2.2.2.2.2.2.2.1 = 0) ∧ sX5_undoCount.2.2.2.2.2.2.2.2 = 0 := ⟨rfl, rfl⟩
theorem in_X5_undoCount : ¬ isIn sX5_undoCount := show ¬ ("undoCount" = "<init>") by decide
theorem c_X5_undoCount {x : CX} {q : MS} {as rest : List Value} {h : MH} {xk : String → MH → Prop} {b : Nat × Nat} {K : Nat × Nat → List Value → MH → Prop} : (callE x q sX5_undoCount as rest h xk b K) = (catS rest ≤ 8 ∧ 0 < msD q ∧ CALLI x sX5_undoCount as h xk (fun r h' => K b (.int r :: rest) h')) := propext ⟨fun ⟨a1, a2, _, _, _, a6⟩ => ⟨a1, a2, a6⟩, fun ⟨a1, a2, a6⟩ => ⟨a1, a2, by decide, Nat.zero_le _, Nat.zero_le _, a6⟩⟩
theorem d_X5_saveSnapshot : msD sX5_saveSnapshot = 2 := rfl
theorem rt_X5_saveSnapshot : sX5_saveSnapshot.2.2.2.1 = some FieldType.int := rfl
theorem co_X5_saveSnapshot : (sX5_saveSnapshot.2.2.2.2.2.2.2.1 = 0) ∧ sX5_saveSnapshot.2.2.2.2.2.2.2.2 = 0 := ⟨rfl, rfl⟩
theorem in_X5_saveSnapshot : ¬ isIn sX5_saveSnapshot := show ¬ ("saveSnapshot" = "<init>") by decide
theorem c_X5_saveSnapshot {x : CX} {q : MS} {as rest : List Value} {h : MH} {xk : String → MH → Prop} {b : Nat × Nat} {K : Nat × Nat → List Value → MH → Prop} : (callE x q sX5_saveSnapshot as rest h xk b K) = (catS rest ≤ 8 ∧ 2 < msD q ∧ CALLI x sX5_saveSnapshot as h xk (fun r h' => K b (.int r :: rest) h')) := propext ⟨fun ⟨a1, a2, _, _, _, a6⟩ => ⟨a1, a2, a6⟩, fun ⟨a1, a2, a6⟩ => ⟨a1, a2, by decide, Nat.zero_le _, Nat.zero_le _, a6⟩⟩
theorem d_X5_restoreSnapshot : msD sX5_restoreSnapshot = 2 := rfl
theorem rt_X5_restoreSnapshot : sX5_restoreSnapshot.2.2.2.1 = some FieldType.int := rfl
theorem co_X5_restoreSnapshot : (sX5_restoreSnapshot.2.2.2.2.2.2.2.1 = 0) ∧ sX5_restoreSnapshot.2.2.2.2.2.2.2.2 = 0 := ⟨rfl, rfl⟩
theorem in_X5_restoreSnapshot : ¬ isIn sX5_restoreSnapshot := show ¬ ("restoreSnapshot" = "<init>") by decide
theorem c_X5_restoreSnapshot {x : CX} {q : MS} {as rest : List Value} {h : MH} {xk : String → MH → Prop} {b : Nat × Nat} {K : Nat × Nat → List Value → MH → Prop} : (callE x q sX5_restoreSnapshot as rest h xk b K) = (catS rest ≤ 8 ∧ 2 < msD q ∧ CALLI x sX5_restoreSnapshot as h xk (fun r h' => K b (.int r :: rest) h')) := propext ⟨fun ⟨a1, a2, _, _, _, a6⟩ => ⟨a1, a2, a6⟩, fun ⟨a1, a2, a6⟩ => ⟨a1, a2, by decide, Nat.zero_le _, Nat.zero_le _, a6⟩⟩
theorem d_X5_letterAt : msD sX5_letterAt = 0 := rfl
theorem rt_X5_letterAt : sX5_letterAt.2.2.2.1 = some FieldType.boolean := rfl
theorem co_X5_letterAt : (sX5_letterAt.2.2.2.2.2.2.2.1 = 0) ∧ sX5_letterAt.2.2.2.2.2.2.2.2 = 0 := ⟨rfl, rfl⟩
theorem in_X5_letterAt : ¬ isIn sX5_letterAt := show ¬ ("letterAt" = "<init>") by decide
theorem c_X5_letterAt {x : CX} {q : MS} {as rest : List Value} {h : MH} {xk : String → MH → Prop} {b : Nat × Nat} {K : Nat × Nat → List Value → MH → Prop} : (callE x q sX5_letterAt as rest h xk b K) = (catS rest ≤ 8 ∧ 0 < msD q ∧ CALLI x sX5_letterAt as h xk (fun r h' => K b (.int r :: rest) h')) := propext ⟨fun ⟨a1, a2, _, _, _, a6⟩ => ⟨a1, a2, a6⟩, fun ⟨a1, a2, a6⟩ => ⟨a1, a2, by decide, Nat.zero_le _, Nat.zero_le _, a6⟩⟩
theorem d_X5_digitAt : msD sX5_digitAt = 0 := rfl
theorem rt_X5_digitAt : sX5_digitAt.2.2.2.1 = some FieldType.boolean := rfl
theorem co_X5_digitAt : (sX5_digitAt.2.2.2.2.2.2.2.1 = 0) ∧ sX5_digitAt.2.2.2.2.2.2.2.2 = 0 := ⟨rfl, rfl⟩
theorem in_X5_digitAt : ¬ isIn sX5_digitAt := show ¬ ("digitAt" = "<init>") by decide
theorem c_X5_digitAt {x : CX} {q : MS} {as rest : List Value} {h : MH} {xk : String → MH → Prop} {b : Nat × Nat} {K : Nat × Nat → List Value → MH → Prop} : (callE x q sX5_digitAt as rest h xk b K) = (catS rest ≤ 8 ∧ 0 < msD q ∧ CALLI x sX5_digitAt as h xk (fun r h' => K b (.int r :: rest) h')) := propext ⟨fun ⟨a1, a2, _, _, _, a6⟩ => ⟨a1, a2, a6⟩, fun ⟨a1, a2, a6⟩ => ⟨a1, a2, by decide, Nat.zero_le _, Nat.zero_le _, a6⟩⟩
theorem d_X5_scan : msD sX5_scan = 1 := rfl
theorem rt_X5_scan : sX5_scan.2.2.2.1 = none := rfl
theorem co_X5_scan : (sX5_scan.2.2.2.2.2.2.2.1 = 0) ∧ sX5_scan.2.2.2.2.2.2.2.2 = 0 := ⟨rfl, rfl⟩
theorem in_X5_scan : ¬ isIn sX5_scan := show ¬ ("scan" = "<init>") by decide
theorem c_X5_scan {x : CX} {q : MS} {as rest : List Value} {h : MH} {xk : String → MH → Prop} {b : Nat × Nat} {K : Nat × Nat → List Value → MH → Prop} : (callE x q sX5_scan as rest h xk b K) = (catS rest ≤ 8 ∧ 1 < msD q ∧ CALLV x sX5_scan as h xk (fun h' => K b rest h')) := propext ⟨fun ⟨a1, a2, _, _, _, a6⟩ => ⟨a1, a2, a6⟩, fun ⟨a1, a2, a6⟩ => ⟨a1, a2, by decide, Nat.zero_le _, Nat.zero_le _, a6⟩⟩
theorem d_X5_isWord : msD sX5_isWord = 4 := rfl
theorem rt_X5_isWord : sX5_isWord.2.2.2.1 = some FieldType.boolean := rfl
theorem co_X5_isWord : (sX5_isWord.2.2.2.2.2.2.2.1 = 0) ∧ sX5_isWord.2.2.2.2.2.2.2.2 = 0 := ⟨rfl, rfl⟩
theorem in_X5_isWord : ¬ isIn sX5_isWord := show ¬ ("isWord" = "<init>") by decide
theorem c_X5_isWord {x : CX} {q : MS} {as rest : List Value} {h : MH} {xk : String → MH → Prop} {b : Nat × Nat} {K : Nat × Nat → List Value → MH → Prop} : (callE x q sX5_isWord as rest h xk b K) = (catS rest ≤ 8 ∧ 4 < msD q ∧ CALLI x sX5_isWord as h xk (fun r h' => K b (.int r :: rest) h')) := propext ⟨fun ⟨a1, a2, _, _, _, a6⟩ => ⟨a1, a2, a6⟩, fun ⟨a1, a2, a6⟩ => ⟨a1, a2, by decide, Nat.zero_le _, Nat.zero_le _, a6⟩⟩
theorem d_X5_fail : msD sX5_fail = 0 := rfl
theorem rt_X5_fail : sX5_fail.2.2.2.1 = none := rfl
theorem co_X5_fail : (sX5_fail.2.2.2.2.2.2.2.1 = 0) ∧ sX5_fail.2.2.2.2.2.2.2.2 = 0 := ⟨rfl, rfl⟩
theorem in_X5_fail : ¬ isIn sX5_fail := show ¬ ("fail" = "<init>") by decide
theorem c_X5_fail {x : CX} {q : MS} {as rest : List Value} {h : MH} {xk : String → MH → Prop} {b : Nat × Nat} {K : Nat × Nat → List Value → MH → Prop} : (callE x q sX5_fail as rest h xk b K) = (catS rest ≤ 8 ∧ 0 < msD q ∧ CALLV x sX5_fail as h xk (fun h' => K b rest h')) := propext ⟨fun ⟨a1, a2, _, _, _, a6⟩ => ⟨a1, a2, a6⟩, fun ⟨a1, a2, a6⟩ => ⟨a1, a2, by decide, Nat.zero_le _, Nat.zero_le _, a6⟩⟩
theorem d_X5_good : msD sX5_good = 0 := rfl
theorem rt_X5_good : sX5_good.2.2.2.1 = some FieldType.boolean := rfl
theorem co_X5_good : (sX5_good.2.2.2.2.2.2.2.1 = 0) ∧ sX5_good.2.2.2.2.2.2.2.2 = 0 := ⟨rfl, rfl⟩
theorem in_X5_good : ¬ isIn sX5_good := show ¬ ("good" = "<init>") by decide
theorem c_X5_good {x : CX} {q : MS} {as rest : List Value} {h : MH} {xk : String → MH → Prop} {b : Nat × Nat} {K : Nat × Nat → List Value → MH → Prop} : (callE x q sX5_good as rest h xk b K) = (catS rest ≤ 8 ∧ 0 < msD q ∧ CALLI x sX5_good as h xk (fun r h' => K b (.int r :: rest) h')) := propext ⟨fun ⟨a1, a2, _, _, _, a6⟩ => ⟨a1, a2, a6⟩, fun ⟨a1, a2, a6⟩ => ⟨a1, a2, by decide, Nat.zero_le _, Nat.zero_le _, a6⟩⟩
theorem d_X5_advance : msD sX5_advance = 2 := rfl
theorem rt_X5_advance : sX5_advance.2.2.2.1 = none := rfl
theorem co_X5_advance : (sX5_advance.2.2.2.2.2.2.2.1 = 0) ∧ sX5_advance.2.2.2.2.2.2.2.2 = 0 := ⟨rfl, rfl⟩
theorem in_X5_advance : ¬ isIn sX5_advance := show ¬ ("advance" = "<init>") by decide
theorem c_X5_advance {x : CX} {q : MS} {as rest : List Value} {h : MH} {xk : String → MH → Prop} {b : Nat × Nat} {K : Nat × Nat → List Value → MH → Prop} : (callE x q sX5_advance as rest h xk b K) = (catS rest ≤ 8 ∧ 2 < msD q ∧ CALLV x sX5_advance as h xk (fun h' => K b rest h')) := propext ⟨fun ⟨a1, a2, _, _, _, a6⟩ => ⟨a1, a2, a6⟩, fun ⟨a1, a2, a6⟩ => ⟨a1, a2, by decide, Nat.zero_le _, Nat.zero_le _, a6⟩⟩
theorem d_X5_numberHere : msD sX5_numberHere = 1 := rfl
theorem rt_X5_numberHere : sX5_numberHere.2.2.2.1 = some FieldType.int := rfl
theorem co_X5_numberHere : (sX5_numberHere.2.2.2.2.2.2.2.1 = 0) ∧ sX5_numberHere.2.2.2.2.2.2.2.2 = 0 := ⟨rfl, rfl⟩
theorem in_X5_numberHere : ¬ isIn sX5_numberHere := show ¬ ("numberHere" = "<init>") by decide
theorem c_X5_numberHere {x : CX} {q : MS} {as rest : List Value} {h : MH} {xk : String → MH → Prop} {b : Nat × Nat} {K : Nat × Nat → List Value → MH → Prop} : (callE x q sX5_numberHere as rest h xk b K) = (catS rest ≤ 8 ∧ 1 < msD q ∧ CALLI x sX5_numberHere as h xk (fun r h' => K b (.int r :: rest) h')) := propext ⟨fun ⟨a1, a2, _, _, _, a6⟩ => ⟨a1, a2, a6⟩, fun ⟨a1, a2, a6⟩ => ⟨a1, a2, by decide, Nat.zero_le _, Nat.zero_le _, a6⟩⟩
theorem d_X5_number : msD sX5_number = 3 := rfl
theorem rt_X5_number : sX5_number.2.2.2.1 = some FieldType.int := rfl
theorem co_X5_number : (sX5_number.2.2.2.2.2.2.2.1 = 0) ∧ sX5_number.2.2.2.2.2.2.2.2 = 0 := ⟨rfl, rfl⟩
theorem in_X5_number : ¬ isIn sX5_number := show ¬ ("number" = "<init>") by decide
theorem c_X5_number {x : CX} {q : MS} {as rest : List Value} {h : MH} {xk : String → MH → Prop} {b : Nat × Nat} {K : Nat × Nat → List Value → MH → Prop} : (callE x q sX5_number as rest h xk b K) = (catS rest ≤ 8 ∧ 3 < msD q ∧ CALLI x sX5_number as h xk (fun r h' => K b (.int r :: rest) h')) := propext ⟨fun ⟨a1, a2, _, _, _, a6⟩ => ⟨a1, a2, a6⟩, fun ⟨a1, a2, a6⟩ => ⟨a1, a2, by decide, Nat.zero_le _, Nat.zero_le _, a6⟩⟩
theorem d_X5_aPlace : msD sX5_aPlace = 4 := rfl
theorem rt_X5_aPlace : sX5_aPlace.2.2.2.1 = some FieldType.int := rfl
theorem co_X5_aPlace : (sX5_aPlace.2.2.2.2.2.2.2.1 = 0) ∧ sX5_aPlace.2.2.2.2.2.2.2.2 = 0 := ⟨rfl, rfl⟩
theorem in_X5_aPlace : ¬ isIn sX5_aPlace := show ¬ ("aPlace" = "<init>") by decide
theorem c_X5_aPlace {x : CX} {q : MS} {as rest : List Value} {h : MH} {xk : String → MH → Prop} {b : Nat × Nat} {K : Nat × Nat → List Value → MH → Prop} : (callE x q sX5_aPlace as rest h xk b K) = (catS rest ≤ 8 ∧ 4 < msD q ∧ CALLI x sX5_aPlace as h xk (fun r h' => K b (.int r :: rest) h')) := propext ⟨fun ⟨a1, a2, _, _, _, a6⟩ => ⟨a1, a2, a6⟩, fun ⟨a1, a2, a6⟩ => ⟨a1, a2, by decide, Nat.zero_le _, Nat.zero_le _, a6⟩⟩
theorem d_X5_aTransition : msD sX5_aTransition = 4 := rfl
theorem rt_X5_aTransition : sX5_aTransition.2.2.2.1 = some FieldType.int := rfl
theorem co_X5_aTransition : (sX5_aTransition.2.2.2.2.2.2.2.1 = 0) ∧ sX5_aTransition.2.2.2.2.2.2.2.2 = 0 := ⟨rfl, rfl⟩
theorem in_X5_aTransition : ¬ isIn sX5_aTransition := show ¬ ("aTransition" = "<init>") by decide
theorem c_X5_aTransition {x : CX} {q : MS} {as rest : List Value} {h : MH} {xk : String → MH → Prop} {b : Nat × Nat} {K : Nat × Nat → List Value → MH → Prop} : (callE x q sX5_aTransition as rest h xk b K) = (catS rest ≤ 8 ∧ 4 < msD q ∧ CALLI x sX5_aTransition as h xk (fun r h' => K b (.int r :: rest) h')) := propext ⟨fun ⟨a1, a2, _, _, _, a6⟩ => ⟨a1, a2, a6⟩, fun ⟨a1, a2, a6⟩ => ⟨a1, a2, by decide, Nat.zero_le _, Nat.zero_le _, a6⟩⟩
theorem d_X5_ends : msD sX5_ends = 1 := rfl
theorem rt_X5_ends : sX5_ends.2.2.2.1 = some FieldType.boolean := rfl
theorem co_X5_ends : (sX5_ends.2.2.2.2.2.2.2.1 = 0) ∧ sX5_ends.2.2.2.2.2.2.2.2 = 0 := ⟨rfl, rfl⟩
theorem in_X5_ends : ¬ isIn sX5_ends := show ¬ ("ends" = "<init>") by decide
theorem c_X5_ends {x : CX} {q : MS} {as rest : List Value} {h : MH} {xk : String → MH → Prop} {b : Nat × Nat} {K : Nat × Nat → List Value → MH → Prop} : (callE x q sX5_ends as rest h xk b K) = (catS rest ≤ 8 ∧ 1 < msD q ∧ CALLI x sX5_ends as h xk (fun r h' => K b (.int r :: rest) h')) := propext ⟨fun ⟨a1, a2, _, _, _, a6⟩ => ⟨a1, a2, a6⟩, fun ⟨a1, a2, a6⟩ => ⟨a1, a2, by decide, Nat.zero_le _, Nat.zero_le _, a6⟩⟩
theorem d_X5_runScript : msD sX5_runScript = 10 := rfl
theorem rt_X5_runScript : sX5_runScript.2.2.2.1 = some FieldType.int := rfl
theorem co_X5_runScript : (sX5_runScript.2.2.2.2.2.2.2.1 = 0) ∧ sX5_runScript.2.2.2.2.2.2.2.2 = 0 := ⟨rfl, rfl⟩
theorem in_X5_runScript : ¬ isIn sX5_runScript := show ¬ ("runScript" = "<init>") by decide
theorem c_X5_runScript {x : CX} {q : MS} {as rest : List Value} {h : MH} {xk : String → MH → Prop} {b : Nat × Nat} {K : Nat × Nat → List Value → MH → Prop} : (callE x q sX5_runScript as rest h xk b K) = (catS rest ≤ 8 ∧ 10 < msD q ∧ CALLI x sX5_runScript as h xk (fun r h' => K b (.int r :: rest) h')) := propext ⟨fun ⟨a1, a2, _, _, _, a6⟩ => ⟨a1, a2, a6⟩, fun ⟨a1, a2, a6⟩ => ⟨a1, a2, by decide, Nat.zero_le _, Nat.zero_le _, a6⟩⟩
theorem d_X5_command : msD sX5_command = 9 := rfl
theorem rt_X5_command : sX5_command.2.2.2.1 = none := rfl
theorem co_X5_command : (sX5_command.2.2.2.2.2.2.2.1 = 0) ∧ sX5_command.2.2.2.2.2.2.2.2 = 0 := ⟨rfl, rfl⟩
theorem in_X5_command : ¬ isIn sX5_command := show ¬ ("command" = "<init>") by decide
theorem c_X5_command {x : CX} {q : MS} {as rest : List Value} {h : MH} {xk : String → MH → Prop} {b : Nat × Nat} {K : Nat × Nat → List Value → MH → Prop} : (callE x q sX5_command as rest h xk b K) = (catS rest ≤ 8 ∧ 9 < msD q ∧ CALLV x sX5_command as h xk (fun h' => K b rest h')) := propext ⟨fun ⟨a1, a2, _, _, _, a6⟩ => ⟨a1, a2, a6⟩, fun ⟨a1, a2, a6⟩ => ⟨a1, a2, by decide, Nat.zero_le _, Nat.zero_le _, a6⟩⟩
theorem d_X5_placedArc : msD sX5_placedArc = 5 := rfl
theorem rt_X5_placedArc : sX5_placedArc.2.2.2.1 = none := rfl
theorem co_X5_placedArc : (sX5_placedArc.2.2.2.2.2.2.2.1 = 0) ∧ sX5_placedArc.2.2.2.2.2.2.2.2 = 0 := ⟨rfl, rfl⟩
theorem in_X5_placedArc : ¬ isIn sX5_placedArc := show ¬ ("placedArc" = "<init>") by decide
theorem c_X5_placedArc {x : CX} {q : MS} {as rest : List Value} {h : MH} {xk : String → MH → Prop} {b : Nat × Nat} {K : Nat × Nat → List Value → MH → Prop} : (callE x q sX5_placedArc as rest h xk b K) = (catS rest ≤ 8 ∧ 5 < msD q ∧ CALLV x sX5_placedArc as h xk (fun h' => K b rest h')) := propext ⟨fun ⟨a1, a2, _, _, _, a6⟩ => ⟨a1, a2, a6⟩, fun ⟨a1, a2, a6⟩ => ⟨a1, a2, by decide, Nat.zero_le _, Nat.zero_le _, a6⟩⟩
theorem d_X5_arcCommand : msD sX5_arcCommand = 4 := rfl
theorem rt_X5_arcCommand : sX5_arcCommand.2.2.2.1 = none := rfl
theorem co_X5_arcCommand : (sX5_arcCommand.2.2.2.2.2.2.2.1 = 0) ∧ sX5_arcCommand.2.2.2.2.2.2.2.2 = 0 := ⟨rfl, rfl⟩
theorem in_X5_arcCommand : ¬ isIn sX5_arcCommand := show ¬ ("arcCommand" = "<init>") by decide
theorem c_X5_arcCommand {x : CX} {q : MS} {as rest : List Value} {h : MH} {xk : String → MH → Prop} {b : Nat × Nat} {K : Nat × Nat → List Value → MH → Prop} : (callE x q sX5_arcCommand as rest h xk b K) = (catS rest ≤ 8 ∧ 4 < msD q ∧ CALLV x sX5_arcCommand as h xk (fun h' => K b rest h')) := propext ⟨fun ⟨a1, a2, _, _, _, a6⟩ => ⟨a1, a2, a6⟩, fun ⟨a1, a2, a6⟩ => ⟨a1, a2, by decide, Nat.zero_le _, Nat.zero_le _, a6⟩⟩
theorem d_X5_firingCommand : msD sX5_firingCommand = 8 := rfl
theorem rt_X5_firingCommand : sX5_firingCommand.2.2.2.1 = none := rfl
theorem co_X5_firingCommand : (sX5_firingCommand.2.2.2.2.2.2.2.1 = 0) ∧ sX5_firingCommand.2.2.2.2.2.2.2.2 = 0 := ⟨rfl, rfl⟩
theorem in_X5_firingCommand : ¬ isIn sX5_firingCommand := show ¬ ("firingCommand" = "<init>") by decide
theorem c_X5_firingCommand {x : CX} {q : MS} {as rest : List Value} {h : MH} {xk : String → MH → Prop} {b : Nat × Nat} {K : Nat × Nat → List Value → MH → Prop} : (callE x q sX5_firingCommand as rest h xk b K) = (catS rest ≤ 8 ∧ 8 < msD q ∧ CALLV x sX5_firingCommand as h xk (fun h' => K b rest h')) := propext ⟨fun ⟨a1, a2, _, _, _, a6⟩ => ⟨a1, a2, a6⟩, fun ⟨a1, a2, a6⟩ => ⟨a1, a2, by decide, Nat.zero_le _, Nat.zero_le _, a6⟩⟩
theorem d_X5_type : msD sX5_type = 0 := rfl
theorem rt_X5_type : sX5_type.2.2.2.1 = none := rfl
theorem co_X5_type : (sX5_type.2.2.2.2.2.2.2.1 = 0) ∧ sX5_type.2.2.2.2.2.2.2.2 = 0 := ⟨rfl, rfl⟩
theorem in_X5_type : ¬ isIn sX5_type := show ¬ ("type" = "<init>") by decide
theorem c_X5_type {x : CX} {q : MS} {as rest : List Value} {h : MH} {xk : String → MH → Prop} {b : Nat × Nat} {K : Nat × Nat → List Value → MH → Prop} : (callE x q sX5_type as rest h xk b K) = (catS rest ≤ 8 ∧ 0 < msD q ∧ CALLV x sX5_type as h xk (fun h' => K b rest h')) := propext ⟨fun ⟨a1, a2, _, _, _, a6⟩ => ⟨a1, a2, a6⟩, fun ⟨a1, a2, a6⟩ => ⟨a1, a2, by decide, Nat.zero_le _, Nat.zero_le _, a6⟩⟩
theorem d_X5_append : msD sX5_append = 1 := rfl
theorem rt_X5_append : sX5_append.2.2.2.1 = some FieldType.int := rfl
theorem co_X5_append : (sX5_append.2.2.2.2.2.2.2.1 = 0) ∧ sX5_append.2.2.2.2.2.2.2.2 = 0 := ⟨rfl, rfl⟩
theorem in_X5_append : ¬ isIn sX5_append := show ¬ ("append" = "<init>") by decide
theorem c_X5_append {x : CX} {q : MS} {as rest : List Value} {h : MH} {xk : String → MH → Prop} {b : Nat × Nat} {K : Nat × Nat → List Value → MH → Prop} : (callE x q sX5_append as rest h xk b K) = (catS rest ≤ 8 ∧ 1 < msD q ∧ CALLI x sX5_append as h xk (fun r h' => K b (.int r :: rest) h')) := propext ⟨fun ⟨a1, a2, _, _, _, a6⟩ => ⟨a1, a2, a6⟩, fun ⟨a1, a2, a6⟩ => ⟨a1, a2, by decide, Nat.zero_le _, Nat.zero_le _, a6⟩⟩
theorem d_X5_truncateInput : msD sX5_truncateInput = 1 := rfl
theorem rt_X5_truncateInput : sX5_truncateInput.2.2.2.1 = some FieldType.int := rfl
theorem co_X5_truncateInput : (sX5_truncateInput.2.2.2.2.2.2.2.1 = 0) ∧ sX5_truncateInput.2.2.2.2.2.2.2.2 = 0 := ⟨rfl, rfl⟩
theorem in_X5_truncateInput : ¬ isIn sX5_truncateInput := show ¬ ("truncateInput" = "<init>") by decide
theorem c_X5_truncateInput {x : CX} {q : MS} {as rest : List Value} {h : MH} {xk : String → MH → Prop} {b : Nat × Nat} {K : Nat × Nat → List Value → MH → Prop} : (callE x q sX5_truncateInput as rest h xk b K) = (catS rest ≤ 8 ∧ 1 < msD q ∧ CALLI x sX5_truncateInput as h xk (fun r h' => K b (.int r :: rest) h')) := propext ⟨fun ⟨a1, a2, _, _, _, a6⟩ => ⟨a1, a2, a6⟩, fun ⟨a1, a2, a6⟩ => ⟨a1, a2, by decide, Nat.zero_le _, Nat.zero_le _, a6⟩⟩
theorem d_X5_inputLength : msD sX5_inputLength = 0 := rfl
theorem rt_X5_inputLength : sX5_inputLength.2.2.2.1 = some FieldType.int := rfl
theorem co_X5_inputLength : (sX5_inputLength.2.2.2.2.2.2.2.1 = 0) ∧ sX5_inputLength.2.2.2.2.2.2.2.2 = 0 := ⟨rfl, rfl⟩
theorem in_X5_inputLength : ¬ isIn sX5_inputLength := show ¬ ("inputLength" = "<init>") by decide
theorem c_X5_inputLength {x : CX} {q : MS} {as rest : List Value} {h : MH} {xk : String → MH → Prop} {b : Nat × Nat} {K : Nat × Nat → List Value → MH → Prop} : (callE x q sX5_inputLength as rest h xk b K) = (catS rest ≤ 8 ∧ 0 < msD q ∧ CALLI x sX5_inputLength as h xk (fun r h' => K b (.int r :: rest) h')) := propext ⟨fun ⟨a1, a2, _, _, _, a6⟩ => ⟨a1, a2, a6⟩, fun ⟨a1, a2, a6⟩ => ⟨a1, a2, by decide, Nat.zero_le _, Nat.zero_le _, a6⟩⟩
theorem d_X5_scriptErrorKind : msD sX5_scriptErrorKind = 0 := rfl
theorem rt_X5_scriptErrorKind : sX5_scriptErrorKind.2.2.2.1 = some FieldType.int := rfl
theorem co_X5_scriptErrorKind : (sX5_scriptErrorKind.2.2.2.2.2.2.2.1 = 0) ∧ sX5_scriptErrorKind.2.2.2.2.2.2.2.2 = 0 := ⟨rfl, rfl⟩
theorem in_X5_scriptErrorKind : ¬ isIn sX5_scriptErrorKind := show ¬ ("scriptErrorKind" = "<init>") by decide
theorem c_X5_scriptErrorKind {x : CX} {q : MS} {as rest : List Value} {h : MH} {xk : String → MH → Prop} {b : Nat × Nat} {K : Nat × Nat → List Value → MH → Prop} : (callE x q sX5_scriptErrorKind as rest h xk b K) = (catS rest ≤ 8 ∧ 0 < msD q ∧ CALLI x sX5_scriptErrorKind as h xk (fun r h' => K b (.int r :: rest) h')) := propext ⟨fun ⟨a1, a2, _, _, _, a6⟩ => ⟨a1, a2, a6⟩, fun ⟨a1, a2, a6⟩ => ⟨a1, a2, by decide, Nat.zero_le _, Nat.zero_le _, a6⟩⟩
theorem d_X5_scriptErrorOffset : msD sX5_scriptErrorOffset = 0 := rfl
theorem rt_X5_scriptErrorOffset : sX5_scriptErrorOffset.2.2.2.1 = some FieldType.int := rfl
theorem co_X5_scriptErrorOffset : (sX5_scriptErrorOffset.2.2.2.2.2.2.2.1 = 0) ∧ sX5_scriptErrorOffset.2.2.2.2.2.2.2.2 = 0 := ⟨rfl, rfl⟩
theorem in_X5_scriptErrorOffset : ¬ isIn sX5_scriptErrorOffset := show ¬ ("scriptErrorOffset" = "<init>") by decide
theorem c_X5_scriptErrorOffset {x : CX} {q : MS} {as rest : List Value} {h : MH} {xk : String → MH → Prop} {b : Nat × Nat} {K : Nat × Nat → List Value → MH → Prop} : (callE x q sX5_scriptErrorOffset as rest h xk b K) = (catS rest ≤ 8 ∧ 0 < msD q ∧ CALLI x sX5_scriptErrorOffset as h xk (fun r h' => K b (.int r :: rest) h')) := propext ⟨fun ⟨a1, a2, _, _, _, a6⟩ => ⟨a1, a2, a6⟩, fun ⟨a1, a2, a6⟩ => ⟨a1, a2, by decide, Nat.zero_le _, Nat.zero_le _, a6⟩⟩
theorem d_X5_placeCount : msD sX5_placeCount = 0 := rfl
theorem rt_X5_placeCount : sX5_placeCount.2.2.2.1 = some FieldType.int := rfl
theorem co_X5_placeCount : (sX5_placeCount.2.2.2.2.2.2.2.1 = 0) ∧ sX5_placeCount.2.2.2.2.2.2.2.2 = 0 := ⟨rfl, rfl⟩
theorem in_X5_placeCount : ¬ isIn sX5_placeCount := show ¬ ("placeCount" = "<init>") by decide
theorem c_X5_placeCount {x : CX} {q : MS} {as rest : List Value} {h : MH} {xk : String → MH → Prop} {b : Nat × Nat} {K : Nat × Nat → List Value → MH → Prop} : (callE x q sX5_placeCount as rest h xk b K) = (catS rest ≤ 8 ∧ 0 < msD q ∧ CALLI x sX5_placeCount as h xk (fun r h' => K b (.int r :: rest) h')) := propext ⟨fun ⟨a1, a2, _, _, _, a6⟩ => ⟨a1, a2, a6⟩, fun ⟨a1, a2, a6⟩ => ⟨a1, a2, by decide, Nat.zero_le _, Nat.zero_le _, a6⟩⟩
theorem d_X5_transitionCount : msD sX5_transitionCount = 0 := rfl
theorem rt_X5_transitionCount : sX5_transitionCount.2.2.2.1 = some FieldType.int := rfl
theorem co_X5_transitionCount : (sX5_transitionCount.2.2.2.2.2.2.2.1 = 0) ∧ sX5_transitionCount.2.2.2.2.2.2.2.2 = 0 := ⟨rfl, rfl⟩
theorem in_X5_transitionCount : ¬ isIn sX5_transitionCount := show ¬ ("transitionCount" = "<init>") by decide
theorem c_X5_transitionCount {x : CX} {q : MS} {as rest : List Value} {h : MH} {xk : String → MH → Prop} {b : Nat × Nat} {K : Nat × Nat → List Value → MH → Prop} : (callE x q sX5_transitionCount as rest h xk b K) = (catS rest ≤ 8 ∧ 0 < msD q ∧ CALLI x sX5_transitionCount as h xk (fun r h' => K b (.int r :: rest) h')) := propext ⟨fun ⟨a1, a2, _, _, _, a6⟩ => ⟨a1, a2, a6⟩, fun ⟨a1, a2, a6⟩ => ⟨a1, a2, by decide, Nat.zero_le _, Nat.zero_le _, a6⟩⟩
theorem d_X5_tokens : msD sX5_tokens = 2 := rfl
theorem rt_X5_tokens : sX5_tokens.2.2.2.1 = some FieldType.int := rfl
theorem co_X5_tokens : (sX5_tokens.2.2.2.2.2.2.2.1 = 0) ∧ sX5_tokens.2.2.2.2.2.2.2.2 = 0 := ⟨rfl, rfl⟩
theorem in_X5_tokens : ¬ isIn sX5_tokens := show ¬ ("tokens" = "<init>") by decide
theorem c_X5_tokens {x : CX} {q : MS} {as rest : List Value} {h : MH} {xk : String → MH → Prop} {b : Nat × Nat} {K : Nat × Nat → List Value → MH → Prop} : (callE x q sX5_tokens as rest h xk b K) = (catS rest ≤ 8 ∧ 2 < msD q ∧ CALLI x sX5_tokens as h xk (fun r h' => K b (.int r :: rest) h')) := propext ⟨fun ⟨a1, a2, _, _, _, a6⟩ => ⟨a1, a2, a6⟩, fun ⟨a1, a2, a6⟩ => ⟨a1, a2, by decide, Nat.zero_le _, Nat.zero_le _, a6⟩⟩
theorem d_X5_capacity : msD sX5_capacity = 2 := rfl
theorem rt_X5_capacity : sX5_capacity.2.2.2.1 = some FieldType.int := rfl
theorem co_X5_capacity : (sX5_capacity.2.2.2.2.2.2.2.1 = 0) ∧ sX5_capacity.2.2.2.2.2.2.2.2 = 0 := ⟨rfl, rfl⟩
theorem in_X5_capacity : ¬ isIn sX5_capacity := show ¬ ("capacity" = "<init>") by decide
theorem c_X5_capacity {x : CX} {q : MS} {as rest : List Value} {h : MH} {xk : String → MH → Prop} {b : Nat × Nat} {K : Nat × Nat → List Value → MH → Prop} : (callE x q sX5_capacity as rest h xk b K) = (catS rest ≤ 8 ∧ 2 < msD q ∧ CALLI x sX5_capacity as h xk (fun r h' => K b (.int r :: rest) h')) := propext ⟨fun ⟨a1, a2, _, _, _, a6⟩ => ⟨a1, a2, a6⟩, fun ⟨a1, a2, a6⟩ => ⟨a1, a2, by decide, Nat.zero_le _, Nat.zero_le _, a6⟩⟩
theorem d_X5_effect : msD sX5_effect = 2 := rfl
theorem rt_X5_effect : sX5_effect.2.2.2.1 = some FieldType.int := rfl
theorem co_X5_effect : (sX5_effect.2.2.2.2.2.2.2.1 = 0) ∧ sX5_effect.2.2.2.2.2.2.2.2 = 0 := ⟨rfl, rfl⟩
theorem in_X5_effect : ¬ isIn sX5_effect := show ¬ ("effect" = "<init>") by decide
theorem c_X5_effect {x : CX} {q : MS} {as rest : List Value} {h : MH} {xk : String → MH → Prop} {b : Nat × Nat} {K : Nat × Nat → List Value → MH → Prop} : (callE x q sX5_effect as rest h xk b K) = (catS rest ≤ 8 ∧ 2 < msD q ∧ CALLI x sX5_effect as h xk (fun r h' => K b (.int r :: rest) h')) := propext ⟨fun ⟨a1, a2, _, _, _, a6⟩ => ⟨a1, a2, a6⟩, fun ⟨a1, a2, a6⟩ => ⟨a1, a2, by decide, Nat.zero_le _, Nat.zero_le _, a6⟩⟩
theorem d_X5_totalTokens : msD sX5_totalTokens = 2 := rfl
theorem rt_X5_totalTokens : sX5_totalTokens.2.2.2.1 = some FieldType.int := rfl
theorem co_X5_totalTokens : (sX5_totalTokens.2.2.2.2.2.2.2.1 = 0) ∧ sX5_totalTokens.2.2.2.2.2.2.2.2 = 0 := ⟨rfl, rfl⟩
theorem in_X5_totalTokens : ¬ isIn sX5_totalTokens := show ¬ ("totalTokens" = "<init>") by decide
theorem c_X5_totalTokens {x : CX} {q : MS} {as rest : List Value} {h : MH} {xk : String → MH → Prop} {b : Nat × Nat} {K : Nat × Nat → List Value → MH → Prop} : (callE x q sX5_totalTokens as rest h xk b K) = (catS rest ≤ 8 ∧ 2 < msD q ∧ CALLI x sX5_totalTokens as h xk (fun r h' => K b (.int r :: rest) h')) := propext ⟨fun ⟨a1, a2, _, _, _, a6⟩ => ⟨a1, a2, a6⟩, fun ⟨a1, a2, a6⟩ => ⟨a1, a2, by decide, Nat.zero_le _, Nat.zero_le _, a6⟩⟩
theorem d_X5_placesOf : msD sX5_placesOf = 1 := rfl
theorem rt_X5_placesOf : sX5_placesOf.2.2.2.1 = some FieldType.int := rfl
theorem co_X5_placesOf : (sX5_placesOf.2.2.2.2.2.2.2.1 = 0) ∧ sX5_placesOf.2.2.2.2.2.2.2.2 = 0 := ⟨rfl, rfl⟩
theorem in_X5_placesOf : ¬ isIn sX5_placesOf := show ¬ ("placesOf" = "<init>") by decide
theorem c_X5_placesOf {x : CX} {q : MS} {as rest : List Value} {h : MH} {xk : String → MH → Prop} {b : Nat × Nat} {K : Nat × Nat → List Value → MH → Prop} : (callE x q sX5_placesOf as rest h xk b K) = (catS rest ≤ 8 ∧ 1 < msD q ∧ CALLI x sX5_placesOf as h xk (fun r h' => K b (.int r :: rest) h')) := propext ⟨fun ⟨a1, a2, _, _, _, a6⟩ => ⟨a1, a2, a6⟩, fun ⟨a1, a2, a6⟩ => ⟨a1, a2, by decide, Nat.zero_le _, Nat.zero_le _, a6⟩⟩
theorem d_X5_inputPlaces : msD sX5_inputPlaces = 2 := rfl
theorem rt_X5_inputPlaces : sX5_inputPlaces.2.2.2.1 = some FieldType.int := rfl
theorem co_X5_inputPlaces : (sX5_inputPlaces.2.2.2.2.2.2.2.1 = 0) ∧ sX5_inputPlaces.2.2.2.2.2.2.2.2 = 0 := ⟨rfl, rfl⟩
theorem in_X5_inputPlaces : ¬ isIn sX5_inputPlaces := show ¬ ("inputPlaces" = "<init>") by decide
theorem c_X5_inputPlaces {x : CX} {q : MS} {as rest : List Value} {h : MH} {xk : String → MH → Prop} {b : Nat × Nat} {K : Nat × Nat → List Value → MH → Prop} : (callE x q sX5_inputPlaces as rest h xk b K) = (catS rest ≤ 8 ∧ 2 < msD q ∧ CALLI x sX5_inputPlaces as h xk (fun r h' => K b (.int r :: rest) h')) := propext ⟨fun ⟨a1, a2, _, _, _, a6⟩ => ⟨a1, a2, a6⟩, fun ⟨a1, a2, a6⟩ => ⟨a1, a2, by decide, Nat.zero_le _, Nat.zero_le _, a6⟩⟩
theorem d_X5_outputPlaces : msD sX5_outputPlaces = 2 := rfl
theorem rt_X5_outputPlaces : sX5_outputPlaces.2.2.2.1 = some FieldType.int := rfl
theorem co_X5_outputPlaces : (sX5_outputPlaces.2.2.2.2.2.2.2.1 = 0) ∧ sX5_outputPlaces.2.2.2.2.2.2.2.2 = 0 := ⟨rfl, rfl⟩
theorem in_X5_outputPlaces : ¬ isIn sX5_outputPlaces := show ¬ ("outputPlaces" = "<init>") by decide
theorem c_X5_outputPlaces {x : CX} {q : MS} {as rest : List Value} {h : MH} {xk : String → MH → Prop} {b : Nat × Nat} {K : Nat × Nat → List Value → MH → Prop} : (callE x q sX5_outputPlaces as rest h xk b K) = (catS rest ≤ 8 ∧ 2 < msD q ∧ CALLI x sX5_outputPlaces as h xk (fun r h' => K b (.int r :: rest) h')) := propext ⟨fun ⟨a1, a2, _, _, _, a6⟩ => ⟨a1, a2, a6⟩, fun ⟨a1, a2, a6⟩ => ⟨a1, a2, by decide, Nat.zero_le _, Nat.zero_le _, a6⟩⟩
theorem d_X5_consumers : msD sX5_consumers = 2 := rfl
theorem rt_X5_consumers : sX5_consumers.2.2.2.1 = some FieldType.int := rfl
theorem co_X5_consumers : (sX5_consumers.2.2.2.2.2.2.2.1 = 0) ∧ sX5_consumers.2.2.2.2.2.2.2.2 = 0 := ⟨rfl, rfl⟩
theorem in_X5_consumers : ¬ isIn sX5_consumers := show ¬ ("consumers" = "<init>") by decide
theorem c_X5_consumers {x : CX} {q : MS} {as rest : List Value} {h : MH} {xk : String → MH → Prop} {b : Nat × Nat} {K : Nat × Nat → List Value → MH → Prop} : (callE x q sX5_consumers as rest h xk b K) = (catS rest ≤ 8 ∧ 2 < msD q ∧ CALLI x sX5_consumers as h xk (fun r h' => K b (.int r :: rest) h')) := propext ⟨fun ⟨a1, a2, _, _, _, a6⟩ => ⟨a1, a2, a6⟩, fun ⟨a1, a2, a6⟩ => ⟨a1, a2, by decide, Nat.zero_le _, Nat.zero_le _, a6⟩⟩
theorem d_X5_whyNotEnabled : msD sX5_whyNotEnabled = 5 := rfl
theorem rt_X5_whyNotEnabled : sX5_whyNotEnabled.2.2.2.1 = some FieldType.int := rfl
theorem co_X5_whyNotEnabled : (sX5_whyNotEnabled.2.2.2.2.2.2.2.1 = 0) ∧ sX5_whyNotEnabled.2.2.2.2.2.2.2.2 = 0 := ⟨rfl, rfl⟩
theorem in_X5_whyNotEnabled : ¬ isIn sX5_whyNotEnabled := show ¬ ("whyNotEnabled" = "<init>") by decide
theorem c_X5_whyNotEnabled {x : CX} {q : MS} {as rest : List Value} {h : MH} {xk : String → MH → Prop} {b : Nat × Nat} {K : Nat × Nat → List Value → MH → Prop} : (callE x q sX5_whyNotEnabled as rest h xk b K) = (catS rest ≤ 8 ∧ 5 < msD q ∧ CALLI x sX5_whyNotEnabled as h xk (fun r h' => K b (.int r :: rest) h')) := propext ⟨fun ⟨a1, a2, _, _, _, a6⟩ => ⟨a1, a2, a6⟩, fun ⟨a1, a2, a6⟩ => ⟨a1, a2, by decide, Nat.zero_le _, Nat.zero_le _, a6⟩⟩
theorem d_X5_blockingPlace : msD sX5_blockingPlace = 6 := rfl
theorem rt_X5_blockingPlace : sX5_blockingPlace.2.2.2.1 = some FieldType.int := rfl
theorem co_X5_blockingPlace : (sX5_blockingPlace.2.2.2.2.2.2.2.1 = 0) ∧ sX5_blockingPlace.2.2.2.2.2.2.2.2 = 0 := ⟨rfl, rfl⟩
theorem in_X5_blockingPlace : ¬ isIn sX5_blockingPlace := show ¬ ("blockingPlace" = "<init>") by decide
theorem c_X5_blockingPlace {x : CX} {q : MS} {as rest : List Value} {h : MH} {xk : String → MH → Prop} {b : Nat × Nat} {K : Nat × Nat → List Value → MH → Prop} : (callE x q sX5_blockingPlace as rest h xk b K) = (catS rest ≤ 8 ∧ 6 < msD q ∧ CALLI x sX5_blockingPlace as h xk (fun r h' => K b (.int r :: rest) h')) := propext ⟨fun ⟨a1, a2, _, _, _, a6⟩ => ⟨a1, a2, a6⟩, fun ⟨a1, a2, a6⟩ => ⟨a1, a2, by decide, Nat.zero_le _, Nat.zero_le _, a6⟩⟩
theorem d_X5_enabledTransitions : msD sX5_enabledTransitions = 7 := rfl
theorem rt_X5_enabledTransitions : sX5_enabledTransitions.2.2.2.1 = some FieldType.int := rfl
theorem co_X5_enabledTransitions : (sX5_enabledTransitions.2.2.2.2.2.2.2.1 = 0) ∧ sX5_enabledTransitions.2.2.2.2.2.2.2.2 = 0 := ⟨rfl, rfl⟩
theorem in_X5_enabledTransitions : ¬ isIn sX5_enabledTransitions := show ¬ ("enabledTransitions" = "<init>") by decide
theorem c_X5_enabledTransitions {x : CX} {q : MS} {as rest : List Value} {h : MH} {xk : String → MH → Prop} {b : Nat × Nat} {K : Nat × Nat → List Value → MH → Prop} : (callE x q sX5_enabledTransitions as rest h xk b K) = (catS rest ≤ 8 ∧ 7 < msD q ∧ CALLI x sX5_enabledTransitions as h xk (fun r h' => K b (.int r :: rest) h')) := propext ⟨fun ⟨a1, a2, _, _, _, a6⟩ => ⟨a1, a2, a6⟩, fun ⟨a1, a2, a6⟩ => ⟨a1, a2, by decide, Nat.zero_le _, Nat.zero_le _, a6⟩⟩
theorem d_X5_isDead : msD sX5_isDead = 7 := rfl
theorem rt_X5_isDead : sX5_isDead.2.2.2.1 = some FieldType.boolean := rfl
theorem co_X5_isDead : (sX5_isDead.2.2.2.2.2.2.2.1 = 0) ∧ sX5_isDead.2.2.2.2.2.2.2.2 = 0 := ⟨rfl, rfl⟩
theorem in_X5_isDead : ¬ isIn sX5_isDead := show ¬ ("isDead" = "<init>") by decide
theorem c_X5_isDead {x : CX} {q : MS} {as rest : List Value} {h : MH} {xk : String → MH → Prop} {b : Nat × Nat} {K : Nat × Nat → List Value → MH → Prop} : (callE x q sX5_isDead as rest h xk b K) = (catS rest ≤ 8 ∧ 7 < msD q ∧ CALLI x sX5_isDead as h xk (fun r h' => K b (.int r :: rest) h')) := propext ⟨fun ⟨a1, a2, _, _, _, a6⟩ => ⟨a1, a2, a6⟩, fun ⟨a1, a2, a6⟩ => ⟨a1, a2, by decide, Nat.zero_le _, Nat.zero_le _, a6⟩⟩
theorem d_X5_firings : msD sX5_firings = 2 := rfl
theorem rt_X5_firings : sX5_firings.2.2.2.1 = some FieldType.int := rfl
theorem co_X5_firings : (sX5_firings.2.2.2.2.2.2.2.1 = 0) ∧ sX5_firings.2.2.2.2.2.2.2.2 = 0 := ⟨rfl, rfl⟩
theorem in_X5_firings : ¬ isIn sX5_firings := show ¬ ("firings" = "<init>") by decide
theorem c_X5_firings {x : CX} {q : MS} {as rest : List Value} {h : MH} {xk : String → MH → Prop} {b : Nat × Nat} {K : Nat × Nat → List Value → MH → Prop} : (callE x q sX5_firings as rest h xk b K) = (catS rest ≤ 8 ∧ 2 < msD q ∧ CALLI x sX5_firings as h xk (fun r h' => K b (.int r :: rest) h')) := propext ⟨fun ⟨a1, a2, _, _, _, a6⟩ => ⟨a1, a2, a6⟩, fun ⟨a1, a2, a6⟩ => ⟨a1, a2, by decide, Nat.zero_le _, Nat.zero_le _, a6⟩⟩
theorem d_X5_nextOfRun : msD sX5_nextOfRun = 7 := rfl
theorem rt_X5_nextOfRun : sX5_nextOfRun.2.2.2.1 = some FieldType.int := rfl
theorem co_X5_nextOfRun : (sX5_nextOfRun.2.2.2.2.2.2.2.1 = 0) ∧ sX5_nextOfRun.2.2.2.2.2.2.2.2 = 0 := ⟨rfl, rfl⟩
theorem in_X5_nextOfRun : ¬ isIn sX5_nextOfRun := show ¬ ("nextOfRun" = "<init>") by decide
theorem c_X5_nextOfRun {x : CX} {q : MS} {as rest : List Value} {h : MH} {xk : String → MH → Prop} {b : Nat × Nat} {K : Nat × Nat → List Value → MH → Prop} : (callE x q sX5_nextOfRun as rest h xk b K) = (catS rest ≤ 8 ∧ 7 < msD q ∧ CALLI x sX5_nextOfRun as h xk (fun r h' => K b (.int r :: rest) h')) := propext ⟨fun ⟨a1, a2, _, _, _, a6⟩ => ⟨a1, a2, a6⟩, fun ⟨a1, a2, a6⟩ => ⟨a1, a2, by decide, Nat.zero_le _, Nat.zero_le _, a6⟩⟩
theorem d_X5_firesInRow : msD sX5_firesInRow = 6 := rfl
theorem rt_X5_firesInRow : sX5_firesInRow.2.2.2.1 = some FieldType.int := rfl
theorem co_X5_firesInRow : (sX5_firesInRow.2.2.2.2.2.2.2.1 = 0) ∧ sX5_firesInRow.2.2.2.2.2.2.2.2 = 0 := ⟨rfl, rfl⟩
theorem in_X5_firesInRow : ¬ isIn sX5_firesInRow := show ¬ ("firesInRow" = "<init>") by decide
theorem c_X5_firesInRow {x : CX} {q : MS} {as rest : List Value} {h : MH} {xk : String → MH → Prop} {b : Nat × Nat} {K : Nat × Nat → List Value → MH → Prop} : (callE x q sX5_firesInRow as rest h xk b K) = (catS rest ≤ 8 ∧ 6 < msD q ∧ CALLI x sX5_firesInRow as h xk (fun r h' => K b (.int r :: rest) h')) := propext ⟨fun ⟨a1, a2, _, _, _, a6⟩ => ⟨a1, a2, a6⟩, fun ⟨a1, a2, a6⟩ => ⟨a1, a2, by decide, Nat.zero_le _, Nat.zero_le _, a6⟩⟩
theorem d_X5_disables : msD sX5_disables = 6 := rfl
theorem rt_X5_disables : sX5_disables.2.2.2.1 = some FieldType.boolean := rfl
theorem co_X5_disables : (sX5_disables.2.2.2.2.2.2.2.1 = 0) ∧ sX5_disables.2.2.2.2.2.2.2.2 = 0 := ⟨rfl, rfl⟩
theorem in_X5_disables : ¬ isIn sX5_disables := show ¬ ("disables" = "<init>") by decide
theorem c_X5_disables {x : CX} {q : MS} {as rest : List Value} {h : MH} {xk : String → MH → Prop} {b : Nat × Nat} {K : Nat × Nat → List Value → MH → Prop} : (callE x q sX5_disables as rest h xk b K) = (catS rest ≤ 8 ∧ 6 < msD q ∧ CALLI x sX5_disables as h xk (fun r h' => K b (.int r :: rest) h')) := propext ⟨fun ⟨a1, a2, _, _, _, a6⟩ => ⟨a1, a2, a6⟩, fun ⟨a1, a2, a6⟩ => ⟨a1, a2, by decide, Nat.zero_le _, Nat.zero_le _, a6⟩⟩
theorem d_X5_areInConflict : msD sX5_areInConflict = 7 := rfl
theorem rt_X5_areInConflict : sX5_areInConflict.2.2.2.1 = some FieldType.boolean := rfl
theorem co_X5_areInConflict : (sX5_areInConflict.2.2.2.2.2.2.2.1 = 0) ∧ sX5_areInConflict.2.2.2.2.2.2.2.2 = 0 := ⟨rfl, rfl⟩
theorem in_X5_areInConflict : ¬ isIn sX5_areInConflict := show ¬ ("areInConflict" = "<init>") by decide
theorem c_X5_areInConflict {x : CX} {q : MS} {as rest : List Value} {h : MH} {xk : String → MH → Prop} {b : Nat × Nat} {K : Nat × Nat → List Value → MH → Prop} : (callE x q sX5_areInConflict as rest h xk b K) = (catS rest ≤ 8 ∧ 7 < msD q ∧ CALLI x sX5_areInConflict as h xk (fun r h' => K b (.int r :: rest) h')) := propext ⟨fun ⟨a1, a2, _, _, _, a6⟩ => ⟨a1, a2, a6⟩, fun ⟨a1, a2, a6⟩ => ⟨a1, a2, by decide, Nat.zero_le _, Nat.zero_le _, a6⟩⟩
theorem d_X5_markingCount : msD sX5_markingCount = 8 := rfl
theorem rt_X5_markingCount : sX5_markingCount.2.2.2.1 = some FieldType.int := rfl
theorem co_X5_markingCount : (sX5_markingCount.2.2.2.2.2.2.2.1 = 0) ∧ sX5_markingCount.2.2.2.2.2.2.2.2 = 0 := ⟨rfl, rfl⟩
theorem in_X5_markingCount : ¬ isIn sX5_markingCount := show ¬ ("markingCount" = "<init>") by decide
theorem c_X5_markingCount {x : CX} {q : MS} {as rest : List Value} {h : MH} {xk : String → MH → Prop} {b : Nat × Nat} {K : Nat × Nat → List Value → MH → Prop} : (callE x q sX5_markingCount as rest h xk b K) = (catS rest ≤ 8 ∧ 8 < msD q ∧ CALLI x sX5_markingCount as h xk (fun r h' => K b (.int r :: rest) h')) := propext ⟨fun ⟨a1, a2, _, _, _, a6⟩ => ⟨a1, a2, a6⟩, fun ⟨a1, a2, a6⟩ => ⟨a1, a2, by decide, Nat.zero_le _, Nat.zero_le _, a6⟩⟩
theorem d_X5_isComplete : msD sX5_isComplete = 8 := rfl
theorem rt_X5_isComplete : sX5_isComplete.2.2.2.1 = some FieldType.boolean := rfl
theorem co_X5_isComplete : (sX5_isComplete.2.2.2.2.2.2.2.1 = 0) ∧ sX5_isComplete.2.2.2.2.2.2.2.2 = 0 := ⟨rfl, rfl⟩
theorem in_X5_isComplete : ¬ isIn sX5_isComplete := show ¬ ("isComplete" = "<init>") by decide
theorem c_X5_isComplete {x : CX} {q : MS} {as rest : List Value} {h : MH} {xk : String → MH → Prop} {b : Nat × Nat} {K : Nat × Nat → List Value → MH → Prop} : (callE x q sX5_isComplete as rest h xk b K) = (catS rest ≤ 8 ∧ 8 < msD q ∧ CALLI x sX5_isComplete as h xk (fun r h' => K b (.int r :: rest) h')) := propext ⟨fun ⟨a1, a2, _, _, _, a6⟩ => ⟨a1, a2, a6⟩, fun ⟨a1, a2, a6⟩ => ⟨a1, a2, by decide, Nat.zero_le _, Nat.zero_le _, a6⟩⟩
theorem d_X5_markingTokens : msD sX5_markingTokens = 9 := rfl
theorem rt_X5_markingTokens : sX5_markingTokens.2.2.2.1 = some FieldType.int := rfl
theorem co_X5_markingTokens : (sX5_markingTokens.2.2.2.2.2.2.2.1 = 0) ∧ sX5_markingTokens.2.2.2.2.2.2.2.2 = 0 := ⟨rfl, rfl⟩
theorem in_X5_markingTokens : ¬ isIn sX5_markingTokens := show ¬ ("markingTokens" = "<init>") by decide
theorem c_X5_markingTokens {x : CX} {q : MS} {as rest : List Value} {h : MH} {xk : String → MH → Prop} {b : Nat × Nat} {K : Nat × Nat → List Value → MH → Prop} : (callE x q sX5_markingTokens as rest h xk b K) = (catS rest ≤ 8 ∧ 9 < msD q ∧ CALLI x sX5_markingTokens as h xk (fun r h' => K b (.int r :: rest) h')) := propext ⟨fun ⟨a1, a2, _, _, _, a6⟩ => ⟨a1, a2, a6⟩, fun ⟨a1, a2, a6⟩ => ⟨a1, a2, by decide, Nat.zero_le _, Nat.zero_le _, a6⟩⟩
theorem d_X5_markingDistance : msD sX5_markingDistance = 9 := rfl
theorem rt_X5_markingDistance : sX5_markingDistance.2.2.2.1 = some FieldType.int := rfl
theorem co_X5_markingDistance : (sX5_markingDistance.2.2.2.2.2.2.2.1 = 0) ∧ sX5_markingDistance.2.2.2.2.2.2.2.2 = 0 := ⟨rfl, rfl⟩
theorem in_X5_markingDistance : ¬ isIn sX5_markingDistance := show ¬ ("markingDistance" = "<init>") by decide
theorem c_X5_markingDistance {x : CX} {q : MS} {as rest : List Value} {h : MH} {xk : String → MH → Prop} {b : Nat × Nat} {K : Nat × Nat → List Value → MH → Prop} : (callE x q sX5_markingDistance as rest h xk b K) = (catS rest ≤ 8 ∧ 9 < msD q ∧ CALLI x sX5_markingDistance as h xk (fun r h' => K b (.int r :: rest) h')) := propext ⟨fun ⟨a1, a2, _, _, _, a6⟩ => ⟨a1, a2, a6⟩, fun ⟨a1, a2, a6⟩ => ⟨a1, a2, by decide, Nat.zero_le _, Nat.zero_le _, a6⟩⟩
theorem d_X5_markingTransition : msD sX5_markingTransition = 9 := rfl
theorem rt_X5_markingTransition : sX5_markingTransition.2.2.2.1 = some FieldType.int := rfl
theorem co_X5_markingTransition : (sX5_markingTransition.2.2.2.2.2.2.2.1 = 0) ∧ sX5_markingTransition.2.2.2.2.2.2.2.2 = 0 := ⟨rfl, rfl⟩
theorem in_X5_markingTransition : ¬ isIn sX5_markingTransition := show ¬ ("markingTransition" = "<init>") by decide
theorem c_X5_markingTransition {x : CX} {q : MS} {as rest : List Value} {h : MH} {xk : String → MH → Prop} {b : Nat × Nat} {K : Nat × Nat → List Value → MH → Prop} : (callE x q sX5_markingTransition as rest h xk b K) = (catS rest ≤ 8 ∧ 9 < msD q ∧ CALLI x sX5_markingTransition as h xk (fun r h' => K b (.int r :: rest) h')) := propext ⟨fun ⟨a1, a2, _, _, _, a6⟩ => ⟨a1, a2, a6⟩, fun ⟨a1, a2, a6⟩ => ⟨a1, a2, by decide, Nat.zero_le _, Nat.zero_le _, a6⟩⟩
theorem d_X5_deadAt : msD sX5_deadAt = 7 := rfl
theorem rt_X5_deadAt : sX5_deadAt.2.2.2.1 = some FieldType.boolean := rfl
theorem co_X5_deadAt : (sX5_deadAt.2.2.2.2.2.2.2.1 = 0) ∧ sX5_deadAt.2.2.2.2.2.2.2.2 = 0 := ⟨rfl, rfl⟩
theorem in_X5_deadAt : ¬ isIn sX5_deadAt := show ¬ ("deadAt" = "<init>") by decide
theorem c_X5_deadAt {x : CX} {q : MS} {as rest : List Value} {h : MH} {xk : String → MH → Prop} {b : Nat × Nat} {K : Nat × Nat → List Value → MH → Prop} : (callE x q sX5_deadAt as rest h xk b K) = (catS rest ≤ 8 ∧ 7 < msD q ∧ CALLI x sX5_deadAt as h xk (fun r h' => K b (.int r :: rest) h')) := propext ⟨fun ⟨a1, a2, _, _, _, a6⟩ => ⟨a1, a2, a6⟩, fun ⟨a1, a2, a6⟩ => ⟨a1, a2, by decide, Nat.zero_le _, Nat.zero_le _, a6⟩⟩
theorem d_X5_firstDeadMarking : msD sX5_firstDeadMarking = 8 := rfl
theorem rt_X5_firstDeadMarking : sX5_firstDeadMarking.2.2.2.1 = some FieldType.int := rfl
theorem co_X5_firstDeadMarking : (sX5_firstDeadMarking.2.2.2.2.2.2.2.1 = 0) ∧ sX5_firstDeadMarking.2.2.2.2.2.2.2.2 = 0 := ⟨rfl, rfl⟩
theorem in_X5_firstDeadMarking : ¬ isIn sX5_firstDeadMarking := show ¬ ("firstDeadMarking" = "<init>") by decide
theorem c_X5_firstDeadMarking {x : CX} {q : MS} {as rest : List Value} {h : MH} {xk : String → MH → Prop} {b : Nat × Nat} {K : Nat × Nat → List Value → MH → Prop} : (callE x q sX5_firstDeadMarking as rest h xk b K) = (catS rest ≤ 8 ∧ 8 < msD q ∧ CALLI x sX5_firstDeadMarking as h xk (fun r h' => K b (.int r :: rest) h')) := propext ⟨fun ⟨a1, a2, _, _, _, a6⟩ => ⟨a1, a2, a6⟩, fun ⟨a1, a2, a6⟩ => ⟨a1, a2, by decide, Nat.zero_le _, Nat.zero_le _, a6⟩⟩
theorem d_X5_deadMarkings : msD sX5_deadMarkings = 8 := rfl
theorem rt_X5_deadMarkings : sX5_deadMarkings.2.2.2.1 = some FieldType.int := rfl
theorem co_X5_deadMarkings : (sX5_deadMarkings.2.2.2.2.2.2.2.1 = 0) ∧ sX5_deadMarkings.2.2.2.2.2.2.2.2 = 0 := ⟨rfl, rfl⟩
theorem in_X5_deadMarkings : ¬ isIn sX5_deadMarkings := show ¬ ("deadMarkings" = "<init>") by decide
theorem c_X5_deadMarkings {x : CX} {q : MS} {as rest : List Value} {h : MH} {xk : String → MH → Prop} {b : Nat × Nat} {K : Nat × Nat → List Value → MH → Prop} : (callE x q sX5_deadMarkings as rest h xk b K) = (catS rest ≤ 8 ∧ 8 < msD q ∧ CALLI x sX5_deadMarkings as h xk (fun r h' => K b (.int r :: rest) h')) := propext ⟨fun ⟨a1, a2, _, _, _, a6⟩ => ⟨a1, a2, a6⟩, fun ⟨a1, a2, a6⟩ => ⟨a1, a2, by decide, Nat.zero_le _, Nat.zero_le _, a6⟩⟩
theorem d_X5_bound : msD sX5_bound = 8 := rfl
theorem rt_X5_bound : sX5_bound.2.2.2.1 = some FieldType.int := rfl
theorem co_X5_bound : (sX5_bound.2.2.2.2.2.2.2.1 = 0) ∧ sX5_bound.2.2.2.2.2.2.2.2 = 0 := ⟨rfl, rfl⟩
theorem in_X5_bound : ¬ isIn sX5_bound := show ¬ ("bound" = "<init>") by decide
theorem c_X5_bound {x : CX} {q : MS} {as rest : List Value} {h : MH} {xk : String → MH → Prop} {b : Nat × Nat} {K : Nat × Nat → List Value → MH → Prop} : (callE x q sX5_bound as rest h xk b K) = (catS rest ≤ 8 ∧ 8 < msD q ∧ CALLI x sX5_bound as h xk (fun r h' => K b (.int r :: rest) h')) := propext ⟨fun ⟨a1, a2, _, _, _, a6⟩ => ⟨a1, a2, a6⟩, fun ⟨a1, a2, a6⟩ => ⟨a1, a2, by decide, Nat.zero_le _, Nat.zero_le _, a6⟩⟩
theorem d_X5_canFire : msD sX5_canFire = 8 := rfl
theorem rt_X5_canFire : sX5_canFire.2.2.2.1 = some FieldType.boolean := rfl
theorem co_X5_canFire : (sX5_canFire.2.2.2.2.2.2.2.1 = 0) ∧ sX5_canFire.2.2.2.2.2.2.2.2 = 0 := ⟨rfl, rfl⟩
theorem in_X5_canFire : ¬ isIn sX5_canFire := show ¬ ("canFire" = "<init>") by decide
theorem c_X5_canFire {x : CX} {q : MS} {as rest : List Value} {h : MH} {xk : String → MH → Prop} {b : Nat × Nat} {K : Nat × Nat → List Value → MH → Prop} : (callE x q sX5_canFire as rest h xk b K) = (catS rest ≤ 8 ∧ 8 < msD q ∧ CALLI x sX5_canFire as h xk (fun r h' => K b (.int r :: rest) h')) := propext ⟨fun ⟨a1, a2, _, _, _, a6⟩ => ⟨a1, a2, a6⟩, fun ⟨a1, a2, a6⟩ => ⟨a1, a2, by decide, Nat.zero_le _, Nat.zero_le _, a6⟩⟩
theorem d_X5_leadsHome : msD sX5_leadsHome = 6 := rfl
theorem rt_X5_leadsHome : sX5_leadsHome.2.2.2.1 = some FieldType.boolean := rfl
theorem co_X5_leadsHome : (sX5_leadsHome.2.2.2.2.2.2.2.1 = 0) ∧ sX5_leadsHome.2.2.2.2.2.2.2.2 = 0 := ⟨rfl, rfl⟩
theorem in_X5_leadsHome : ¬ isIn sX5_leadsHome := show ¬ ("leadsHome" = "<init>") by decide
theorem c_X5_leadsHome {x : CX} {q : MS} {as rest : List Value} {h : MH} {xk : String → MH → Prop} {b : Nat × Nat} {K : Nat × Nat → List Value → MH → Prop} : (callE x q sX5_leadsHome as rest h xk b K) = (catS rest ≤ 8 ∧ 6 < msD q ∧ CALLI x sX5_leadsHome as h xk (fun r h' => K b (.int r :: rest) h')) := propext ⟨fun ⟨a1, a2, _, _, _, a6⟩ => ⟨a1, a2, a6⟩, fun ⟨a1, a2, a6⟩ => ⟨a1, a2, by decide, Nat.zero_le _, Nat.zero_le _, a6⟩⟩
theorem d_X5_returnsHome : msD sX5_returnsHome = 8 := rfl
theorem rt_X5_returnsHome : sX5_returnsHome.2.2.2.1 = some FieldType.boolean := rfl
theorem co_X5_returnsHome : (sX5_returnsHome.2.2.2.2.2.2.2.1 = 0) ∧ sX5_returnsHome.2.2.2.2.2.2.2.2 = 0 := ⟨rfl, rfl⟩
theorem in_X5_returnsHome : ¬ isIn sX5_returnsHome := show ¬ ("returnsHome" = "<init>") by decide
theorem c_X5_returnsHome {x : CX} {q : MS} {as rest : List Value} {h : MH} {xk : String → MH → Prop} {b : Nat × Nat} {K : Nat × Nat → List Value → MH → Prop} : (callE x q sX5_returnsHome as rest h xk b K) = (catS rest ≤ 8 ∧ 8 < msD q ∧ CALLI x sX5_returnsHome as h xk (fun r h' => K b (.int r :: rest) h')) := propext ⟨fun ⟨a1, a2, _, _, _, a6⟩ => ⟨a1, a2, a6⟩, fun ⟨a1, a2, a6⟩ => ⟨a1, a2, by decide, Nat.zero_le _, Nat.zero_le _, a6⟩⟩
theorem d_X5_distanceToEmpty : msD sX5_distanceToEmpty = 8 := rfl
theorem rt_X5_distanceToEmpty : sX5_distanceToEmpty.2.2.2.1 = some FieldType.int := rfl
theorem co_X5_distanceToEmpty : (sX5_distanceToEmpty.2.2.2.2.2.2.2.1 = 0) ∧ sX5_distanceToEmpty.2.2.2.2.2.2.2.2 = 0 := ⟨rfl, rfl⟩
theorem in_X5_distanceToEmpty : ¬ isIn sX5_distanceToEmpty := show ¬ ("distanceToEmpty" = "<init>") by decide
theorem c_X5_distanceToEmpty {x : CX} {q : MS} {as rest : List Value} {h : MH} {xk : String → MH → Prop} {b : Nat × Nat} {K : Nat × Nat → List Value → MH → Prop} : (callE x q sX5_distanceToEmpty as rest h xk b K) = (catS rest ≤ 8 ∧ 8 < msD q ∧ CALLI x sX5_distanceToEmpty as h xk (fun r h' => K b (.int r :: rest) h')) := propext ⟨fun ⟨a1, a2, _, _, _, a6⟩ => ⟨a1, a2, a6⟩, fun ⟨a1, a2, a6⟩ => ⟨a1, a2, by decide, Nat.zero_le _, Nat.zero_le _, a6⟩⟩
theorem d_X5_digit : msD sX5_digit = 0 := rfl
theorem rt_X5_digit : sX5_digit.2.2.2.1 = some FieldType.int := rfl
theorem co_X5_digit : (sX5_digit.2.2.2.2.2.2.2.1 = 0) ∧ sX5_digit.2.2.2.2.2.2.2.2 = 0 := ⟨rfl, rfl⟩
theorem in_X5_digit : ¬ isIn sX5_digit := show ¬ ("digit" = "<init>") by decide
theorem c_X5_digit {x : CX} {q : MS} {as rest : List Value} {h : MH} {xk : String → MH → Prop} {b : Nat × Nat} {K : Nat × Nat → List Value → MH → Prop} : (callE x q sX5_digit as rest h xk b K) = (catS rest ≤ 8 ∧ 0 < msD q ∧ CALLI x sX5_digit as h xk (fun r h' => K b (.int r :: rest) h')) := propext ⟨fun ⟨a1, a2, _, _, _, a6⟩ => ⟨a1, a2, a6⟩, fun ⟨a1, a2, a6⟩ => ⟨a1, a2, by decide, Nat.zero_le _, Nat.zero_le _, a6⟩⟩
theorem d_X5_noVector : msD sX5_noVector = 1 := rfl
theorem rt_X5_noVector : sX5_noVector.2.2.2.1 = some FieldType.boolean := rfl
theorem co_X5_noVector : (sX5_noVector.2.2.2.2.2.2.2.1 = 0) ∧ sX5_noVector.2.2.2.2.2.2.2.2 = 0 := ⟨rfl, rfl⟩
theorem in_X5_noVector : ¬ isIn sX5_noVector := show ¬ ("noVector" = "<init>") by decide
theorem c_X5_noVector {x : CX} {q : MS} {as rest : List Value} {h : MH} {xk : String → MH → Prop} {b : Nat × Nat} {K : Nat × Nat → List Value → MH → Prop} : (callE x q sX5_noVector as rest h xk b K) = (catS rest ≤ 8 ∧ 1 < msD q ∧ CALLI x sX5_noVector as h xk (fun r h' => K b (.int r :: rest) h')) := propext ⟨fun ⟨a1, a2, _, _, _, a6⟩ => ⟨a1, a2, a6⟩, fun ⟨a1, a2, a6⟩ => ⟨a1, a2, by decide, Nat.zero_le _, Nat.zero_le _, a6⟩⟩
theorem d_X5_keeps : msD sX5_keeps = 2 := rfl
theorem rt_X5_keeps : sX5_keeps.2.2.2.1 = some FieldType.boolean := rfl
theorem co_X5_keeps : (sX5_keeps.2.2.2.2.2.2.2.1 = 0) ∧ sX5_keeps.2.2.2.2.2.2.2.2 = 0 := ⟨rfl, rfl⟩
theorem in_X5_keeps : ¬ isIn sX5_keeps := show ¬ ("keeps" = "<init>") by decide
theorem c_X5_keeps {x : CX} {q : MS} {as rest : List Value} {h : MH} {xk : String → MH → Prop} {b : Nat × Nat} {K : Nat × Nat → List Value → MH → Prop} : (callE x q sX5_keeps as rest h xk b K) = (catS rest ≤ 8 ∧ 2 < msD q ∧ CALLI x sX5_keeps as h xk (fun r h' => K b (.int r :: rest) h')) := propext ⟨fun ⟨a1, a2, _, _, _, a6⟩ => ⟨a1, a2, a6⟩, fun ⟨a1, a2, a6⟩ => ⟨a1, a2, by decide, Nat.zero_le _, Nat.zero_le _, a6⟩⟩
theorem d_X5_isPlaceInvariant : msD sX5_isPlaceInvariant = 3 := rfl
theorem rt_X5_isPlaceInvariant : sX5_isPlaceInvariant.2.2.2.1 = some FieldType.boolean := rfl
theorem co_X5_isPlaceInvariant : (sX5_isPlaceInvariant.2.2.2.2.2.2.2.1 = 0) ∧ sX5_isPlaceInvariant.2.2.2.2.2.2.2.2 = 0 := ⟨rfl, rfl⟩
theorem in_X5_isPlaceInvariant : ¬ isIn sX5_isPlaceInvariant := show ¬ ("isPlaceInvariant" = "<init>") by decide
theorem c_X5_isPlaceInvariant {x : CX} {q : MS} {as rest : List Value} {h : MH} {xk : String → MH → Prop} {b : Nat × Nat} {K : Nat × Nat → List Value → MH → Prop} : (callE x q sX5_isPlaceInvariant as rest h xk b K) = (catS rest ≤ 8 ∧ 3 < msD q ∧ CALLI x sX5_isPlaceInvariant as h xk (fun r h' => K b (.int r :: rest) h')) := propext ⟨fun ⟨a1, a2, _, _, _, a6⟩ => ⟨a1, a2, a6⟩, fun ⟨a1, a2, a6⟩ => ⟨a1, a2, by decide, Nat.zero_le _, Nat.zero_le _, a6⟩⟩
theorem d_X5_isTransitionInvariant : msD sX5_isTransitionInvariant = 2 := rfl
theorem rt_X5_isTransitionInvariant : sX5_isTransitionInvariant.2.2.2.1 = some FieldType.boolean := rfl
theorem co_X5_isTransitionInvariant : (sX5_isTransitionInvariant.2.2.2.2.2.2.2.1 = 0) ∧ sX5_isTransitionInvariant.2.2.2.2.2.2.2.2 = 0 := ⟨rfl, rfl⟩
theorem in_X5_isTransitionInvariant : ¬ isIn sX5_isTransitionInvariant := show ¬ ("isTransitionInvariant" = "<init>") by decide
theorem c_X5_isTransitionInvariant {x : CX} {q : MS} {as rest : List Value} {h : MH} {xk : String → MH → Prop} {b : Nat × Nat} {K : Nat × Nat → List Value → MH → Prop} : (callE x q sX5_isTransitionInvariant as rest h xk b K) = (catS rest ≤ 8 ∧ 2 < msD q ∧ CALLI x sX5_isTransitionInvariant as h xk (fun r h' => K b (.int r :: rest) h')) := propext ⟨fun ⟨a1, a2, _, _, _, a6⟩ => ⟨a1, a2, a6⟩, fun ⟨a1, a2, a6⟩ => ⟨a1, a2, by decide, Nat.zero_le _, Nat.zero_le _, a6⟩⟩
theorem d_X5_weighted : msD sX5_weighted = 1 := rfl
theorem rt_X5_weighted : sX5_weighted.2.2.2.1 = some FieldType.int := rfl
theorem co_X5_weighted : (sX5_weighted.2.2.2.2.2.2.2.1 = 0) ∧ sX5_weighted.2.2.2.2.2.2.2.2 = 0 := ⟨rfl, rfl⟩
theorem in_X5_weighted : ¬ isIn sX5_weighted := show ¬ ("weighted" = "<init>") by decide
theorem c_X5_weighted {x : CX} {q : MS} {as rest : List Value} {h : MH} {xk : String → MH → Prop} {b : Nat × Nat} {K : Nat × Nat → List Value → MH → Prop} : (callE x q sX5_weighted as rest h xk b K) = (catS rest ≤ 8 ∧ 1 < msD q ∧ CALLI x sX5_weighted as h xk (fun r h' => K b (.int r :: rest) h')) := propext ⟨fun ⟨a1, a2, _, _, _, a6⟩ => ⟨a1, a2, a6⟩, fun ⟨a1, a2, a6⟩ => ⟨a1, a2, by decide, Nat.zero_le _, Nat.zero_le _, a6⟩⟩
theorem d_X5_weightedTokens : msD sX5_weightedTokens = 2 := rfl
theorem rt_X5_weightedTokens : sX5_weightedTokens.2.2.2.1 = some FieldType.int := rfl
theorem co_X5_weightedTokens : (sX5_weightedTokens.2.2.2.2.2.2.2.1 = 0) ∧ sX5_weightedTokens.2.2.2.2.2.2.2.2 = 0 := ⟨rfl, rfl⟩
theorem in_X5_weightedTokens : ¬ isIn sX5_weightedTokens := show ¬ ("weightedTokens" = "<init>") by decide
theorem c_X5_weightedTokens {x : CX} {q : MS} {as rest : List Value} {h : MH} {xk : String → MH → Prop} {b : Nat × Nat} {K : Nat × Nat → List Value → MH → Prop} : (callE x q sX5_weightedTokens as rest h xk b K) = (catS rest ≤ 8 ∧ 2 < msD q ∧ CALLI x sX5_weightedTokens as h xk (fun r h' => K b (.int r :: rest) h')) := propext ⟨fun ⟨a1, a2, _, _, _, a6⟩ => ⟨a1, a2, a6⟩, fun ⟨a1, a2, a6⟩ => ⟨a1, a2, by decide, Nat.zero_le _, Nat.zero_le _, a6⟩⟩
theorem d_X5_vectorOf : msD sX5_vectorOf = 0 := rfl
theorem rt_X5_vectorOf : sX5_vectorOf.2.2.2.1 = some FieldType.int := rfl
theorem co_X5_vectorOf : (sX5_vectorOf.2.2.2.2.2.2.2.1 = 0) ∧ sX5_vectorOf.2.2.2.2.2.2.2.2 = 0 := ⟨rfl, rfl⟩
theorem in_X5_vectorOf : ¬ isIn sX5_vectorOf := show ¬ ("vectorOf" = "<init>") by decide
theorem c_X5_vectorOf {x : CX} {q : MS} {as rest : List Value} {h : MH} {xk : String → MH → Prop} {b : Nat × Nat} {K : Nat × Nat → List Value → MH → Prop} : (callE x q sX5_vectorOf as rest h xk b K) = (catS rest ≤ 8 ∧ 0 < msD q ∧ CALLI x sX5_vectorOf as h xk (fun r h' => K b (.int r :: rest) h')) := propext ⟨fun ⟨a1, a2, _, _, _, a6⟩ => ⟨a1, a2, a6⟩, fun ⟨a1, a2, a6⟩ => ⟨a1, a2, by decide, Nat.zero_le _, Nat.zero_le _, a6⟩⟩
theorem d_X5_sets : msD sX5_sets = 0 := rfl
theorem rt_X5_sets : sX5_sets.2.2.2.1 = some FieldType.int := rfl
theorem co_X5_sets : (sX5_sets.2.2.2.2.2.2.2.1 = 0) ∧ sX5_sets.2.2.2.2.2.2.2.2 = 0 := ⟨rfl, rfl⟩
theorem in_X5_sets : ¬ isIn sX5_sets := show ¬ ("sets" = "<init>") by decide
theorem c_X5_sets {x : CX} {q : MS} {as rest : List Value} {h : MH} {xk : String → MH → Prop} {b : Nat × Nat} {K : Nat × Nat → List Value → MH → Prop} : (callE x q sX5_sets as rest h xk b K) = (catS rest ≤ 8 ∧ 0 < msD q ∧ CALLI x sX5_sets as h xk (fun r h' => K b (.int r :: rest) h')) := propext ⟨fun ⟨a1, a2, _, _, _, a6⟩ => ⟨a1, a2, a6⟩, fun ⟨a1, a2, a6⟩ => ⟨a1, a2, by decide, Nat.zero_le _, Nat.zero_le _, a6⟩⟩
theorem d_X5_simpleInvariants : msD sX5_simpleInvariants = 3 := rfl
theorem rt_X5_simpleInvariants : sX5_simpleInvariants.2.2.2.1 = some FieldType.int := rfl
theorem co_X5_simpleInvariants : (sX5_simpleInvariants.2.2.2.2.2.2.2.1 = 0) ∧ sX5_simpleInvariants.2.2.2.2.2.2.2.2 = 0 := ⟨rfl, rfl⟩
theorem in_X5_simpleInvariants : ¬ isIn sX5_simpleInvariants := show ¬ ("simpleInvariants" = "<init>") by decide
theorem c_X5_simpleInvariants {x : CX} {q : MS} {as rest : List Value} {h : MH} {xk : String → MH → Prop} {b : Nat × Nat} {K : Nat × Nat → List Value → MH → Prop} : (callE x q sX5_simpleInvariants as rest h xk b K) = (catS rest ≤ 8 ∧ 3 < msD q ∧ CALLI x sX5_simpleInvariants as h xk (fun r h' => K b (.int r :: rest) h')) := propext ⟨fun ⟨a1, a2, _, _, _, a6⟩ => ⟨a1, a2, a6⟩, fun ⟨a1, a2, a6⟩ => ⟨a1, a2, by decide, Nat.zero_le _, Nat.zero_le _, a6⟩⟩
theorem d_X5_smallestInvariant : msD sX5_smallestInvariant = 3 := rfl
theorem rt_X5_smallestInvariant : sX5_smallestInvariant.2.2.2.1 = some FieldType.int := rfl
theorem co_X5_smallestInvariant : (sX5_smallestInvariant.2.2.2.2.2.2.2.1 = 0) ∧ sX5_smallestInvariant.2.2.2.2.2.2.2.2 = 0 := ⟨rfl, rfl⟩
theorem in_X5_smallestInvariant : ¬ isIn sX5_smallestInvariant := show ¬ ("smallestInvariant" = "<init>") by decide
theorem c_X5_smallestInvariant {x : CX} {q : MS} {as rest : List Value} {h : MH} {xk : String → MH → Prop} {b : Nat × Nat} {K : Nat × Nat → List Value → MH → Prop} : (callE x q sX5_smallestInvariant as rest h xk b K) = (catS rest ≤ 8 ∧ 3 < msD q ∧ CALLI x sX5_smallestInvariant as h xk (fun r h' => K b (.int r :: rest) h')) := propext ⟨fun ⟨a1, a2, _, _, _, a6⟩ => ⟨a1, a2, a6⟩, fun ⟨a1, a2, a6⟩ => ⟨a1, a2, by decide, Nat.zero_le _, Nat.zero_le _, a6⟩⟩
theorem d_X5_coveredPlaces : msD sX5_coveredPlaces = 3 := rfl
theorem rt_X5_coveredPlaces : sX5_coveredPlaces.2.2.2.1 = some FieldType.int := rfl
theorem co_X5_coveredPlaces : (sX5_coveredPlaces.2.2.2.2.2.2.2.1 = 0) ∧ sX5_coveredPlaces.2.2.2.2.2.2.2.2 = 0 := ⟨rfl, rfl⟩
theorem in_X5_coveredPlaces : ¬ isIn sX5_coveredPlaces := show ¬ ("coveredPlaces" = "<init>") by decide
theorem c_X5_coveredPlaces {x : CX} {q : MS} {as rest : List Value} {h : MH} {xk : String → MH → Prop} {b : Nat × Nat} {K : Nat × Nat → List Value → MH → Prop} : (callE x q sX5_coveredPlaces as rest h xk b K) = (catS rest ≤ 8 ∧ 3 < msD q ∧ CALLI x sX5_coveredPlaces as h xk (fun r h' => K b (.int r :: rest) h')) := propext ⟨fun ⟨a1, a2, _, _, _, a6⟩ => ⟨a1, a2, a6⟩, fun ⟨a1, a2, a6⟩ => ⟨a1, a2, by decide, Nat.zero_le _, Nat.zero_le _, a6⟩⟩
theorem d_X5_tokensAfterRun : msD sX5_tokensAfterRun = 8 := rfl
theorem rt_X5_tokensAfterRun : sX5_tokensAfterRun.2.2.2.1 = some FieldType.int := rfl
theorem co_X5_tokensAfterRun : (sX5_tokensAfterRun.2.2.2.2.2.2.2.1 = 0) ∧ sX5_tokensAfterRun.2.2.2.2.2.2.2.2 = 0 := ⟨rfl, rfl⟩
theorem in_X5_tokensAfterRun : ¬ isIn sX5_tokensAfterRun := show ¬ ("tokensAfterRun" = "<init>") by decide
theorem c_X5_tokensAfterRun {x : CX} {q : MS} {as rest : List Value} {h : MH} {xk : String → MH → Prop} {b : Nat × Nat} {K : Nat × Nat → List Value → MH → Prop} : (callE x q sX5_tokensAfterRun as rest h xk b K) = (catS rest ≤ 8 ∧ 8 < msD q ∧ CALLI x sX5_tokensAfterRun as h xk (fun r h' => K b (.int r :: rest) h')) := propext ⟨fun ⟨a1, a2, _, _, _, a6⟩ => ⟨a1, a2, a6⟩, fun ⟨a1, a2, a6⟩ => ⟨a1, a2, by decide, Nat.zero_le _, Nat.zero_le _, a6⟩⟩
theorem d_X5_runLength : msD sX5_runLength = 8 := rfl
theorem rt_X5_runLength : sX5_runLength.2.2.2.1 = some FieldType.int := rfl
theorem co_X5_runLength : (sX5_runLength.2.2.2.2.2.2.2.1 = 0) ∧ sX5_runLength.2.2.2.2.2.2.2.2 = 0 := ⟨rfl, rfl⟩
theorem in_X5_runLength : ¬ isIn sX5_runLength := show ¬ ("runLength" = "<init>") by decide
theorem c_X5_runLength {x : CX} {q : MS} {as rest : List Value} {h : MH} {xk : String → MH → Prop} {b : Nat × Nat} {K : Nat × Nat → List Value → MH → Prop} : (callE x q sX5_runLength as rest h xk b K) = (catS rest ≤ 8 ∧ 8 < msD q ∧ CALLI x sX5_runLength as h xk (fun r h' => K b (.int r :: rest) h')) := propext ⟨fun ⟨a1, a2, _, _, _, a6⟩ => ⟨a1, a2, a6⟩, fun ⟨a1, a2, a6⟩ => ⟨a1, a2, by decide, Nat.zero_le _, Nat.zero_le _, a6⟩⟩
theorem d_X5_load : msD sX5_load = 2 := rfl
theorem rt_X5_load : sX5_load.2.2.2.1 = some FieldType.double := rfl
theorem co_X5_load : (sX5_load.2.2.2.2.2.2.2.1 = 0) ∧ sX5_load.2.2.2.2.2.2.2.2 = 0 := ⟨rfl, rfl⟩
theorem in_X5_load : ¬ isIn sX5_load := show ¬ ("load" = "<init>") by decide
theorem d_X5_enabledShare : msD sX5_enabledShare = 7 := rfl
theorem rt_X5_enabledShare : sX5_enabledShare.2.2.2.1 = some FieldType.float := rfl
theorem co_X5_enabledShare : (sX5_enabledShare.2.2.2.2.2.2.2.1 = 0) ∧ sX5_enabledShare.2.2.2.2.2.2.2.2 = 0 := ⟨rfl, rfl⟩
theorem in_X5_enabledShare : ¬ isIn sX5_enabledShare := show ¬ ("enabledShare" = "<init>") by decide
theorem d_X5_staysSame : msD sX5_staysSame = 2 := rfl
theorem rt_X5_staysSame : sX5_staysSame.2.2.2.1 = some FieldType.boolean := rfl
theorem co_X5_staysSame : (sX5_staysSame.2.2.2.2.2.2.2.1 = 0) ∧ sX5_staysSame.2.2.2.2.2.2.2.2 = 0 := ⟨rfl, rfl⟩
theorem in_X5_staysSame : ¬ isIn sX5_staysSame := show ¬ ("staysSame" = "<init>") by decide
theorem c_X5_staysSame {x : CX} {q : MS} {as rest : List Value} {h : MH} {xk : String → MH → Prop} {b : Nat × Nat} {K : Nat × Nat → List Value → MH → Prop} : (callE x q sX5_staysSame as rest h xk b K) = (catS rest ≤ 8 ∧ 2 < msD q ∧ CALLI x sX5_staysSame as h xk (fun r h' => K b (.int r :: rest) h')) := propext ⟨fun ⟨a1, a2, _, _, _, a6⟩ => ⟨a1, a2, a6⟩, fun ⟨a1, a2, a6⟩ => ⟨a1, a2, by decide, Nat.zero_le _, Nat.zero_le _, a6⟩⟩
theorem d_X5_violations : msD sX5_violations = 8 := rfl
theorem rt_X5_violations : sX5_violations.2.2.2.1 = some FieldType.int := rfl
theorem co_X5_violations : (sX5_violations.2.2.2.2.2.2.2.1 = 0) ∧ sX5_violations.2.2.2.2.2.2.2.2 = 0 := ⟨rfl, rfl⟩
theorem in_X5_violations : ¬ isIn sX5_violations := show ¬ ("violations" = "<init>") by decide
theorem c_X5_violations {x : CX} {q : MS} {as rest : List Value} {h : MH} {xk : String → MH → Prop} {b : Nat × Nat} {K : Nat × Nat → List Value → MH → Prop} : (callE x q sX5_violations as rest h xk b K) = (catS rest ≤ 8 ∧ 8 < msD q ∧ CALLI x sX5_violations as h xk (fun r h' => K b (.int r :: rest) h')) := propext ⟨fun ⟨a1, a2, _, _, _, a6⟩ => ⟨a1, a2, a6⟩, fun ⟨a1, a2, a6⟩ => ⟨a1, a2, by decide, Nat.zero_le _, Nat.zero_le _, a6⟩⟩
theorem d_X5_say : msD sX5_say = 0 := rfl
theorem rt_X5_say : sX5_say.2.2.2.1 = none := rfl
theorem co_X5_say : (sX5_say.2.2.2.2.2.2.2.1 = 0) ∧ sX5_say.2.2.2.2.2.2.2.2 = 0 := ⟨rfl, rfl⟩
theorem in_X5_say : ¬ isIn sX5_say := show ¬ ("say" = "<init>") by decide
theorem c_X5_say {x : CX} {q : MS} {as rest : List Value} {h : MH} {xk : String → MH → Prop} {b : Nat × Nat} {K : Nat × Nat → List Value → MH → Prop} : (callE x q sX5_say as rest h xk b K) = (catS rest ≤ 8 ∧ 0 < msD q ∧ CALLV x sX5_say as h xk (fun h' => K b rest h')) := propext ⟨fun ⟨a1, a2, _, _, _, a6⟩ => ⟨a1, a2, a6⟩, fun ⟨a1, a2, a6⟩ => ⟨a1, a2, by decide, Nat.zero_le _, Nat.zero_le _, a6⟩⟩
theorem d_X5_sayNumber : msD sX5_sayNumber = 1 := rfl
theorem rt_X5_sayNumber : sX5_sayNumber.2.2.2.1 = none := rfl
theorem co_X5_sayNumber : (sX5_sayNumber.2.2.2.2.2.2.2.1 = 0) ∧ sX5_sayNumber.2.2.2.2.2.2.2.2 = 0 := ⟨rfl, rfl⟩
theorem in_X5_sayNumber : ¬ isIn sX5_sayNumber := show ¬ ("sayNumber" = "<init>") by decide
theorem c_X5_sayNumber {x : CX} {q : MS} {as rest : List Value} {h : MH} {xk : String → MH → Prop} {b : Nat × Nat} {K : Nat × Nat → List Value → MH → Prop} : (callE x q sX5_sayNumber as rest h xk b K) = (catS rest ≤ 8 ∧ 1 < msD q ∧ CALLV x sX5_sayNumber as h xk (fun h' => K b rest h')) := propext ⟨fun ⟨a1, a2, _, _, _, a6⟩ => ⟨a1, a2, a6⟩, fun ⟨a1, a2, a6⟩ => ⟨a1, a2, by decide, Nat.zero_le _, Nat.zero_le _, a6⟩⟩
theorem d_X5_sayEnabled : msD sX5_sayEnabled = 2 := rfl
theorem rt_X5_sayEnabled : sX5_sayEnabled.2.2.2.1 = none := rfl
theorem co_X5_sayEnabled : (sX5_sayEnabled.2.2.2.2.2.2.2.1 = 0) ∧ sX5_sayEnabled.2.2.2.2.2.2.2.2 = 0 := ⟨rfl, rfl⟩
theorem in_X5_sayEnabled : ¬ isIn sX5_sayEnabled := show ¬ ("sayEnabled" = "<init>") by decide
theorem c_X5_sayEnabled {x : CX} {q : MS} {as rest : List Value} {h : MH} {xk : String → MH → Prop} {b : Nat × Nat} {K : Nat × Nat → List Value → MH → Prop} : (callE x q sX5_sayEnabled as rest h xk b K) = (catS rest ≤ 8 ∧ 2 < msD q ∧ CALLV x sX5_sayEnabled as h xk (fun h' => K b rest h')) := propext ⟨fun ⟨a1, a2, _, _, _, a6⟩ => ⟨a1, a2, a6⟩, fun ⟨a1, a2, a6⟩ => ⟨a1, a2, by decide, Nat.zero_le _, Nat.zero_le _, a6⟩⟩
theorem d_X5_writeMarking : msD sX5_writeMarking = 7 := rfl
theorem rt_X5_writeMarking : sX5_writeMarking.2.2.2.1 = some FieldType.int := rfl
theorem co_X5_writeMarking : (sX5_writeMarking.2.2.2.2.2.2.2.1 = 0) ∧ sX5_writeMarking.2.2.2.2.2.2.2.2 = 0 := ⟨rfl, rfl⟩
theorem in_X5_writeMarking : ¬ isIn sX5_writeMarking := show ¬ ("writeMarking" = "<init>") by decide
theorem c_X5_writeMarking {x : CX} {q : MS} {as rest : List Value} {h : MH} {xk : String → MH → Prop} {b : Nat × Nat} {K : Nat × Nat → List Value → MH → Prop} : (callE x q sX5_writeMarking as rest h xk b K) = (catS rest ≤ 8 ∧ 7 < msD q ∧ CALLI x sX5_writeMarking as h xk (fun r h' => K b (.int r :: rest) h')) := propext ⟨fun ⟨a1, a2, _, _, _, a6⟩ => ⟨a1, a2, a6⟩, fun ⟨a1, a2, a6⟩ => ⟨a1, a2, by decide, Nat.zero_le _, Nat.zero_le _, a6⟩⟩
theorem d_X5_reportByte : msD sX5_reportByte = 0 := rfl
theorem rt_X5_reportByte : sX5_reportByte.2.2.2.1 = some FieldType.int := rfl
theorem co_X5_reportByte : (sX5_reportByte.2.2.2.2.2.2.2.1 = 0) ∧ sX5_reportByte.2.2.2.2.2.2.2.2 = 0 := ⟨rfl, rfl⟩
theorem in_X5_reportByte : ¬ isIn sX5_reportByte := show ¬ ("reportByte" = "<init>") by decide
theorem c_X5_reportByte {x : CX} {q : MS} {as rest : List Value} {h : MH} {xk : String → MH → Prop} {b : Nat × Nat} {K : Nat × Nat → List Value → MH → Prop} : (callE x q sX5_reportByte as rest h xk b K) = (catS rest ≤ 8 ∧ 0 < msD q ∧ CALLI x sX5_reportByte as h xk (fun r h' => K b (.int r :: rest) h')) := propext ⟨fun ⟨a1, a2, _, _, _, a6⟩ => ⟨a1, a2, a6⟩, fun ⟨a1, a2, a6⟩ => ⟨a1, a2, by decide, Nat.zero_le _, Nat.zero_le _, a6⟩⟩
theorem d_J0_length_8abf5 : msD sJ0_length_8abf5 = 1 := rfl
theorem rt_J0_length_8abf5 : sJ0_length_8abf5.2.2.2.1 = some FieldType.int := rfl
theorem co_J0_length_8abf5 : (sJ0_length_8abf5.2.2.2.2.2.2.2.1 = 0) ∧ sJ0_length_8abf5.2.2.2.2.2.2.2.2 = 0 := ⟨rfl, rfl⟩
theorem in_J0_length_8abf5 : ¬ isIn sJ0_length_8abf5 := show ¬ ("length" = "<init>") by decide
theorem c_J0_length_8abf5 {x : CX} {q : MS} {as rest : List Value} {h : MH} {xk : String → MH → Prop} {b : Nat × Nat} {K : Nat × Nat → List Value → MH → Prop} : (callE x q sJ0_length_8abf5 as rest h xk b K) = (catS rest ≤ 8 ∧ 1 < msD q ∧ CALLI x sJ0_length_8abf5 as h xk (fun r h' => K b (.int r :: rest) h')) := propext ⟨fun ⟨a1, a2, _, _, _, a6⟩ => ⟨a1, a2, a6⟩, fun ⟨a1, a2, a6⟩ => ⟨a1, a2, by decide, Nat.zero_le _, Nat.zero_le _, a6⟩⟩
theorem d_J0_coder_7d493 : msD sJ0_coder_7d493 = 0 := rfl
theorem rt_J0_coder_7d493 : sJ0_coder_7d493.2.2.2.1 = some FieldType.byte := rfl
theorem co_J0_coder_7d493 : (sJ0_coder_7d493.2.2.2.2.2.2.2.1 = 0) ∧ sJ0_coder_7d493.2.2.2.2.2.2.2.2 = 0 := ⟨rfl, rfl⟩
theorem in_J0_coder_7d493 : ¬ isIn sJ0_coder_7d493 := show ¬ ("coder" = "<init>") by decide
theorem c_J0_coder_7d493 {x : CX} {q : MS} {as rest : List Value} {h : MH} {xk : String → MH → Prop} {b : Nat × Nat} {K : Nat × Nat → List Value → MH → Prop} : (callE x q sJ0_coder_7d493 as rest h xk b K) = (catS rest ≤ 8 ∧ 0 < msD q ∧ CALLI x sJ0_coder_7d493 as h xk (fun r h' => K b (.int r :: rest) h')) := propext ⟨fun ⟨a1, a2, _, _, _, a6⟩ => ⟨a1, a2, a6⟩, fun ⟨a1, a2, a6⟩ => ⟨a1, a2, by decide, Nat.zero_le _, Nat.zero_le _, a6⟩⟩
theorem d_J0_charAt_5068e : msD sJ0_charAt_5068e = 3 := rfl
theorem rt_J0_charAt_5068e : sJ0_charAt_5068e.2.2.2.1 = some FieldType.char := rfl
theorem co_J0_charAt_5068e : (sJ0_charAt_5068e.2.2.2.2.2.2.2.1 = 0) ∧ sJ0_charAt_5068e.2.2.2.2.2.2.2.2 = 0 := ⟨rfl, rfl⟩
theorem in_J0_charAt_5068e : ¬ isIn sJ0_charAt_5068e := show ¬ ("charAt" = "<init>") by decide
theorem c_J0_charAt_5068e {x : CX} {q : MS} {as rest : List Value} {h : MH} {xk : String → MH → Prop} {b : Nat × Nat} {K : Nat × Nat → List Value → MH → Prop} : (callE x q sJ0_charAt_5068e as rest h xk b K) = (catS rest ≤ 8 ∧ 3 < msD q ∧ CALLI x sJ0_charAt_5068e as h xk (fun r h' => K b (.int r :: rest) h')) := propext ⟨fun ⟨a1, a2, _, _, _, a6⟩ => ⟨a1, a2, a6⟩, fun ⟨a1, a2, a6⟩ => ⟨a1, a2, by decide, Nat.zero_le _, Nat.zero_le _, a6⟩⟩
theorem d_J0_isLatin1_aae02 : msD sJ0_isLatin1_aae02 = 0 := rfl
theorem rt_J0_isLatin1_aae02 : sJ0_isLatin1_aae02.2.2.2.1 = some FieldType.boolean := rfl
theorem co_J0_isLatin1_aae02 : (sJ0_isLatin1_aae02.2.2.2.2.2.2.2.1 = 0) ∧ sJ0_isLatin1_aae02.2.2.2.2.2.2.2.2 = 0 := ⟨rfl, rfl⟩
theorem in_J0_isLatin1_aae02 : ¬ isIn sJ0_isLatin1_aae02 := show ¬ ("isLatin1" = "<init>") by decide
theorem c_J0_isLatin1_aae02 {x : CX} {q : MS} {as rest : List Value} {h : MH} {xk : String → MH → Prop} {b : Nat × Nat} {K : Nat × Nat → List Value → MH → Prop} : (callE x q sJ0_isLatin1_aae02 as rest h xk b K) = (catS rest ≤ 8 ∧ 0 < msD q ∧ CALLI x sJ0_isLatin1_aae02 as h xk (fun r h' => K b (.int r :: rest) h')) := propext ⟨fun ⟨a1, a2, _, _, _, a6⟩ => ⟨a1, a2, a6⟩, fun ⟨a1, a2, a6⟩ => ⟨a1, a2, by decide, Nat.zero_le _, Nat.zero_le _, a6⟩⟩
theorem d_J1_charAt_3b067 : msD sJ1_charAt_3b067 = 2 := rfl
theorem rt_J1_charAt_3b067 : sJ1_charAt_3b067.2.2.2.1 = some FieldType.char := rfl
theorem co_J1_charAt_3b067 : (sJ1_charAt_3b067.2.2.2.2.2.2.2.1 = 0) ∧ sJ1_charAt_3b067.2.2.2.2.2.2.2.2 = 0 := ⟨rfl, rfl⟩
theorem in_J1_charAt_3b067 : ¬ isIn sJ1_charAt_3b067 := show ¬ ("charAt" = "<init>") by decide
theorem c_J1_charAt_3b067 {x : CX} {q : MS} {as rest : List Value} {h : MH} {xk : String → MH → Prop} {b : Nat × Nat} {K : Nat × Nat → List Value → MH → Prop} : (callE x q sJ1_charAt_3b067 as rest h xk b K) = (catS rest ≤ 8 ∧ 2 < msD q ∧ CALLI x sJ1_charAt_3b067 as h xk (fun r h' => K b (.int r :: rest) h')) := propext ⟨fun ⟨a1, a2, _, _, _, a6⟩ => ⟨a1, a2, a6⟩, fun ⟨a1, a2, a6⟩ => ⟨a1, a2, by decide, Nat.zero_le _, Nat.zero_le _, a6⟩⟩
theorem d_J0_checkIndex_df160 : msD sJ0_checkIndex_df160 = 1 := rfl
theorem rt_J0_checkIndex_df160 : sJ0_checkIndex_df160.2.2.2.1 = none := rfl
theorem co_J0_checkIndex_df160 : (sJ0_checkIndex_df160.2.2.2.2.2.2.2.1 = 0) ∧ sJ0_checkIndex_df160.2.2.2.2.2.2.2.2 = 0 := ⟨rfl, rfl⟩
theorem in_J0_checkIndex_df160 : ¬ isIn sJ0_checkIndex_df160 := show ¬ ("checkIndex" = "<init>") by decide
theorem c_J0_checkIndex_df160 {x : CX} {q : MS} {as rest : List Value} {h : MH} {xk : String → MH → Prop} {b : Nat × Nat} {K : Nat × Nat → List Value → MH → Prop} : (callE x q sJ0_checkIndex_df160 as rest h xk b K) = (catS rest ≤ 8 ∧ 1 < msD q ∧ CALLV x sJ0_checkIndex_df160 as h xk (fun h' => K b rest h')) := propext ⟨fun ⟨a1, a2, _, _, _, a6⟩ => ⟨a1, a2, a6⟩, fun ⟨a1, a2, a6⟩ => ⟨a1, a2, by decide, Nat.zero_le _, Nat.zero_le _, a6⟩⟩
theorem d_J3_checkIndex_8e157 : msD sJ3_checkIndex_8e157 = 0 := rfl
theorem rt_J3_checkIndex_8e157 : sJ3_checkIndex_8e157.2.2.2.1 = some FieldType.int := rfl
theorem co_J3_checkIndex_8e157 : (sJ3_checkIndex_8e157.2.2.2.2.2.2.2.1 = 0) ∧ sJ3_checkIndex_8e157.2.2.2.2.2.2.2.2 = 0 := ⟨rfl, rfl⟩
theorem in_J3_checkIndex_8e157 : ¬ isIn sJ3_checkIndex_8e157 := show ¬ ("checkIndex" = "<init>") by decide
theorem c_J3_checkIndex_8e157 {x : CX} {q : MS} {as rest : List Value} {h : MH} {xk : String → MH → Prop} {b : Nat × Nat} {K : Nat × Nat → List Value → MH → Prop} : (callE x q sJ3_checkIndex_8e157 as rest h xk b K) = (catS rest ≤ 8 ∧ 0 < msD q ∧ CALLI x sJ3_checkIndex_8e157 as h xk (fun r h' => K b (.int r :: rest) h')) := propext ⟨fun ⟨a1, a2, _, _, _, a6⟩ => ⟨a1, a2, a6⟩, fun ⟨a1, a2, a6⟩ => ⟨a1, a2, by decide, Nat.zero_le _, Nat.zero_le _, a6⟩⟩
theorem d_J6_bitCount_0f7a4 : msD sJ6_bitCount_0f7a4 = 0 := rfl
theorem rt_J6_bitCount_0f7a4 : sJ6_bitCount_0f7a4.2.2.2.1 = some FieldType.int := rfl
theorem co_J6_bitCount_0f7a4 : (sJ6_bitCount_0f7a4.2.2.2.2.2.2.2.1 = 0) ∧ sJ6_bitCount_0f7a4.2.2.2.2.2.2.2.2 = 0 := ⟨rfl, rfl⟩
theorem in_J6_bitCount_0f7a4 : ¬ isIn sJ6_bitCount_0f7a4 := show ¬ ("bitCount" = "<init>") by decide
theorem c_J6_bitCount_0f7a4 {x : CX} {q : MS} {as rest : List Value} {h : MH} {xk : String → MH → Prop} {b : Nat × Nat} {K : Nat × Nat → List Value → MH → Prop} : (callE x q sJ6_bitCount_0f7a4 as rest h xk b K) = (catS rest ≤ 8 ∧ 0 < msD q ∧ CALLI x sJ6_bitCount_0f7a4 as h xk (fun r h' => K b (.int r :: rest) h')) := propext ⟨fun ⟨a1, a2, _, _, _, a6⟩ => ⟨a1, a2, a6⟩, fun ⟨a1, a2, a6⟩ => ⟨a1, a2, by decide, Nat.zero_le _, Nat.zero_le _, a6⟩⟩
theorem isIn_X0_init : isIn sX0_init := rfl
theorem isIn_X1_init : isIn sX1_init := rfl
theorem isIn_X2_init : isIn sX2_init := rfl
theorem isIn_X3_init : isIn sX3_init := rfl
theorem isIn_X4_init : isIn sX4_init := rfl
theorem isIn_X5_init : isIn sX5_init := rfl
theorem gf0_9 {x : CX} {q : MS} {post : Option Value → MH → Prop} {xp : String → MH → Prop} {len pc : Nat} {b : Nat × Nat} {L st : List Value} {h : MH} {K : KT} : stepE x q 0 post xp (.getfield 9) len pc b L st h K = popR st fun a r => mK h a = 1 ∧ mP h a 0 ≠ 0 ∧ K (pc + len) b L (.ref (mP h a 0) :: r) h := id rfl
theorem pf0_9 {x : CX} {q : MS} {post : Option Value → MH → Prop} {xp : String → MH → Prop} {len pc : Nat} {b : Nat × Nat} {L st : List Value} {h : MH} {K : KT} {u a : Nat} {r : List Value} (hq : isIn q) : stepE x q 0 post xp (.putfield 9) len pc b L (.ref u :: .ref a :: r) h K = (mK h a = 1 ∧ u ≠ 0 ∧ K (pc + len) b L r (sP h a 0 u)) := propext ⟨fun z => ⟨z.1, z.2.2⟩, fun z => ⟨z.1, (fun _ => ⟨hq, rfl⟩), z.2⟩⟩
theorem gf0_15 {x : CX} {q : MS} {post : Option Value → MH → Prop} {xp : String → MH → Prop} {len pc : Nat} {b : Nat × Nat} {L st : List Value} {h : MH} {K : KT} : stepE x q 0 post xp (.getfield 15) len pc b L st h K = popR st fun a r => mK h a = 1 ∧ mP h a 1 ≠ 0 ∧ K (pc + len) b L (.ref (mP h a 1) :: r) h := id rfl
theorem pf0_15 {x : CX} {q : MS} {post : Option Value → MH → Prop} {xp : String → MH → Prop} {len pc : Nat} {b : Nat × Nat} {L st : List Value} {h : MH} {K : KT} {u a : Nat} {r : List Value} (hq : isIn q) : stepE x q 0 post xp (.putfield 15) len pc b L (.ref u :: .ref a :: r) h K = (mK h a = 1 ∧ u ≠ 0 ∧ K (pc + len) b L r (sP h a 1 u)) := propext ⟨fun z => ⟨z.1, z.2.2⟩, fun z => ⟨z.1, (fun _ => ⟨hq, rfl⟩), z.2⟩⟩
theorem gf0_19 {x : CX} {q : MS} {post : Option Value → MH → Prop} {xp : String → MH → Prop} {len pc : Nat} {b : Nat × Nat} {L st : List Value} {h : MH} {K : KT} : stepE x q 0 post xp (.getfield 19) len pc b L st h K = popR st fun a r => mK h a = 1 ∧ mP h a 2 ≠ 0 ∧ K (pc + len) b L (.ref (mP h a 2) :: r) h := id rfl
theorem pf0_19 {x : CX} {q : MS} {post : Option Value → MH → Prop} {xp : String → MH → Prop} {len pc : Nat} {b : Nat × Nat} {L st : List Value} {h : MH} {K : KT} {u a : Nat} {r : List Value} (hq : isIn q) : stepE x q 0 post xp (.putfield 19) len pc b L (.ref u :: .ref a :: r) h K = (mK h a = 1 ∧ u ≠ 0 ∧ K (pc + len) b L r (sP h a 2 u)) := propext ⟨fun z => ⟨z.1, z.2.2⟩, fun z => ⟨z.1, (fun _ => ⟨hq, rfl⟩), z.2⟩⟩
theorem gf0_22 {x : CX} {q : MS} {post : Option Value → MH → Prop} {xp : String → MH → Prop} {len pc : Nat} {b : Nat × Nat} {L st : List Value} {h : MH} {K : KT} : stepE x q 0 post xp (.getfield 22) len pc b L st h K = popR st fun a r => mK h a = 1 ∧ mP h a 3 ≠ 0 ∧ K (pc + len) b L (.ref (mP h a 3) :: r) h := id rfl
theorem pf0_22 {x : CX} {q : MS} {post : Option Value → MH → Prop} {xp : String → MH → Prop} {len pc : Nat} {b : Nat × Nat} {L st : List Value} {h : MH} {K : KT} {u a : Nat} {r : List Value} (hq : isIn q) : stepE x q 0 post xp (.putfield 22) len pc b L (.ref u :: .ref a :: r) h K = (mK h a = 1 ∧ u ≠ 0 ∧ K (pc + len) b L r (sP h a 3 u)) := propext ⟨fun z => ⟨z.1, z.2.2⟩, fun z => ⟨z.1, (fun _ => ⟨hq, rfl⟩), z.2⟩⟩
theorem gf0_25 {x : CX} {q : MS} {post : Option Value → MH → Prop} {xp : String → MH → Prop} {len pc : Nat} {b : Nat × Nat} {L st : List Value} {h : MH} {K : KT} : stepE x q 0 post xp (.getfield 25) len pc b L st h K = popR st fun a r => mK h a = 1 ∧ mP h a 4 ≠ 0 ∧ K (pc + len) b L (.ref (mP h a 4) :: r) h := id rfl
theorem pf0_25 {x : CX} {q : MS} {post : Option Value → MH → Prop} {xp : String → MH → Prop} {len pc : Nat} {b : Nat × Nat} {L st : List Value} {h : MH} {K : KT} {u a : Nat} {r : List Value} (hq : isIn q) : stepE x q 0 post xp (.putfield 25) len pc b L (.ref u :: .ref a :: r) h K = (mK h a = 1 ∧ u ≠ 0 ∧ K (pc + len) b L r (sP h a 4 u)) := propext ⟨fun z => ⟨z.1, z.2.2⟩, fun z => ⟨z.1, (fun _ => ⟨hq, rfl⟩), z.2⟩⟩
theorem gf0_28 {x : CX} {q : MS} {post : Option Value → MH → Prop} {xp : String → MH → Prop} {len pc : Nat} {b : Nat × Nat} {L st : List Value} {h : MH} {K : KT} : stepE x q 0 post xp (.getfield 28) len pc b L st h K = popR st fun a r => mK h a = 1 ∧ mP h a 5 ≠ 0 ∧ K (pc + len) b L (.ref (mP h a 5) :: r) h := id rfl
theorem pf0_28 {x : CX} {q : MS} {post : Option Value → MH → Prop} {xp : String → MH → Prop} {len pc : Nat} {b : Nat × Nat} {L st : List Value} {h : MH} {K : KT} {u a : Nat} {r : List Value} (hq : isIn q) : stepE x q 0 post xp (.putfield 28) len pc b L (.ref u :: .ref a :: r) h K = (mK h a = 1 ∧ u ≠ 0 ∧ K (pc + len) b L r (sP h a 5 u)) := propext ⟨fun z => ⟨z.1, z.2.2⟩, fun z => ⟨z.1, (fun _ => ⟨hq, rfl⟩), z.2⟩⟩
theorem gf0_34 {x : CX} {q : MS} {post : Option Value → MH → Prop} {xp : String → MH → Prop} {len pc : Nat} {b : Nat × Nat} {L st : List Value} {h : MH} {K : KT} : stepE x q 0 post xp (.getfield 34) len pc b L st h K = popR st fun a r => mK h a = 1 ∧ mP h a 6 ≠ 0 ∧ K (pc + len) b L (.ref (mP h a 6) :: r) h := id rfl
theorem pf0_34 {x : CX} {q : MS} {post : Option Value → MH → Prop} {xp : String → MH → Prop} {len pc : Nat} {b : Nat × Nat} {L st : List Value} {h : MH} {K : KT} {u a : Nat} {r : List Value} (hq : isIn q) : stepE x q 0 post xp (.putfield 34) len pc b L (.ref u :: .ref a :: r) h K = (mK h a = 1 ∧ u ≠ 0 ∧ K (pc + len) b L r (sP h a 6 u)) := propext ⟨fun z => ⟨z.1, z.2.2⟩, fun z => ⟨z.1, (fun _ => ⟨hq, rfl⟩), z.2⟩⟩
theorem gf0_38 {x : CX} {q : MS} {post : Option Value → MH → Prop} {xp : String → MH → Prop} {len pc : Nat} {b : Nat × Nat} {L st : List Value} {h : MH} {K : KT} : stepE x q 0 post xp (.getfield 38) len pc b L st h K = popR st fun a r => mK h a = 1 ∧ K (pc + len) b L (.int (mI h a 7) :: r) h := id rfl
theorem pf0_38 {x : CX} {q : MS} {post : Option Value → MH → Prop} {xp : String → MH → Prop} {len pc : Nat} {b : Nat × Nat} {L st : List Value} {h : MH} {K : KT} {u : Int32} {a : Nat} {r : List Value} : stepE x q 0 post xp (.putfield 38) len pc b L (.int u :: .ref a :: r) h K = (mK h a = 1 ∧ K (pc + len) b L r (sI h a 7 u)) := propext ⟨fun z => ⟨z.1, z.2.2.2⟩, fun z => ⟨z.1, (fun e => absurd e (by decide)), (fun e => by cases e), z.2⟩⟩
theorem gf0_42 {x : CX} {q : MS} {post : Option Value → MH → Prop} {xp : String → MH → Prop} {len pc : Nat} {b : Nat × Nat} {L st : List Value} {h : MH} {K : KT} : stepE x q 0 post xp (.getfield 42) len pc b L st h K = popR st fun a r => mK h a = 1 ∧ K (pc + len) b L (.int (mI h a 8) :: r) h := id rfl
theorem pf0_42 {x : CX} {q : MS} {post : Option Value → MH → Prop} {xp : String → MH → Prop} {len pc : Nat} {b : Nat × Nat} {L st : List Value} {h : MH} {K : KT} {u : Int32} {a : Nat} {r : List Value} : stepE x q 0 post xp (.putfield 42) len pc b L (.int u :: .ref a :: r) h K = (mK h a = 1 ∧ (u = 0 ∨ u = 1) ∧ K (pc + len) b L r (sI h a 8 u)) := propext ⟨fun z => ⟨z.1, z.2.2.1 rfl, z.2.2.2⟩, fun z => ⟨z.1, (fun e => absurd e (by decide)), fun _ => z.2.1, z.2.2⟩⟩
theorem gf0_58 {x : CX} {q : MS} {post : Option Value → MH → Prop} {xp : String → MH → Prop} {len pc : Nat} {b : Nat × Nat} {L st : List Value} {h : MH} {K : KT} : stepE x q 0 post xp (.getfield 58) len pc b L st h K = popR st fun a r => mK h a = 3 ∧ K (pc + len) b L (.int (mI h a 1) :: r) h := id rfl
theorem pf0_58 {x : CX} {q : MS} {post : Option Value → MH → Prop} {xp : String → MH → Prop} {len pc : Nat} {b : Nat × Nat} {L st : List Value} {h : MH} {K : KT} {u : Int32} {a : Nat} {r : List Value} : stepE x q 0 post xp (.putfield 58) len pc b L (.int u :: .ref a :: r) h K = (mK h a = 3 ∧ K (pc + len) b L r (sI h a 1 u)) := propext ⟨fun z => ⟨z.1, z.2.2.2⟩, fun z => ⟨z.1, (fun e => absurd e (by decide)), (fun e => by cases e), z.2⟩⟩
theorem gf0_94 {x : CX} {q : MS} {post : Option Value → MH → Prop} {xp : String → MH → Prop} {len pc : Nat} {b : Nat × Nat} {L st : List Value} {h : MH} {K : KT} : stepE x q 0 post xp (.getfield 94) len pc b L st h K = popR st fun a r => mK h a = 3 ∧ K (pc + len) b L (.int (mI h a 0) :: r) h := id rfl
theorem pf0_94 {x : CX} {q : MS} {post : Option Value → MH → Prop} {xp : String → MH → Prop} {len pc : Nat} {b : Nat × Nat} {L st : List Value} {h : MH} {K : KT} {u : Int32} {a : Nat} {r : List Value} : stepE x q 0 post xp (.putfield 94) len pc b L (.int u :: .ref a :: r) h K = (mK h a = 3 ∧ K (pc + len) b L r (sI h a 0 u)) := propext ⟨fun z => ⟨z.1, z.2.2.2⟩, fun z => ⟨z.1, (fun e => absurd e (by decide)), (fun e => by cases e), z.2⟩⟩
theorem iv0_33 {x : CX} {q : MS} {post : Option Value → MH → Prop} {xp : String → MH → Prop} {len pc : Nat} {b : Nat × Nat} {L st : List Value} {h : MH} {K : KT} {a : Nat} {r : List Value} : stepE x q 0 post xp (.invokespecial 33) len pc b L (.ref a :: r) h K = callE x q sX2_init [.ref a] r h xp b (fun b' st' h' => K (pc + len) b' L st' h') := propext ⟨fun z => z.2.2.2, fun z => ⟨rfl, rfl, by decide, z⟩⟩
theorem iv0_46 {x : CX} {q : MS} {post : Option Value → MH → Prop} {xp : String → MH → Prop} {len pc : Nat} {b : Nat × Nat} {L st : List Value} {h : MH} {K : KT} {v0 : Value} {a : Nat} {r : List Value} : stepE x q 0 post xp (.invokevirtual 46) len pc b L (v0 :: .ref a :: r) h K = (rcvE x h a 0 ∧ callE x q sX0_start [.ref a, v0] r h xp b (fun b' st' h' => K (pc + len) b' L st' h')) := propext ⟨fun z => ⟨z.1, z.2.2⟩, fun z => ⟨z.1, in_X0_start, z.2⟩⟩
theorem iv0_50 {x : CX} {q : MS} {post : Option Value → MH → Prop} {xp : String → MH → Prop} {len pc : Nat} {b : Nat × Nat} {L st : List Value} {h : MH} {K : KT} {a : Nat} {r : List Value} : stepE x q 0 post xp (.invokevirtual 50) len pc b L (.ref a :: r) h K = (rcvE x h a 2 ∧ callE x q sX2_packMarking [.ref a] r h xp b (fun b' st' h' => K (pc + len) b' L st' h')) := propext ⟨fun z => ⟨z.1, z.2.2⟩, fun z => ⟨z.1, in_X2_packMarking, z.2⟩⟩
theorem iv0_54 {x : CX} {q : MS} {post : Option Value → MH → Prop} {xp : String → MH → Prop} {len pc : Nat} {b : Nat × Nat} {L st : List Value} {h : MH} {K : KT} {v0 v1 v2 : Value} {a : Nat} {r : List Value} : stepE x q 0 post xp (.invokevirtual 54) len pc b L (v2 :: v1 :: v0 :: .ref a :: r) h K = (rcvE x h a 0 ∧ callE x q sX0_visit [.ref a, v0, v1, v2] r h xp b (fun b' st' h' => K (pc + len) b' L st' h')) := propext ⟨fun z => ⟨z.1, z.2.2⟩, fun z => ⟨z.1, in_X0_visit, z.2⟩⟩
theorem iv0_61 {x : CX} {q : MS} {post : Option Value → MH → Prop} {xp : String → MH → Prop} {len pc : Nat} {b : Nat × Nat} {L st : List Value} {h : MH} {K : KT} {v0 v1 : Value} {a : Nat} {r : List Value} : stepE x q 0 post xp (.invokevirtual 61) len pc b L (v1 :: v0 :: .ref a :: r) h K = (rcvE x h a 0 ∧ callE x q sX0_isEnabledIn [.ref a, v0, v1] r h xp b (fun b' st' h' => K (pc + len) b' L st' h')) := propext ⟨fun z => ⟨z.1, z.2.2⟩, fun z => ⟨z.1, in_X0_isEnabledIn, z.2⟩⟩
theorem iv0_65 {x : CX} {q : MS} {post : Option Value → MH → Prop} {xp : String → MH → Prop} {len pc : Nat} {b : Nat × Nat} {L st : List Value} {h : MH} {K : KT} {v0 : Value} {a : Nat} {r : List Value} : stepE x q 0 post xp (.invokevirtual 65) len pc b L (v0 :: .ref a :: r) h K = (rcvE x h a 2 ∧ callE x q sX2_copyFrom [.ref a, v0] r h xp b (fun b' st' h' => K (pc + len) b' L st' h')) := propext ⟨fun z => ⟨z.1, z.2.2⟩, fun z => ⟨z.1, in_X2_copyFrom, z.2⟩⟩
theorem iv0_68 {x : CX} {q : MS} {post : Option Value → MH → Prop} {xp : String → MH → Prop} {len pc : Nat} {b : Nat × Nat} {L st : List Value} {h : MH} {K : KT} {v0 : Value} {a : Nat} {r : List Value} : stepE x q 0 post xp (.invokevirtual 68) len pc b L (v0 :: .ref a :: r) h K = (rcvE x h a 2 ∧ callE x q sX2_packChange [.ref a, v0] r h xp b (fun b' st' h' => K (pc + len) b' L st' h')) := propext ⟨fun z => ⟨z.1, z.2.2⟩, fun z => ⟨z.1, in_X2_packChange, z.2⟩⟩
theorem iv0_72 {x : CX} {q : MS} {post : Option Value → MH → Prop} {xp : String → MH → Prop} {len pc : Nat} {b : Nat × Nat} {L st : List Value} {h : MH} {K : KT} {v0 : Value} {a : Nat} {r : List Value} : stepE x q 0 post xp (.invokevirtual 72) len pc b L (v0 :: .ref a :: r) h K = (rcvE x h a 0 ∧ callE x q sX0_slotOf [.ref a, v0] r h xp b (fun b' st' h' => K (pc + len) b' L st' h')) := propext ⟨fun z => ⟨z.1, z.2.2⟩, fun z => ⟨z.1, in_X0_slotOf, z.2⟩⟩
theorem iv0_76 {x : CX} {q : MS} {post : Option Value → MH → Prop} {xp : String → MH → Prop} {len pc : Nat} {b : Nat × Nat} {L st : List Value} {h : MH} {K : KT} {v0 : Value} {a : Nat} {r : List Value} : stepE x q 0 post xp (.invokevirtual 76) len pc b L (v0 :: .ref a :: r) h K = (rcvE x h a 2 ∧ callE x q sX2_unpackMarking [.ref a, v0] r h xp b (fun b' st' h' => K (pc + len) b' L st' h')) := propext ⟨fun z => ⟨z.1, z.2.2⟩, fun z => ⟨z.1, in_X2_unpackMarking, z.2⟩⟩
theorem iv0_80 {x : CX} {q : MS} {post : Option Value → MH → Prop} {xp : String → MH → Prop} {len pc : Nat} {b : Nat × Nat} {L st : List Value} {h : MH} {K : KT} {a : Nat} {r : List Value} : stepE x q 0 post xp (.invokevirtual 80) len pc b L (.ref a :: r) h K = (rcvE x h a 2 ∧ callE x q sX2_enabledSet [.ref a] r h xp b (fun b' st' h' => K (pc + len) b' L st' h')) := propext ⟨fun z => ⟨z.1, z.2.2⟩, fun z => ⟨z.1, in_X2_enabledSet, z.2⟩⟩
theorem iv0_86 {x : CX} {q : MS} {post : Option Value → MH → Prop} {xp : String → MH → Prop} {len pc : Nat} {b : Nat × Nat} {L st : List Value} {h : MH} {K : KT} {v0 v1 : Value} {r : List Value} : stepE x q 0 post xp (.invokestatic 86) len pc b L (v1 :: v0 :: r) h K = callE x q sX2_unpackTokens [v0, v1] r h xp b (fun b' st' h' => K (pc + len) b' L st' h') := propext ⟨fun z => z.2, fun z => ⟨rfl, z⟩⟩
theorem iv0_90 {x : CX} {q : MS} {post : Option Value → MH → Prop} {xp : String → MH → Prop} {len pc : Nat} {b : Nat × Nat} {L st : List Value} {h : MH} {K : KT} {v0 v1 : Value} {a : Nat} {r : List Value} : stepE x q 0 post xp (.invokevirtual 90) len pc b L (v1 :: v0 :: .ref a :: r) h K = (rcvE x h a 0 ∧ callE x q sX0_tokensOf [.ref a, v0, v1] r h xp b (fun b' st' h' => K (pc + len) b' L st' h')) := propext ⟨fun z => ⟨z.1, z.2.2⟩, fun z => ⟨z.1, in_X0_tokensOf, z.2⟩⟩
theorem iv0_97 {x : CX} {q : MS} {post : Option Value → MH → Prop} {xp : String → MH → Prop} {len pc : Nat} {b : Nat × Nat} {L st : List Value} {h : MH} {K : KT} {v0 v1 : Value} {a : Nat} {r : List Value} : stepE x q 0 post xp (.invokevirtual 97) len pc b L (v1 :: v0 :: .ref a :: r) h K = (rcvE x h a 0 ∧ callE x q sX0_tokensIn [.ref a, v0, v1] r h xp b (fun b' st' h' => K (pc + len) b' L st' h')) := propext ⟨fun z => ⟨z.1, z.2.2⟩, fun z => ⟨z.1, in_X0_tokensIn, z.2⟩⟩
theorem gf1_11 {x : CX} {q : MS} {post : Option Value → MH → Prop} {xp : String → MH → Prop} {len pc : Nat} {b : Nat × Nat} {L st : List Value} {h : MH} {K : KT} : stepE x q 1 post xp (.getfield 11) len pc b L st h K = popR st fun a r => mK h a = 2 ∧ mP h a 0 ≠ 0 ∧ K (pc + len) b L (.ref (mP h a 0) :: r) h := id rfl
theorem pf1_11 {x : CX} {q : MS} {post : Option Value → MH → Prop} {xp : String → MH → Prop} {len pc : Nat} {b : Nat × Nat} {L st : List Value} {h : MH} {K : KT} {u a : Nat} {r : List Value} (hq : isIn q) : stepE x q 1 post xp (.putfield 11) len pc b L (.ref u :: .ref a :: r) h K = (mK h a = 2 ∧ u ≠ 0 ∧ K (pc + len) b L r (sP h a 0 u)) := propext ⟨fun z => ⟨z.1, z.2.2⟩, fun z => ⟨z.1, (fun _ => ⟨hq, rfl⟩), z.2⟩⟩
theorem gf1_18 {x : CX} {q : MS} {post : Option Value → MH → Prop} {xp : String → MH → Prop} {len pc : Nat} {b : Nat × Nat} {L st : List Value} {h : MH} {K : KT} : stepE x q 1 post xp (.getfield 18) len pc b L st h K = popR st fun a r => mK h a = 2 ∧ K (pc + len) b L (.int (mI h a 1) :: r) h := id rfl
theorem pf1_18 {x : CX} {q : MS} {post : Option Value → MH → Prop} {xp : String → MH → Prop} {len pc : Nat} {b : Nat × Nat} {L st : List Value} {h : MH} {K : KT} {u : Int32} {a : Nat} {r : List Value} : stepE x q 1 post xp (.putfield 18) len pc b L (.int u :: .ref a :: r) h K = (mK h a = 2 ∧ K (pc + len) b L r (sI h a 1 u)) := propext ⟨fun z => ⟨z.1, z.2.2.2⟩, fun z => ⟨z.1, (fun e => absurd e (by decide)), (fun e => by cases e), z.2⟩⟩
theorem gf1_22 {x : CX} {q : MS} {post : Option Value → MH → Prop} {xp : String → MH → Prop} {len pc : Nat} {b : Nat × Nat} {L st : List Value} {h : MH} {K : KT} : stepE x q 1 post xp (.getfield 22) len pc b L st h K = popR st fun a r => mK h a = 2 ∧ K (pc + len) b L (.int (mI h a 2) :: r) h := id rfl
theorem pf1_22 {x : CX} {q : MS} {post : Option Value → MH → Prop} {xp : String → MH → Prop} {len pc : Nat} {b : Nat × Nat} {L st : List Value} {h : MH} {K : KT} {u : Int32} {a : Nat} {r : List Value} : stepE x q 1 post xp (.putfield 22) len pc b L (.int u :: .ref a :: r) h K = (mK h a = 2 ∧ K (pc + len) b L r (sI h a 2 u)) := propext ⟨fun z => ⟨z.1, z.2.2.2⟩, fun z => ⟨z.1, (fun e => absurd e (by decide)), (fun e => by cases e), z.2⟩⟩
theorem iv1_17 {x : CX} {q : MS} {post : Option Value → MH → Prop} {xp : String → MH → Prop} {len pc : Nat} {b : Nat × Nat} {L st : List Value} {h : MH} {K : KT} {a : Nat} {r : List Value} : stepE x q 1 post xp (.invokespecial 17) len pc b L (.ref a :: r) h K = callE x q sX2_init [.ref a] r h xp b (fun b' st' h' => K (pc + len) b' L st' h') := propext ⟨fun z => z.2.2.2, fun z => ⟨rfl, rfl, by decide, z⟩⟩
theorem iv1_25 {x : CX} {q : MS} {post : Option Value → MH → Prop} {xp : String → MH → Prop} {len pc : Nat} {b : Nat × Nat} {L st : List Value} {h : MH} {K : KT} {v0 : Value} {a : Nat} {r : List Value} : stepE x q 1 post xp (.invokevirtual 25) len pc b L (v0 :: .ref a :: r) h K = (rcvE x h a 2 ∧ callE x q sX2_copyFrom [.ref a, v0] r h xp b (fun b' st' h' => K (pc + len) b' L st' h')) := propext ⟨fun z => ⟨z.1, z.2.2⟩, fun z => ⟨z.1, in_X2_copyFrom, z.2⟩⟩
theorem gf2_9 {x : CX} {q : MS} {post : Option Value → MH → Prop} {xp : String → MH → Prop} {len pc : Nat} {b : Nat × Nat} {L st : List Value} {h : MH} {K : KT} : stepE x q 2 post xp (.getfield 9) len pc b L st h K = popR st fun a r => mK h a = 3 ∧ K (pc + len) b L (.int (mI h a 0) :: r) h := id rfl
theorem pf2_9 {x : CX} {q : MS} {post : Option Value → MH → Prop} {xp : String → MH → Prop} {len pc : Nat} {b : Nat × Nat} {L st : List Value} {h : MH} {K : KT} {u : Int32} {a : Nat} {r : List Value} : stepE x q 2 post xp (.putfield 9) len pc b L (.int u :: .ref a :: r) h K = (mK h a = 3 ∧ K (pc + len) b L r (sI h a 0 u)) := propext ⟨fun z => ⟨z.1, z.2.2.2⟩, fun z => ⟨z.1, (fun e => absurd e (by decide)), (fun e => by cases e), z.2⟩⟩
theorem gf2_15 {x : CX} {q : MS} {post : Option Value → MH → Prop} {xp : String → MH → Prop} {len pc : Nat} {b : Nat × Nat} {L st : List Value} {h : MH} {K : KT} : stepE x q 2 post xp (.getfield 15) len pc b L st h K = popR st fun a r => mK h a = 3 ∧ K (pc + len) b L (.int (mI h a 1) :: r) h := id rfl
theorem pf2_15 {x : CX} {q : MS} {post : Option Value → MH → Prop} {xp : String → MH → Prop} {len pc : Nat} {b : Nat × Nat} {L st : List Value} {h : MH} {K : KT} {u : Int32} {a : Nat} {r : List Value} : stepE x q 2 post xp (.putfield 15) len pc b L (.int u :: .ref a :: r) h K = (mK h a = 3 ∧ K (pc + len) b L r (sI h a 1 u)) := propext ⟨fun z => ⟨z.1, z.2.2.2⟩, fun z => ⟨z.1, (fun e => absurd e (by decide)), (fun e => by cases e), z.2⟩⟩
theorem gf2_18 {x : CX} {q : MS} {post : Option Value → MH → Prop} {xp : String → MH → Prop} {len pc : Nat} {b : Nat × Nat} {L st : List Value} {h : MH} {K : KT} : stepE x q 2 post xp (.getfield 18) len pc b L st h K = popR st fun a r => mK h a = 3 ∧ mP h a 2 ≠ 0 ∧ K (pc + len) b L (.ref (mP h a 2) :: r) h := id rfl
theorem pf2_18 {x : CX} {q : MS} {post : Option Value → MH → Prop} {xp : String → MH → Prop} {len pc : Nat} {b : Nat × Nat} {L st : List Value} {h : MH} {K : KT} {u a : Nat} {r : List Value} (hq : isIn q) : stepE x q 2 post xp (.putfield 18) len pc b L (.ref u :: .ref a :: r) h K = (mK h a = 3 ∧ u ≠ 0 ∧ K (pc + len) b L r (sP h a 2 u)) := propext ⟨fun z => ⟨z.1, z.2.2⟩, fun z => ⟨z.1, (fun _ => ⟨hq, rfl⟩), z.2⟩⟩
theorem gf2_22 {x : CX} {q : MS} {post : Option Value → MH → Prop} {xp : String → MH → Prop} {len pc : Nat} {b : Nat × Nat} {L st : List Value} {h : MH} {K : KT} : stepE x q 2 post xp (.getfield 22) len pc b L st h K = popR st fun a r => mK h a = 3 ∧ mP h a 3 ≠ 0 ∧ K (pc + len) b L (.ref (mP h a 3) :: r) h := id rfl
theorem pf2_22 {x : CX} {q : MS} {post : Option Value → MH → Prop} {xp : String → MH → Prop} {len pc : Nat} {b : Nat × Nat} {L st : List Value} {h : MH} {K : KT} {u a : Nat} {r : List Value} (hq : isIn q) : stepE x q 2 post xp (.putfield 22) len pc b L (.ref u :: .ref a :: r) h K = (mK h a = 3 ∧ u ≠ 0 ∧ K (pc + len) b L r (sP h a 3 u)) := propext ⟨fun z => ⟨z.1, z.2.2⟩, fun z => ⟨z.1, (fun _ => ⟨hq, rfl⟩), z.2⟩⟩
theorem gf2_25 {x : CX} {q : MS} {post : Option Value → MH → Prop} {xp : String → MH → Prop} {len pc : Nat} {b : Nat × Nat} {L st : List Value} {h : MH} {K : KT} : stepE x q 2 post xp (.getfield 25) len pc b L st h K = popR st fun a r => mK h a = 3 ∧ mP h a 4 ≠ 0 ∧ K (pc + len) b L (.ref (mP h a 4) :: r) h := id rfl
theorem pf2_25 {x : CX} {q : MS} {post : Option Value → MH → Prop} {xp : String → MH → Prop} {len pc : Nat} {b : Nat × Nat} {L st : List Value} {h : MH} {K : KT} {u a : Nat} {r : List Value} : stepE x q 2 post xp (.putfield 25) len pc b L (.ref u :: .ref a :: r) h K = (mK h a = 3 ∧ u ≠ 0 ∧ K (pc + len) b L r (sP h a 4 u)) := propext ⟨fun z => ⟨z.1, z.2.2⟩, fun z => ⟨z.1, (fun e => absurd e (by decide)), z.2⟩⟩
theorem gf2_28 {x : CX} {q : MS} {post : Option Value → MH → Prop} {xp : String → MH → Prop} {len pc : Nat} {b : Nat × Nat} {L st : List Value} {h : MH} {K : KT} : stepE x q 2 post xp (.getfield 28) len pc b L st h K = popR st fun a r => mK h a = 3 ∧ mP h a 5 ≠ 0 ∧ K (pc + len) b L (.ref (mP h a 5) :: r) h := id rfl
theorem pf2_28 {x : CX} {q : MS} {post : Option Value → MH → Prop} {xp : String → MH → Prop} {len pc : Nat} {b : Nat × Nat} {L st : List Value} {h : MH} {K : KT} {u a : Nat} {r : List Value} : stepE x q 2 post xp (.putfield 28) len pc b L (.ref u :: .ref a :: r) h K = (mK h a = 3 ∧ u ≠ 0 ∧ K (pc + len) b L r (sP h a 5 u)) := propext ⟨fun z => ⟨z.1, z.2.2⟩, fun z => ⟨z.1, (fun e => absurd e (by decide)), z.2⟩⟩
theorem gf2_31 {x : CX} {q : MS} {post : Option Value → MH → Prop} {xp : String → MH → Prop} {len pc : Nat} {b : Nat × Nat} {L st : List Value} {h : MH} {K : KT} : stepE x q 2 post xp (.getfield 31) len pc b L st h K = popR st fun a r => mK h a = 3 ∧ mP h a 6 ≠ 0 ∧ K (pc + len) b L (.ref (mP h a 6) :: r) h := id rfl
theorem pf2_31 {x : CX} {q : MS} {post : Option Value → MH → Prop} {xp : String → MH → Prop} {len pc : Nat} {b : Nat × Nat} {L st : List Value} {h : MH} {K : KT} {u a : Nat} {r : List Value} (hq : isIn q) : stepE x q 2 post xp (.putfield 31) len pc b L (.ref u :: .ref a :: r) h K = (mK h a = 3 ∧ u ≠ 0 ∧ K (pc + len) b L r (sP h a 6 u)) := propext ⟨fun z => ⟨z.1, z.2.2⟩, fun z => ⟨z.1, (fun _ => ⟨hq, rfl⟩), z.2⟩⟩
theorem gf2_34 {x : CX} {q : MS} {post : Option Value → MH → Prop} {xp : String → MH → Prop} {len pc : Nat} {b : Nat × Nat} {L st : List Value} {h : MH} {K : KT} : stepE x q 2 post xp (.getfield 34) len pc b L st h K = popR st fun a r => mK h a = 3 ∧ mP h a 7 ≠ 0 ∧ K (pc + len) b L (.ref (mP h a 7) :: r) h := id rfl
theorem pf2_34 {x : CX} {q : MS} {post : Option Value → MH → Prop} {xp : String → MH → Prop} {len pc : Nat} {b : Nat × Nat} {L st : List Value} {h : MH} {K : KT} {u a : Nat} {r : List Value} (hq : isIn q) : stepE x q 2 post xp (.putfield 34) len pc b L (.ref u :: .ref a :: r) h K = (mK h a = 3 ∧ u ≠ 0 ∧ K (pc + len) b L r (sP h a 7 u)) := propext ⟨fun z => ⟨z.1, z.2.2⟩, fun z => ⟨z.1, (fun _ => ⟨hq, rfl⟩), z.2⟩⟩
theorem iv2_43 {x : CX} {q : MS} {post : Option Value → MH → Prop} {xp : String → MH → Prop} {len pc : Nat} {b : Nat × Nat} {L st : List Value} {h : MH} {K : KT} {v0 v1 : Value} {r : List Value} : stepE x q 2 post xp (.invokestatic 43) len pc b L (v1 :: v0 :: r) h K = callE x q sX2_arc [v0, v1] r h xp b (fun b' st' h' => K (pc + len) b' L st' h') := propext ⟨fun z => z.2, fun z => ⟨rfl, z⟩⟩
theorem iv2_47 {x : CX} {q : MS} {post : Option Value → MH → Prop} {xp : String → MH → Prop} {len pc : Nat} {b : Nat × Nat} {L st : List Value} {h : MH} {K : KT} {v0 v1 : Value} {a : Nat} {r : List Value} : stepE x q 2 post xp (.invokevirtual 47) len pc b L (v1 :: v0 :: .ref a :: r) h K = (rcvE x h a 2 ∧ callE x q sX2_reasonAt [.ref a, v0, v1] r h xp b (fun b' st' h' => K (pc + len) b' L st' h')) := propext ⟨fun z => ⟨z.1, z.2.2⟩, fun z => ⟨z.1, in_X2_reasonAt, z.2⟩⟩
theorem iv2_50 {x : CX} {q : MS} {post : Option Value → MH → Prop} {xp : String → MH → Prop} {len pc : Nat} {b : Nat × Nat} {L st : List Value} {h : MH} {K : KT} {v0 : Value} {a : Nat} {r : List Value} : stepE x q 2 post xp (.invokevirtual 50) len pc b L (v0 :: .ref a :: r) h K = (rcvE x h a 2 ∧ callE x q sX2_reasonAgainst [.ref a, v0] r h xp b (fun b' st' h' => K (pc + len) b' L st' h')) := propext ⟨fun z => ⟨z.1, z.2.2⟩, fun z => ⟨z.1, in_X2_reasonAgainst, z.2⟩⟩
theorem iv2_54 {x : CX} {q : MS} {post : Option Value → MH → Prop} {xp : String → MH → Prop} {len pc : Nat} {b : Nat × Nat} {L st : List Value} {h : MH} {K : KT} {v0 : Value} {a : Nat} {r : List Value} : stepE x q 2 post xp (.invokevirtual 54) len pc b L (v0 :: .ref a :: r) h K = (rcvE x h a 2 ∧ callE x q sX2_allows [.ref a, v0] r h xp b (fun b' st' h' => K (pc + len) b' L st' h')) := propext ⟨fun z => ⟨z.1, z.2.2⟩, fun z => ⟨z.1, in_X2_allows, z.2⟩⟩
theorem iv2_58 {x : CX} {q : MS} {post : Option Value → MH → Prop} {xp : String → MH → Prop} {len pc : Nat} {b : Nat × Nat} {L st : List Value} {h : MH} {K : KT} {v0 v1 : Value} {a : Nat} {r : List Value} : stepE x q 2 post xp (.invokevirtual 58) len pc b L (v1 :: v0 :: .ref a :: r) h K = (rcvE x h a 2 ∧ callE x q sX2_change [.ref a, v0, v1] r h xp b (fun b' st' h' => K (pc + len) b' L st' h')) := propext ⟨fun z => ⟨z.1, z.2.2⟩, fun z => ⟨z.1, in_X2_change, z.2⟩⟩
theorem iv2_61 {x : CX} {q : MS} {post : Option Value → MH → Prop} {xp : String → MH → Prop} {len pc : Nat} {b : Nat × Nat} {L st : List Value} {h : MH} {K : KT} {a : Nat} {r : List Value} : stepE x q 2 post xp (.invokevirtual 61) len pc b L (.ref a :: r) h K = (rcvE x h a 2 ∧ callE x q sX2_nextToFire [.ref a] r h xp b (fun b' st' h' => K (pc + len) b' L st' h')) := propext ⟨fun z => ⟨z.1, z.2.2⟩, fun z => ⟨z.1, in_X2_nextToFire, z.2⟩⟩
theorem iv2_65 {x : CX} {q : MS} {post : Option Value → MH → Prop} {xp : String → MH → Prop} {len pc : Nat} {b : Nat × Nat} {L st : List Value} {h : MH} {K : KT} {v0 : Value} {a : Nat} {r : List Value} : stepE x q 2 post xp (.invokevirtual 65) len pc b L (v0 :: .ref a :: r) h K = (rcvE x h a 2 ∧ callE x q sX2_fireOnce [.ref a, v0] r h xp b (fun b' st' h' => K (pc + len) b' L st' h')) := propext ⟨fun z => ⟨z.1, z.2.2⟩, fun z => ⟨z.1, in_X2_fireOnce, z.2⟩⟩
theorem iv2_69 {x : CX} {q : MS} {post : Option Value → MH → Prop} {xp : String → MH → Prop} {len pc : Nat} {b : Nat × Nat} {L st : List Value} {h : MH} {K : KT} {v0 v1 : Value} {r : List Value} : stepE x q 2 post xp (.invokestatic 69) len pc b L (v1 :: v0 :: r) h K = callE x q sX2_unpackTokens [v0, v1] r h xp b (fun b' st' h' => K (pc + len) b' L st' h') := propext ⟨fun z => z.2, fun z => ⟨rfl, z⟩⟩
theorem gf3_9 {x : CX} {q : MS} {post : Option Value → MH → Prop} {xp : String → MH → Prop} {len pc : Nat} {b : Nat × Nat} {L st : List Value} {h : MH} {K : KT} : stepE x q 3 post xp (.getfield 9) len pc b L st h K = popR st fun a r => mK h a = 4 ∧ mP h a 0 ≠ 0 ∧ K (pc + len) b L (.ref (mP h a 0) :: r) h := id rfl
theorem pf3_9 {x : CX} {q : MS} {post : Option Value → MH → Prop} {xp : String → MH → Prop} {len pc : Nat} {b : Nat × Nat} {L st : List Value} {h : MH} {K : KT} {u a : Nat} {r : List Value} (hq : isIn q) : stepE x q 3 post xp (.putfield 9) len pc b L (.ref u :: .ref a :: r) h K = (mK h a = 4 ∧ u ≠ 0 ∧ K (pc + len) b L r (sP h a 0 u)) := propext ⟨fun z => ⟨z.1, z.2.2⟩, fun z => ⟨z.1, (fun _ => ⟨hq, rfl⟩), z.2⟩⟩
theorem gf3_15 {x : CX} {q : MS} {post : Option Value → MH → Prop} {xp : String → MH → Prop} {len pc : Nat} {b : Nat × Nat} {L st : List Value} {h : MH} {K : KT} : stepE x q 3 post xp (.getfield 15) len pc b L st h K = popR st fun a r => mK h a = 4 ∧ K (pc + len) b L (.int (mI h a 1) :: r) h := id rfl
theorem pf3_15 {x : CX} {q : MS} {post : Option Value → MH → Prop} {xp : String → MH → Prop} {len pc : Nat} {b : Nat × Nat} {L st : List Value} {h : MH} {K : KT} {u : Int32} {a : Nat} {r : List Value} : stepE x q 3 post xp (.putfield 15) len pc b L (.int u :: .ref a :: r) h K = (mK h a = 4 ∧ K (pc + len) b L r (sI h a 1 u)) := propext ⟨fun z => ⟨z.1, z.2.2.2⟩, fun z => ⟨z.1, (fun e => absurd e (by decide)), (fun e => by cases e), z.2⟩⟩
theorem gf3_22 {x : CX} {q : MS} {post : Option Value → MH → Prop} {xp : String → MH → Prop} {len pc : Nat} {b : Nat × Nat} {L st : List Value} {h : MH} {K : KT} : stepE x q 3 post xp (.getfield 22) len pc b L st h K = popR st fun a r => mK h a = 4 ∧ mP h a 2 ≠ 0 ∧ K (pc + len) b L (.ref (mP h a 2) :: r) h := id rfl
theorem pf3_22 {x : CX} {q : MS} {post : Option Value → MH → Prop} {xp : String → MH → Prop} {len pc : Nat} {b : Nat × Nat} {L st : List Value} {h : MH} {K : KT} {u a : Nat} {r : List Value} (hq : isIn q) : stepE x q 3 post xp (.putfield 22) len pc b L (.ref u :: .ref a :: r) h K = (mK h a = 4 ∧ u ≠ 0 ∧ K (pc + len) b L r (sP h a 2 u)) := propext ⟨fun z => ⟨z.1, z.2.2⟩, fun z => ⟨z.1, (fun _ => ⟨hq, rfl⟩), z.2⟩⟩
theorem gf3_26 {x : CX} {q : MS} {post : Option Value → MH → Prop} {xp : String → MH → Prop} {len pc : Nat} {b : Nat × Nat} {L st : List Value} {h : MH} {K : KT} : stepE x q 3 post xp (.getfield 26) len pc b L st h K = popR st fun a r => mK h a = 4 ∧ K (pc + len) b L (.int (mI h a 3) :: r) h := id rfl
theorem pf3_26 {x : CX} {q : MS} {post : Option Value → MH → Prop} {xp : String → MH → Prop} {len pc : Nat} {b : Nat × Nat} {L st : List Value} {h : MH} {K : KT} {u : Int32} {a : Nat} {r : List Value} : stepE x q 3 post xp (.putfield 26) len pc b L (.int u :: .ref a :: r) h K = (mK h a = 4 ∧ K (pc + len) b L r (sI h a 3 u)) := propext ⟨fun z => ⟨z.1, z.2.2.2⟩, fun z => ⟨z.1, (fun e => absurd e (by decide)), (fun e => by cases e), z.2⟩⟩
theorem gf3_29 {x : CX} {q : MS} {post : Option Value → MH → Prop} {xp : String → MH → Prop} {len pc : Nat} {b : Nat × Nat} {L st : List Value} {h : MH} {K : KT} : stepE x q 3 post xp (.getfield 29) len pc b L st h K = popR st fun a r => mK h a = 4 ∧ K (pc + len) b L (.int (mI h a 4) :: r) h := id rfl
theorem pf3_29 {x : CX} {q : MS} {post : Option Value → MH → Prop} {xp : String → MH → Prop} {len pc : Nat} {b : Nat × Nat} {L st : List Value} {h : MH} {K : KT} {u : Int32} {a : Nat} {r : List Value} : stepE x q 3 post xp (.putfield 29) len pc b L (.int u :: .ref a :: r) h K = (mK h a = 4 ∧ K (pc + len) b L r (sI h a 4 u)) := propext ⟨fun z => ⟨z.1, z.2.2.2⟩, fun z => ⟨z.1, (fun e => absurd e (by decide)), (fun e => by cases e), z.2⟩⟩
theorem gf3_32 {x : CX} {q : MS} {post : Option Value → MH → Prop} {xp : String → MH → Prop} {len pc : Nat} {b : Nat × Nat} {L st : List Value} {h : MH} {K : KT} : stepE x q 3 post xp (.getfield 32) len pc b L st h K = popR st fun a r => mK h a = 4 ∧ K (pc + len) b L (.int (mI h a 5) :: r) h := id rfl
theorem pf3_32 {x : CX} {q : MS} {post : Option Value → MH → Prop} {xp : String → MH → Prop} {len pc : Nat} {b : Nat × Nat} {L st : List Value} {h : MH} {K : KT} {u : Int32} {a : Nat} {r : List Value} : stepE x q 3 post xp (.putfield 32) len pc b L (.int u :: .ref a :: r) h K = (mK h a = 4 ∧ K (pc + len) b L r (sI h a 5 u)) := propext ⟨fun z => ⟨z.1, z.2.2.2⟩, fun z => ⟨z.1, (fun e => absurd e (by decide)), (fun e => by cases e), z.2⟩⟩
theorem gf3_35 {x : CX} {q : MS} {post : Option Value → MH → Prop} {xp : String → MH → Prop} {len pc : Nat} {b : Nat × Nat} {L st : List Value} {h : MH} {K : KT} : stepE x q 3 post xp (.getfield 35) len pc b L st h K = popR st fun a r => mK h a = 4 ∧ K (pc + len) b L (.int (mI h a 6) :: r) h := id rfl
theorem pf3_35 {x : CX} {q : MS} {post : Option Value → MH → Prop} {xp : String → MH → Prop} {len pc : Nat} {b : Nat × Nat} {L st : List Value} {h : MH} {K : KT} {u : Int32} {a : Nat} {r : List Value} : stepE x q 3 post xp (.putfield 35) len pc b L (.int u :: .ref a :: r) h K = (mK h a = 4 ∧ K (pc + len) b L r (sI h a 6 u)) := propext ⟨fun z => ⟨z.1, z.2.2.2⟩, fun z => ⟨z.1, (fun e => absurd e (by decide)), (fun e => by cases e), z.2⟩⟩
theorem gf3_38 {x : CX} {q : MS} {post : Option Value → MH → Prop} {xp : String → MH → Prop} {len pc : Nat} {b : Nat × Nat} {L st : List Value} {h : MH} {K : KT} : stepE x q 3 post xp (.getfield 38) len pc b L st h K = popR st fun a r => mK h a = 4 ∧ K (pc + len) b L (.int (mI h a 7) :: r) h := id rfl
theorem pf3_38 {x : CX} {q : MS} {post : Option Value → MH → Prop} {xp : String → MH → Prop} {len pc : Nat} {b : Nat × Nat} {L st : List Value} {h : MH} {K : KT} {u : Int32} {a : Nat} {r : List Value} : stepE x q 3 post xp (.putfield 38) len pc b L (.int u :: .ref a :: r) h K = (mK h a = 4 ∧ K (pc + len) b L r (sI h a 7 u)) := propext ⟨fun z => ⟨z.1, z.2.2.2⟩, fun z => ⟨z.1, (fun e => absurd e (by decide)), (fun e => by cases e), z.2⟩⟩
theorem gf3_81 {x : CX} {q : MS} {post : Option Value → MH → Prop} {xp : String → MH → Prop} {len pc : Nat} {b : Nat × Nat} {L st : List Value} {h : MH} {K : KT} : stepE x q 3 post xp (.getfield 81) len pc b L st h K = popR st fun a r => mK h a = 3 ∧ mP h a 4 ≠ 0 ∧ K (pc + len) b L (.ref (mP h a 4) :: r) h := id rfl
theorem pf3_81 {x : CX} {q : MS} {post : Option Value → MH → Prop} {xp : String → MH → Prop} {len pc : Nat} {b : Nat × Nat} {L st : List Value} {h : MH} {K : KT} {u a : Nat} {r : List Value} : stepE x q 3 post xp (.putfield 81) len pc b L (.ref u :: .ref a :: r) h K = (mK h a = 3 ∧ u ≠ 0 ∧ K (pc + len) b L r (sP h a 4 u)) := propext ⟨fun z => ⟨z.1, z.2.2⟩, fun z => ⟨z.1, (fun e => absurd e (by decide)), z.2⟩⟩
theorem gf3_89 {x : CX} {q : MS} {post : Option Value → MH → Prop} {xp : String → MH → Prop} {len pc : Nat} {b : Nat × Nat} {L st : List Value} {h : MH} {K : KT} : stepE x q 3 post xp (.getfield 89) len pc b L st h K = popR st fun a r => mK h a = 3 ∧ mP h a 5 ≠ 0 ∧ K (pc + len) b L (.ref (mP h a 5) :: r) h := id rfl
theorem pf3_89 {x : CX} {q : MS} {post : Option Value → MH → Prop} {xp : String → MH → Prop} {len pc : Nat} {b : Nat × Nat} {L st : List Value} {h : MH} {K : KT} {u a : Nat} {r : List Value} : stepE x q 3 post xp (.putfield 89) len pc b L (.ref u :: .ref a :: r) h K = (mK h a = 3 ∧ u ≠ 0 ∧ K (pc + len) b L r (sP h a 5 u)) := propext ⟨fun z => ⟨z.1, z.2.2⟩, fun z => ⟨z.1, (fun e => absurd e (by decide)), z.2⟩⟩
theorem gf3_95 {x : CX} {q : MS} {post : Option Value → MH → Prop} {xp : String → MH → Prop} {len pc : Nat} {b : Nat × Nat} {L st : List Value} {h : MH} {K : KT} : stepE x q 3 post xp (.getfield 95) len pc b L st h K = popR st fun a r => mK h a = 3 ∧ mP h a 6 ≠ 0 ∧ K (pc + len) b L (.ref (mP h a 6) :: r) h := id rfl
theorem gf3_119 {x : CX} {q : MS} {post : Option Value → MH → Prop} {xp : String → MH → Prop} {len pc : Nat} {b : Nat × Nat} {L st : List Value} {h : MH} {K : KT} : stepE x q 3 post xp (.getfield 119) len pc b L st h K = popR st fun a r => mK h a = 3 ∧ K (pc + len) b L (.int (mI h a 0) :: r) h := id rfl
theorem pf3_119 {x : CX} {q : MS} {post : Option Value → MH → Prop} {xp : String → MH → Prop} {len pc : Nat} {b : Nat × Nat} {L st : List Value} {h : MH} {K : KT} {u : Int32} {a : Nat} {r : List Value} : stepE x q 3 post xp (.putfield 119) len pc b L (.int u :: .ref a :: r) h K = (mK h a = 3 ∧ K (pc + len) b L r (sI h a 0 u)) := propext ⟨fun z => ⟨z.1, z.2.2.2⟩, fun z => ⟨z.1, (fun e => absurd e (by decide)), (fun e => by cases e), z.2⟩⟩
theorem gf3_122 {x : CX} {q : MS} {post : Option Value → MH → Prop} {xp : String → MH → Prop} {len pc : Nat} {b : Nat × Nat} {L st : List Value} {h : MH} {K : KT} : stepE x q 3 post xp (.getfield 122) len pc b L st h K = popR st fun a r => mK h a = 3 ∧ mP h a 3 ≠ 0 ∧ K (pc + len) b L (.ref (mP h a 3) :: r) h := id rfl
theorem gf3_125 {x : CX} {q : MS} {post : Option Value → MH → Prop} {xp : String → MH → Prop} {len pc : Nat} {b : Nat × Nat} {L st : List Value} {h : MH} {K : KT} : stepE x q 3 post xp (.getfield 125) len pc b L st h K = popR st fun a r => mK h a = 3 ∧ mP h a 2 ≠ 0 ∧ K (pc + len) b L (.ref (mP h a 2) :: r) h := id rfl
theorem gf3_133 {x : CX} {q : MS} {post : Option Value → MH → Prop} {xp : String → MH → Prop} {len pc : Nat} {b : Nat × Nat} {L st : List Value} {h : MH} {K : KT} : stepE x q 3 post xp (.getfield 133) len pc b L st h K = popR st fun a r => mK h a = 3 ∧ K (pc + len) b L (.int (mI h a 1) :: r) h := id rfl
theorem pf3_133 {x : CX} {q : MS} {post : Option Value → MH → Prop} {xp : String → MH → Prop} {len pc : Nat} {b : Nat × Nat} {L st : List Value} {h : MH} {K : KT} {u : Int32} {a : Nat} {r : List Value} : stepE x q 3 post xp (.putfield 133) len pc b L (.int u :: .ref a :: r) h K = (mK h a = 3 ∧ K (pc + len) b L r (sI h a 1 u)) := propext ⟨fun z => ⟨z.1, z.2.2.2⟩, fun z => ⟨z.1, (fun e => absurd e (by decide)), (fun e => by cases e), z.2⟩⟩
theorem iv3_21 {x : CX} {q : MS} {post : Option Value → MH → Prop} {xp : String → MH → Prop} {len pc : Nat} {b : Nat × Nat} {L st : List Value} {h : MH} {K : KT} {a : Nat} {r : List Value} : stepE x q 3 post xp (.invokespecial 21) len pc b L (.ref a :: r) h K = callE x q sX2_init [.ref a] r h xp b (fun b' st' h' => K (pc + len) b' L st' h') := propext ⟨fun z => z.2.2.2, fun z => ⟨rfl, rfl, by decide, z⟩⟩
theorem iv3_41 {x : CX} {q : MS} {post : Option Value → MH → Prop} {xp : String → MH → Prop} {len pc : Nat} {b : Nat × Nat} {L st : List Value} {h : MH} {K : KT} {a : Nat} {r : List Value} : stepE x q 3 post xp (.invokevirtual 41) len pc b L (.ref a :: r) h K = (rcvE x h a 3 ∧ callE x q sX3_readToken [.ref a] r h xp b (fun b' st' h' => K (pc + len) b' L st' h')) := propext ⟨fun z => ⟨z.1, z.2.2⟩, fun z => ⟨z.1, in_X3_readToken, z.2⟩⟩
theorem iv3_44 {x : CX} {q : MS} {post : Option Value → MH → Prop} {xp : String → MH → Prop} {len pc : Nat} {b : Nat × Nat} {L st : List Value} {h : MH} {K : KT} {a : Nat} {r : List Value} : stepE x q 3 post xp (.invokevirtual 44) len pc b L (.ref a :: r) h K = (rcvE x h a 3 ∧ callE x q sX3_readHeader [.ref a] r h xp b (fun b' st' h' => K (pc + len) b' L st' h')) := propext ⟨fun z => ⟨z.1, z.2.2⟩, fun z => ⟨z.1, in_X3_readHeader, z.2⟩⟩
theorem iv3_48 {x : CX} {q : MS} {post : Option Value → MH → Prop} {xp : String → MH → Prop} {len pc : Nat} {b : Nat × Nat} {L st : List Value} {h : MH} {K : KT} {a : Nat} {r : List Value} : stepE x q 3 post xp (.invokevirtual 48) len pc b L (.ref a :: r) h K = (rcvE x h a 3 ∧ callE x q sX3_readSemicolon [.ref a] r h xp b (fun b' st' h' => K (pc + len) b' L st' h')) := propext ⟨fun z => ⟨z.1, z.2.2⟩, fun z => ⟨z.1, in_X3_readSemicolon, z.2⟩⟩
theorem iv3_51 {x : CX} {q : MS} {post : Option Value → MH → Prop} {xp : String → MH → Prop} {len pc : Nat} {b : Nat × Nat} {L st : List Value} {h : MH} {K : KT} {a : Nat} {r : List Value} : stepE x q 3 post xp (.invokevirtual 51) len pc b L (.ref a :: r) h K = (rcvE x h a 3 ∧ callE x q sX3_readCommand [.ref a] r h xp b (fun b' st' h' => K (pc + len) b' L st' h')) := propext ⟨fun z => ⟨z.1, z.2.2⟩, fun z => ⟨z.1, in_X3_readCommand, z.2⟩⟩
theorem iv3_55 {x : CX} {q : MS} {post : Option Value → MH → Prop} {xp : String → MH → Prop} {len pc : Nat} {b : Nat × Nat} {L st : List Value} {h : MH} {K : KT} {v0 : Value} {a : Nat} {r : List Value} : stepE x q 3 post xp (.invokevirtual 55) len pc b L (v0 :: .ref a :: r) h K = (rcvE x h a 3 ∧ callE x q sX3_isWord [.ref a, v0] r h xp b (fun b' st' h' => K (pc + len) b' L st' h')) := propext ⟨fun z => ⟨z.1, z.2.2⟩, fun z => ⟨z.1, in_X3_isWord, z.2⟩⟩
theorem iv3_59 {x : CX} {q : MS} {post : Option Value → MH → Prop} {xp : String → MH → Prop} {len pc : Nat} {b : Nat × Nat} {L st : List Value} {h : MH} {K : KT} {v0 : Value} {a : Nat} {r : List Value} : stepE x q 3 post xp (.invokevirtual 59) len pc b L (v0 :: .ref a :: r) h K = (rcvE x h a 3 ∧ callE x q sX3_fail [.ref a, v0] r h xp b (fun b' st' h' => K (pc + len) b' L st' h')) := propext ⟨fun z => ⟨z.1, z.2.2⟩, fun z => ⟨z.1, in_X3_fail, z.2⟩⟩
theorem iv3_63 {x : CX} {q : MS} {post : Option Value → MH → Prop} {xp : String → MH → Prop} {len pc : Nat} {b : Nat × Nat} {L st : List Value} {h : MH} {K : KT} {v0 v1 : Value} {a : Nat} {r : List Value} : stepE x q 3 post xp (.invokevirtual 63) len pc b L (v1 :: v0 :: .ref a :: r) h K = (rcvE x h a 3 ∧ callE x q sX3_readNumber [.ref a, v0, v1] r h xp b (fun b' st' h' => K (pc + len) b' L st' h')) := propext ⟨fun z => ⟨z.1, z.2.2⟩, fun z => ⟨z.1, in_X3_readNumber, z.2⟩⟩
theorem iv3_67 {x : CX} {q : MS} {post : Option Value → MH → Prop} {xp : String → MH → Prop} {len pc : Nat} {b : Nat × Nat} {L st : List Value} {h : MH} {K : KT} {v0 v1 : Value} {a : Nat} {r : List Value} : stepE x q 3 post xp (.invokevirtual 67) len pc b L (v1 :: v0 :: .ref a :: r) h K = (rcvE x h a 2 ∧ callE x q sX2_clear [.ref a, v0, v1] r h xp b (fun b' st' h' => K (pc + len) b' L st' h')) := propext ⟨fun z => ⟨z.1, z.2.2⟩, fun z => ⟨z.1, in_X2_clear, z.2⟩⟩
theorem iv3_71 {x : CX} {q : MS} {post : Option Value → MH → Prop} {xp : String → MH → Prop} {len pc : Nat} {b : Nat × Nat} {L st : List Value} {h : MH} {K : KT} {a : Nat} {r : List Value} : stepE x q 3 post xp (.invokevirtual 71) len pc b L (.ref a :: r) h K = (rcvE x h a 3 ∧ callE x q sX3_commandOfToken [.ref a] r h xp b (fun b' st' h' => K (pc + len) b' L st' h')) := propext ⟨fun z => ⟨z.1, z.2.2⟩, fun z => ⟨z.1, in_X3_commandOfToken, z.2⟩⟩
theorem iv3_75 {x : CX} {q : MS} {post : Option Value → MH → Prop} {xp : String → MH → Prop} {len pc : Nat} {b : Nat × Nat} {L st : List Value} {h : MH} {K : KT} {a : Nat} {r : List Value} : stepE x q 3 post xp (.invokevirtual 75) len pc b L (.ref a :: r) h K = (rcvE x h a 3 ∧ callE x q sX3_readTokens [.ref a] r h xp b (fun b' st' h' => K (pc + len) b' L st' h')) := propext ⟨fun z => ⟨z.1, z.2.2⟩, fun z => ⟨z.1, in_X3_readTokens, z.2⟩⟩
theorem iv3_78 {x : CX} {q : MS} {post : Option Value → MH → Prop} {xp : String → MH → Prop} {len pc : Nat} {b : Nat × Nat} {L st : List Value} {h : MH} {K : KT} {a : Nat} {r : List Value} : stepE x q 3 post xp (.invokevirtual 78) len pc b L (.ref a :: r) h K = (rcvE x h a 3 ∧ callE x q sX3_readCapacity [.ref a] r h xp b (fun b' st' h' => K (pc + len) b' L st' h')) := propext ⟨fun z => ⟨z.1, z.2.2⟩, fun z => ⟨z.1, in_X3_readCapacity, z.2⟩⟩
theorem iv3_85 {x : CX} {q : MS} {post : Option Value → MH → Prop} {xp : String → MH → Prop} {len pc : Nat} {b : Nat × Nat} {L st : List Value} {h : MH} {K : KT} {v0 : Value} {a : Nat} {r : List Value} : stepE x q 3 post xp (.invokevirtual 85) len pc b L (v0 :: .ref a :: r) h K = (rcvE x h a 3 ∧ callE x q sX3_readArcFromPlace [.ref a, v0] r h xp b (fun b' st' h' => K (pc + len) b' L st' h')) := propext ⟨fun z => ⟨z.1, z.2.2⟩, fun z => ⟨z.1, in_X3_readArcFromPlace, z.2⟩⟩
theorem iv3_92 {x : CX} {q : MS} {post : Option Value → MH → Prop} {xp : String → MH → Prop} {len pc : Nat} {b : Nat × Nat} {L st : List Value} {h : MH} {K : KT} {v0 : Value} {a : Nat} {r : List Value} : stepE x q 3 post xp (.invokevirtual 92) len pc b L (v0 :: .ref a :: r) h K = (rcvE x h a 3 ∧ callE x q sX3_readArcFromTransition [.ref a, v0] r h xp b (fun b' st' h' => K (pc + len) b' L st' h')) := propext ⟨fun z => ⟨z.1, z.2.2⟩, fun z => ⟨z.1, in_X3_readArcFromTransition, z.2⟩⟩
theorem iv3_98 {x : CX} {q : MS} {post : Option Value → MH → Prop} {xp : String → MH → Prop} {len pc : Nat} {b : Nat × Nat} {L st : List Value} {h : MH} {K : KT} {a : Nat} {r : List Value} : stepE x q 3 post xp (.invokevirtual 98) len pc b L (.ref a :: r) h K = (rcvE x h a 3 ∧ callE x q sX3_readFire [.ref a] r h xp b (fun b' st' h' => K (pc + len) b' L st' h')) := propext ⟨fun z => ⟨z.1, z.2.2⟩, fun z => ⟨z.1, in_X3_readFire, z.2⟩⟩
theorem iv3_101 {x : CX} {q : MS} {post : Option Value → MH → Prop} {xp : String → MH → Prop} {len pc : Nat} {b : Nat × Nat} {L st : List Value} {h : MH} {K : KT} {v0 : Value} {a : Nat} {r : List Value} : stepE x q 3 post xp (.invokevirtual 101) len pc b L (v0 :: .ref a :: r) h K = (rcvE x h a 2 ∧ callE x q sX2_advance [.ref a, v0] r h xp b (fun b' st' h' => K (pc + len) b' L st' h')) := propext ⟨fun z => ⟨z.1, z.2.2⟩, fun z => ⟨z.1, in_X2_advance, z.2⟩⟩
theorem iv3_136 {x : CX} {q : MS} {post : Option Value → MH → Prop} {xp : String → MH → Prop} {len pc : Nat} {b : Nat × Nat} {L st : List Value} {h : MH} {K : KT} {v0 v1 : Value} {r : List Value} : stepE x q 3 post xp (.invokestatic 136) len pc b L (v1 :: v0 :: r) h K = callE x q sX2_arc [v0, v1] r h xp b (fun b' st' h' => K (pc + len) b' L st' h') := propext ⟨fun z => z.2, fun z => ⟨rfl, z⟩⟩
theorem iv3_139 {x : CX} {q : MS} {post : Option Value → MH → Prop} {xp : String → MH → Prop} {len pc : Nat} {b : Nat × Nat} {L st : List Value} {h : MH} {K : KT} {v0 : Value} {a : Nat} {r : List Value} : stepE x q 3 post xp (.invokevirtual 139) len pc b L (v0 :: .ref a :: r) h K = (rcvE x h a 2 ∧ callE x q sX2_allows [.ref a, v0] r h xp b (fun b' st' h' => K (pc + len) b' L st' h')) := propext ⟨fun z => ⟨z.1, z.2.2⟩, fun z => ⟨z.1, in_X2_allows, z.2⟩⟩
theorem iv3_142 {x : CX} {q : MS} {post : Option Value → MH → Prop} {xp : String → MH → Prop} {len pc : Nat} {b : Nat × Nat} {L st : List Value} {h : MH} {K : KT} {v0 : Value} {a : Nat} {r : List Value} : stepE x q 3 post xp (.invokevirtual 142) len pc b L (v0 :: .ref a :: r) h K = (rcvE x h a 2 ∧ callE x q sX2_fireOnce [.ref a, v0] r h xp b (fun b' st' h' => K (pc + len) b' L st' h')) := propext ⟨fun z => ⟨z.1, z.2.2⟩, fun z => ⟨z.1, in_X2_fireOnce, z.2⟩⟩
theorem iv3_146 {x : CX} {q : MS} {post : Option Value → MH → Prop} {xp : String → MH → Prop} {len pc : Nat} {b : Nat × Nat} {L st : List Value} {h : MH} {K : KT} {a : Nat} {r : List Value} : stepE x q 3 post xp (.invokevirtual 146) len pc b L (.ref a :: r) h K = (rcvE x h a 8 ∧ callE x q sJ0_length_8abf5 [.ref a] r h xp b (fun b' st' h' => K (pc + len) b' L st' h')) := propext ⟨fun z => ⟨z.1, z.2.2⟩, fun z => ⟨z.1, in_J0_length_8abf5, z.2⟩⟩
theorem iv3_150 {x : CX} {q : MS} {post : Option Value → MH → Prop} {xp : String → MH → Prop} {len pc : Nat} {b : Nat × Nat} {L st : List Value} {h : MH} {K : KT} {v0 : Value} {a : Nat} {r : List Value} : stepE x q 3 post xp (.invokevirtual 150) len pc b L (v0 :: .ref a :: r) h K = (rcvE x h a 8 ∧ callE x q sJ0_charAt_5068e [.ref a, v0] r h xp b (fun b' st' h' => K (pc + len) b' L st' h')) := propext ⟨fun z => ⟨z.1, z.2.2⟩, fun z => ⟨z.1, in_J0_charAt_5068e, z.2⟩⟩
theorem iv3_154 {x : CX} {q : MS} {post : Option Value → MH → Prop} {xp : String → MH → Prop} {len pc : Nat} {b : Nat × Nat} {L st : List Value} {h : MH} {K : KT} {v0 : Value} {r : List Value} : stepE x q 3 post xp (.invokestatic 154) len pc b L (v0 :: r) h K = callE x q sX3_isLetter [v0] r h xp b (fun b' st' h' => K (pc + len) b' L st' h') := propext ⟨fun z => z.2, fun z => ⟨rfl, z⟩⟩
theorem iv3_157 {x : CX} {q : MS} {post : Option Value → MH → Prop} {xp : String → MH → Prop} {len pc : Nat} {b : Nat × Nat} {L st : List Value} {h : MH} {K : KT} {v0 : Value} {r : List Value} : stepE x q 3 post xp (.invokestatic 157) len pc b L (v0 :: r) h K = callE x q sX3_isDigit [v0] r h xp b (fun b' st' h' => K (pc + len) b' L st' h') := propext ⟨fun z => z.2, fun z => ⟨rfl, z⟩⟩
theorem gf4_13 {x : CX} {q : MS} {post : Option Value → MH → Prop} {xp : String → MH → Prop} {len pc : Nat} {b : Nat × Nat} {L st : List Value} {h : MH} {K : KT} : stepE x q 4 post xp (.getfield 13) len pc b L st h K = popR st fun a r => mK h a = 5 ∧ mP h a 0 ≠ 0 ∧ K (pc + len) b L (.ref (mP h a 0) :: r) h := id rfl
theorem pf4_13 {x : CX} {q : MS} {post : Option Value → MH → Prop} {xp : String → MH → Prop} {len pc : Nat} {b : Nat × Nat} {L st : List Value} {h : MH} {K : KT} {u a : Nat} {r : List Value} (hq : isIn q) : stepE x q 4 post xp (.putfield 13) len pc b L (.ref u :: .ref a :: r) h K = (mK h a = 5 ∧ u ≠ 0 ∧ K (pc + len) b L r (sP h a 0 u)) := propext ⟨fun z => ⟨z.1, z.2.2⟩, fun z => ⟨z.1, (fun _ => ⟨hq, rfl⟩), z.2⟩⟩
theorem gf4_20 {x : CX} {q : MS} {post : Option Value → MH → Prop} {xp : String → MH → Prop} {len pc : Nat} {b : Nat × Nat} {L st : List Value} {h : MH} {K : KT} : stepE x q 4 post xp (.getfield 20) len pc b L st h K = popR st fun a r => mK h a = 5 ∧ mP h a 1 ≠ 0 ∧ K (pc + len) b L (.ref (mP h a 1) :: r) h := id rfl
theorem pf4_20 {x : CX} {q : MS} {post : Option Value → MH → Prop} {xp : String → MH → Prop} {len pc : Nat} {b : Nat × Nat} {L st : List Value} {h : MH} {K : KT} {u a : Nat} {r : List Value} (hq : isIn q) : stepE x q 4 post xp (.putfield 20) len pc b L (.ref u :: .ref a :: r) h K = (mK h a = 5 ∧ u ≠ 0 ∧ K (pc + len) b L r (sP h a 1 u)) := propext ⟨fun z => ⟨z.1, z.2.2⟩, fun z => ⟨z.1, (fun _ => ⟨hq, rfl⟩), z.2⟩⟩
theorem gf4_23 {x : CX} {q : MS} {post : Option Value → MH → Prop} {xp : String → MH → Prop} {len pc : Nat} {b : Nat × Nat} {L st : List Value} {h : MH} {K : KT} : stepE x q 4 post xp (.getfield 23) len pc b L st h K = popR st fun a r => mK h a = 5 ∧ mP h a 2 ≠ 0 ∧ K (pc + len) b L (.ref (mP h a 2) :: r) h := id rfl
theorem pf4_23 {x : CX} {q : MS} {post : Option Value → MH → Prop} {xp : String → MH → Prop} {len pc : Nat} {b : Nat × Nat} {L st : List Value} {h : MH} {K : KT} {u a : Nat} {r : List Value} (hq : isIn q) : stepE x q 4 post xp (.putfield 23) len pc b L (.ref u :: .ref a :: r) h K = (mK h a = 5 ∧ u ≠ 0 ∧ K (pc + len) b L r (sP h a 2 u)) := propext ⟨fun z => ⟨z.1, z.2.2⟩, fun z => ⟨z.1, (fun _ => ⟨hq, rfl⟩), z.2⟩⟩
theorem gf4_26 {x : CX} {q : MS} {post : Option Value → MH → Prop} {xp : String → MH → Prop} {len pc : Nat} {b : Nat × Nat} {L st : List Value} {h : MH} {K : KT} : stepE x q 4 post xp (.getfield 26) len pc b L st h K = popR st fun a r => mK h a = 5 ∧ K (pc + len) b L (.int (mI h a 3) :: r) h := id rfl
theorem pf4_26 {x : CX} {q : MS} {post : Option Value → MH → Prop} {xp : String → MH → Prop} {len pc : Nat} {b : Nat × Nat} {L st : List Value} {h : MH} {K : KT} {u : Int32} {a : Nat} {r : List Value} : stepE x q 4 post xp (.putfield 26) len pc b L (.int u :: .ref a :: r) h K = (mK h a = 5 ∧ (u = 0 ∨ u = 1) ∧ K (pc + len) b L r (sI h a 3 u)) := propext ⟨fun z => ⟨z.1, z.2.2.1 rfl, z.2.2.2⟩, fun z => ⟨z.1, (fun e => absurd e (by decide)), fun _ => z.2.1, z.2.2⟩⟩
theorem gf4_33 {x : CX} {q : MS} {post : Option Value → MH → Prop} {xp : String → MH → Prop} {len pc : Nat} {b : Nat × Nat} {L st : List Value} {h : MH} {K : KT} : stepE x q 4 post xp (.getfield 33) len pc b L st h K = popR st fun a r => mK h a = 5 ∧ mP h a 4 ≠ 0 ∧ K (pc + len) b L (.ref (mP h a 4) :: r) h := id rfl
theorem pf4_33 {x : CX} {q : MS} {post : Option Value → MH → Prop} {xp : String → MH → Prop} {len pc : Nat} {b : Nat × Nat} {L st : List Value} {h : MH} {K : KT} {u a : Nat} {r : List Value} (hq : isIn q) : stepE x q 4 post xp (.putfield 33) len pc b L (.ref u :: .ref a :: r) h K = (mK h a = 5 ∧ u ≠ 0 ∧ K (pc + len) b L r (sP h a 4 u)) := propext ⟨fun z => ⟨z.1, z.2.2⟩, fun z => ⟨z.1, (fun _ => ⟨hq, rfl⟩), z.2⟩⟩
theorem gf4_40 {x : CX} {q : MS} {post : Option Value → MH → Prop} {xp : String → MH → Prop} {len pc : Nat} {b : Nat × Nat} {L st : List Value} {h : MH} {K : KT} : stepE x q 4 post xp (.getfield 40) len pc b L st h K = popR st fun a r => mK h a = 5 ∧ mP h a 5 ≠ 0 ∧ K (pc + len) b L (.ref (mP h a 5) :: r) h := id rfl
theorem pf4_40 {x : CX} {q : MS} {post : Option Value → MH → Prop} {xp : String → MH → Prop} {len pc : Nat} {b : Nat × Nat} {L st : List Value} {h : MH} {K : KT} {u a : Nat} {r : List Value} (hq : isIn q) : stepE x q 4 post xp (.putfield 40) len pc b L (.ref u :: .ref a :: r) h K = (mK h a = 5 ∧ u ≠ 0 ∧ K (pc + len) b L r (sP h a 5 u)) := propext ⟨fun z => ⟨z.1, z.2.2⟩, fun z => ⟨z.1, (fun _ => ⟨hq, rfl⟩), z.2⟩⟩
theorem gf4_47 {x : CX} {q : MS} {post : Option Value → MH → Prop} {xp : String → MH → Prop} {len pc : Nat} {b : Nat × Nat} {L st : List Value} {h : MH} {K : KT} : stepE x q 4 post xp (.getfield 47) len pc b L st h K = popR st fun a r => mK h a = 5 ∧ mP h a 6 ≠ 0 ∧ K (pc + len) b L (.ref (mP h a 6) :: r) h := id rfl
theorem pf4_47 {x : CX} {q : MS} {post : Option Value → MH → Prop} {xp : String → MH → Prop} {len pc : Nat} {b : Nat × Nat} {L st : List Value} {h : MH} {K : KT} {u a : Nat} {r : List Value} (hq : isIn q) : stepE x q 4 post xp (.putfield 47) len pc b L (.ref u :: .ref a :: r) h K = (mK h a = 5 ∧ u ≠ 0 ∧ K (pc + len) b L r (sP h a 6 u)) := propext ⟨fun z => ⟨z.1, z.2.2⟩, fun z => ⟨z.1, (fun _ => ⟨hq, rfl⟩), z.2⟩⟩
theorem gf4_51 {x : CX} {q : MS} {post : Option Value → MH → Prop} {xp : String → MH → Prop} {len pc : Nat} {b : Nat × Nat} {L st : List Value} {h : MH} {K : KT} : stepE x q 4 post xp (.getfield 51) len pc b L st h K = popR st fun a r => mK h a = 5 ∧ K (pc + len) b L (.int (mI h a 7) :: r) h := id rfl
theorem pf4_51 {x : CX} {q : MS} {post : Option Value → MH → Prop} {xp : String → MH → Prop} {len pc : Nat} {b : Nat × Nat} {L st : List Value} {h : MH} {K : KT} {u : Int32} {a : Nat} {r : List Value} : stepE x q 4 post xp (.putfield 51) len pc b L (.int u :: .ref a :: r) h K = (mK h a = 5 ∧ (u = 0 ∨ u = 1) ∧ K (pc + len) b L r (sI h a 7 u)) := propext ⟨fun z => ⟨z.1, z.2.2.1 rfl, z.2.2.2⟩, fun z => ⟨z.1, (fun e => absurd e (by decide)), fun _ => z.2.1, z.2.2⟩⟩
theorem gf4_54 {x : CX} {q : MS} {post : Option Value → MH → Prop} {xp : String → MH → Prop} {len pc : Nat} {b : Nat × Nat} {L st : List Value} {h : MH} {K : KT} : stepE x q 4 post xp (.getfield 54) len pc b L st h K = popR st fun a r => mK h a = 5 ∧ mP h a 8 ≠ 0 ∧ K (pc + len) b L (.ref (mP h a 8) :: r) h := id rfl
theorem pf4_54 {x : CX} {q : MS} {post : Option Value → MH → Prop} {xp : String → MH → Prop} {len pc : Nat} {b : Nat × Nat} {L st : List Value} {h : MH} {K : KT} {u a : Nat} {r : List Value} (hq : isIn q) : stepE x q 4 post xp (.putfield 54) len pc b L (.ref u :: .ref a :: r) h K = (mK h a = 5 ∧ u ≠ 0 ∧ K (pc + len) b L r (sP h a 8 u)) := propext ⟨fun z => ⟨z.1, z.2.2⟩, fun z => ⟨z.1, (fun _ => ⟨hq, rfl⟩), z.2⟩⟩
theorem gf4_58 {x : CX} {q : MS} {post : Option Value → MH → Prop} {xp : String → MH → Prop} {len pc : Nat} {b : Nat × Nat} {L st : List Value} {h : MH} {K : KT} : stepE x q 4 post xp (.getfield 58) len pc b L st h K = popR st fun a r => mK h a = 5 ∧ mP h a 9 ≠ 0 ∧ K (pc + len) b L (.ref (mP h a 9) :: r) h := id rfl
theorem pf4_58 {x : CX} {q : MS} {post : Option Value → MH → Prop} {xp : String → MH → Prop} {len pc : Nat} {b : Nat × Nat} {L st : List Value} {h : MH} {K : KT} {u a : Nat} {r : List Value} (hq : isIn q) : stepE x q 4 post xp (.putfield 58) len pc b L (.ref u :: .ref a :: r) h K = (mK h a = 5 ∧ u ≠ 0 ∧ K (pc + len) b L r (sP h a 9 u)) := propext ⟨fun z => ⟨z.1, z.2.2⟩, fun z => ⟨z.1, (fun _ => ⟨hq, rfl⟩), z.2⟩⟩
theorem gf4_62 {x : CX} {q : MS} {post : Option Value → MH → Prop} {xp : String → MH → Prop} {len pc : Nat} {b : Nat × Nat} {L st : List Value} {h : MH} {K : KT} : stepE x q 4 post xp (.getfield 62) len pc b L st h K = popR st fun a r => mK h a = 5 ∧ K (pc + len) b L (.int (mI h a 10) :: r) h := id rfl
theorem pf4_62 {x : CX} {q : MS} {post : Option Value → MH → Prop} {xp : String → MH → Prop} {len pc : Nat} {b : Nat × Nat} {L st : List Value} {h : MH} {K : KT} {u : Int32} {a : Nat} {r : List Value} : stepE x q 4 post xp (.putfield 62) len pc b L (.int u :: .ref a :: r) h K = (mK h a = 5 ∧ K (pc + len) b L r (sI h a 10 u)) := propext ⟨fun z => ⟨z.1, z.2.2.2⟩, fun z => ⟨z.1, (fun e => absurd e (by decide)), (fun e => by cases e), z.2⟩⟩
theorem gf4_70 {x : CX} {q : MS} {post : Option Value → MH → Prop} {xp : String → MH → Prop} {len pc : Nat} {b : Nat × Nat} {L st : List Value} {h : MH} {K : KT} : stepE x q 4 post xp (.getfield 70) len pc b L st h K = popR st fun a r => mK h a = 3 ∧ mP h a 3 ≠ 0 ∧ K (pc + len) b L (.ref (mP h a 3) :: r) h := id rfl
theorem gf4_73 {x : CX} {q : MS} {post : Option Value → MH → Prop} {xp : String → MH → Prop} {len pc : Nat} {b : Nat × Nat} {L st : List Value} {h : MH} {K : KT} : stepE x q 4 post xp (.getfield 73) len pc b L st h K = popR st fun a r => mK h a = 3 ∧ mP h a 2 ≠ 0 ∧ K (pc + len) b L (.ref (mP h a 2) :: r) h := id rfl
theorem gf4_76 {x : CX} {q : MS} {post : Option Value → MH → Prop} {xp : String → MH → Prop} {len pc : Nat} {b : Nat × Nat} {L st : List Value} {h : MH} {K : KT} : stepE x q 4 post xp (.getfield 76) len pc b L st h K = popR st fun a r => mK h a = 3 ∧ mP h a 4 ≠ 0 ∧ K (pc + len) b L (.ref (mP h a 4) :: r) h := id rfl
theorem pf4_76 {x : CX} {q : MS} {post : Option Value → MH → Prop} {xp : String → MH → Prop} {len pc : Nat} {b : Nat × Nat} {L st : List Value} {h : MH} {K : KT} {u a : Nat} {r : List Value} : stepE x q 4 post xp (.putfield 76) len pc b L (.ref u :: .ref a :: r) h K = (mK h a = 3 ∧ u ≠ 0 ∧ K (pc + len) b L r (sP h a 4 u)) := propext ⟨fun z => ⟨z.1, z.2.2⟩, fun z => ⟨z.1, (fun e => absurd e (by decide)), z.2⟩⟩
theorem gf4_83 {x : CX} {q : MS} {post : Option Value → MH → Prop} {xp : String → MH → Prop} {len pc : Nat} {b : Nat × Nat} {L st : List Value} {h : MH} {K : KT} : stepE x q 4 post xp (.getfield 83) len pc b L st h K = popR st fun a r => mK h a = 3 ∧ mP h a 5 ≠ 0 ∧ K (pc + len) b L (.ref (mP h a 5) :: r) h := id rfl
theorem pf4_83 {x : CX} {q : MS} {post : Option Value → MH → Prop} {xp : String → MH → Prop} {len pc : Nat} {b : Nat × Nat} {L st : List Value} {h : MH} {K : KT} {u a : Nat} {r : List Value} : stepE x q 4 post xp (.putfield 83) len pc b L (.ref u :: .ref a :: r) h K = (mK h a = 3 ∧ u ≠ 0 ∧ K (pc + len) b L r (sP h a 5 u)) := propext ⟨fun z => ⟨z.1, z.2.2⟩, fun z => ⟨z.1, (fun e => absurd e (by decide)), z.2⟩⟩
theorem gf4_86 {x : CX} {q : MS} {post : Option Value → MH → Prop} {xp : String → MH → Prop} {len pc : Nat} {b : Nat × Nat} {L st : List Value} {h : MH} {K : KT} : stepE x q 4 post xp (.getfield 86) len pc b L st h K = popR st fun a r => mK h a = 3 ∧ mP h a 6 ≠ 0 ∧ K (pc + len) b L (.ref (mP h a 6) :: r) h := id rfl
theorem gf4_93 {x : CX} {q : MS} {post : Option Value → MH → Prop} {xp : String → MH → Prop} {len pc : Nat} {b : Nat × Nat} {L st : List Value} {h : MH} {K : KT} : stepE x q 4 post xp (.getfield 93) len pc b L st h K = popR st fun a r => mK h a = 4 ∧ K (pc + len) b L (.int (mI h a 1) :: r) h := id rfl
theorem pf4_93 {x : CX} {q : MS} {post : Option Value → MH → Prop} {xp : String → MH → Prop} {len pc : Nat} {b : Nat × Nat} {L st : List Value} {h : MH} {K : KT} {u : Int32} {a : Nat} {r : List Value} : stepE x q 4 post xp (.putfield 93) len pc b L (.int u :: .ref a :: r) h K = (mK h a = 4 ∧ K (pc + len) b L r (sI h a 1 u)) := propext ⟨fun z => ⟨z.1, z.2.2.2⟩, fun z => ⟨z.1, (fun e => absurd e (by decide)), (fun e => by cases e), z.2⟩⟩
theorem gf4_106 {x : CX} {q : MS} {post : Option Value → MH → Prop} {xp : String → MH → Prop} {len pc : Nat} {b : Nat × Nat} {L st : List Value} {h : MH} {K : KT} : stepE x q 4 post xp (.getfield 106) len pc b L st h K = popR st fun a r => mK h a = 4 ∧ K (pc + len) b L (.int (mI h a 3) :: r) h := id rfl
theorem pf4_106 {x : CX} {q : MS} {post : Option Value → MH → Prop} {xp : String → MH → Prop} {len pc : Nat} {b : Nat × Nat} {L st : List Value} {h : MH} {K : KT} {u : Int32} {a : Nat} {r : List Value} : stepE x q 4 post xp (.putfield 106) len pc b L (.int u :: .ref a :: r) h K = (mK h a = 4 ∧ K (pc + len) b L r (sI h a 3 u)) := propext ⟨fun z => ⟨z.1, z.2.2.2⟩, fun z => ⟨z.1, (fun e => absurd e (by decide)), (fun e => by cases e), z.2⟩⟩
theorem gf4_112 {x : CX} {q : MS} {post : Option Value → MH → Prop} {xp : String → MH → Prop} {len pc : Nat} {b : Nat × Nat} {L st : List Value} {h : MH} {K : KT} : stepE x q 4 post xp (.getfield 112) len pc b L st h K = popR st fun a r => mK h a = 4 ∧ mP h a 2 ≠ 0 ∧ K (pc + len) b L (.ref (mP h a 2) :: r) h := id rfl
theorem gf4_143 {x : CX} {q : MS} {post : Option Value → MH → Prop} {xp : String → MH → Prop} {len pc : Nat} {b : Nat × Nat} {L st : List Value} {h : MH} {K : KT} : stepE x q 4 post xp (.getfield 143) len pc b L st h K = popR st fun a r => mK h a = 3 ∧ mP h a 7 ≠ 0 ∧ K (pc + len) b L (.ref (mP h a 7) :: r) h := id rfl
theorem gf4_154 {x : CX} {q : MS} {post : Option Value → MH → Prop} {xp : String → MH → Prop} {len pc : Nat} {b : Nat × Nat} {L st : List Value} {h : MH} {K : KT} : stepE x q 4 post xp (.getfield 154) len pc b L st h K = popR st fun a r => mK h a = 1 ∧ K (pc + len) b L (.int (mI h a 7) :: r) h := id rfl
theorem pf4_154 {x : CX} {q : MS} {post : Option Value → MH → Prop} {xp : String → MH → Prop} {len pc : Nat} {b : Nat × Nat} {L st : List Value} {h : MH} {K : KT} {u : Int32} {a : Nat} {r : List Value} : stepE x q 4 post xp (.putfield 154) len pc b L (.int u :: .ref a :: r) h K = (mK h a = 1 ∧ K (pc + len) b L r (sI h a 7 u)) := propext ⟨fun z => ⟨z.1, z.2.2.2⟩, fun z => ⟨z.1, (fun e => absurd e (by decide)), (fun e => by cases e), z.2⟩⟩
theorem gf4_160 {x : CX} {q : MS} {post : Option Value → MH → Prop} {xp : String → MH → Prop} {len pc : Nat} {b : Nat × Nat} {L st : List Value} {h : MH} {K : KT} : stepE x q 4 post xp (.getfield 160) len pc b L st h K = popR st fun a r => mK h a = 1 ∧ mP h a 0 ≠ 0 ∧ K (pc + len) b L (.ref (mP h a 0) :: r) h := id rfl
theorem gf4_168 {x : CX} {q : MS} {post : Option Value → MH → Prop} {xp : String → MH → Prop} {len pc : Nat} {b : Nat × Nat} {L st : List Value} {h : MH} {K : KT} : stepE x q 4 post xp (.getfield 168) len pc b L st h K = popR st fun a r => mK h a = 1 ∧ mP h a 1 ≠ 0 ∧ K (pc + len) b L (.ref (mP h a 1) :: r) h := id rfl
theorem gf4_185 {x : CX} {q : MS} {post : Option Value → MH → Prop} {xp : String → MH → Prop} {len pc : Nat} {b : Nat × Nat} {L st : List Value} {h : MH} {K : KT} : stepE x q 4 post xp (.getfield 185) len pc b L st h K = popR st fun a r => mK h a = 2 ∧ K (pc + len) b L (.int (mI h a 2) :: r) h := id rfl
theorem pf4_185 {x : CX} {q : MS} {post : Option Value → MH → Prop} {xp : String → MH → Prop} {len pc : Nat} {b : Nat × Nat} {L st : List Value} {h : MH} {K : KT} {u : Int32} {a : Nat} {r : List Value} : stepE x q 4 post xp (.putfield 185) len pc b L (.int u :: .ref a :: r) h K = (mK h a = 2 ∧ K (pc + len) b L r (sI h a 2 u)) := propext ⟨fun z => ⟨z.1, z.2.2.2⟩, fun z => ⟨z.1, (fun e => absurd e (by decide)), (fun e => by cases e), z.2⟩⟩
theorem gf4_197 {x : CX} {q : MS} {post : Option Value → MH → Prop} {xp : String → MH → Prop} {len pc : Nat} {b : Nat × Nat} {L st : List Value} {h : MH} {K : KT} : stepE x q 4 post xp (.getfield 197) len pc b L st h K = popR st fun a r => mK h a = 4 ∧ K (pc + len) b L (.int (mI h a 4) :: r) h := id rfl
theorem pf4_197 {x : CX} {q : MS} {post : Option Value → MH → Prop} {xp : String → MH → Prop} {len pc : Nat} {b : Nat × Nat} {L st : List Value} {h : MH} {K : KT} {u : Int32} {a : Nat} {r : List Value} : stepE x q 4 post xp (.putfield 197) len pc b L (.int u :: .ref a :: r) h K = (mK h a = 4 ∧ K (pc + len) b L r (sI h a 4 u)) := propext ⟨fun z => ⟨z.1, z.2.2.2⟩, fun z => ⟨z.1, (fun e => absurd e (by decide)), (fun e => by cases e), z.2⟩⟩
theorem gf4_200 {x : CX} {q : MS} {post : Option Value → MH → Prop} {xp : String → MH → Prop} {len pc : Nat} {b : Nat × Nat} {L st : List Value} {h : MH} {K : KT} : stepE x q 4 post xp (.getfield 200) len pc b L st h K = popR st fun a r => mK h a = 3 ∧ K (pc + len) b L (.int (mI h a 0) :: r) h := id rfl
theorem pf4_200 {x : CX} {q : MS} {post : Option Value → MH → Prop} {xp : String → MH → Prop} {len pc : Nat} {b : Nat × Nat} {L st : List Value} {h : MH} {K : KT} {u : Int32} {a : Nat} {r : List Value} : stepE x q 4 post xp (.putfield 200) len pc b L (.int u :: .ref a :: r) h K = (mK h a = 3 ∧ K (pc + len) b L r (sI h a 0 u)) := propext ⟨fun z => ⟨z.1, z.2.2.2⟩, fun z => ⟨z.1, (fun e => absurd e (by decide)), (fun e => by cases e), z.2⟩⟩
theorem gf4_203 {x : CX} {q : MS} {post : Option Value → MH → Prop} {xp : String → MH → Prop} {len pc : Nat} {b : Nat × Nat} {L st : List Value} {h : MH} {K : KT} : stepE x q 4 post xp (.getfield 203) len pc b L st h K = popR st fun a r => mK h a = 3 ∧ K (pc + len) b L (.int (mI h a 1) :: r) h := id rfl
theorem pf4_203 {x : CX} {q : MS} {post : Option Value → MH → Prop} {xp : String → MH → Prop} {len pc : Nat} {b : Nat × Nat} {L st : List Value} {h : MH} {K : KT} {u : Int32} {a : Nat} {r : List Value} : stepE x q 4 post xp (.putfield 203) len pc b L (.int u :: .ref a :: r) h K = (mK h a = 3 ∧ K (pc + len) b L r (sI h a 1 u)) := propext ⟨fun z => ⟨z.1, z.2.2.2⟩, fun z => ⟨z.1, (fun e => absurd e (by decide)), (fun e => by cases e), z.2⟩⟩
theorem gf4_226 {x : CX} {q : MS} {post : Option Value → MH → Prop} {xp : String → MH → Prop} {len pc : Nat} {b : Nat × Nat} {L st : List Value} {h : MH} {K : KT} : stepE x q 4 post xp (.getfield 226) len pc b L st h K = popR st fun a r => mK h a = 1 ∧ K (pc + len) b L (.int (mI h a 8) :: r) h := id rfl
theorem pf4_226 {x : CX} {q : MS} {post : Option Value → MH → Prop} {xp : String → MH → Prop} {len pc : Nat} {b : Nat × Nat} {L st : List Value} {h : MH} {K : KT} {u : Int32} {a : Nat} {r : List Value} : stepE x q 4 post xp (.putfield 226) len pc b L (.int u :: .ref a :: r) h K = (mK h a = 1 ∧ (u = 0 ∨ u = 1) ∧ K (pc + len) b L r (sI h a 8 u)) := propext ⟨fun z => ⟨z.1, z.2.2.1 rfl, z.2.2.2⟩, fun z => ⟨z.1, (fun e => absurd e (by decide)), fun _ => z.2.1, z.2.2⟩⟩
theorem gf4_232 {x : CX} {q : MS} {post : Option Value → MH → Prop} {xp : String → MH → Prop} {len pc : Nat} {b : Nat × Nat} {L st : List Value} {h : MH} {K : KT} : stepE x q 4 post xp (.getfield 232) len pc b L st h K = popR st fun a r => mK h a = 1 ∧ mP h a 2 ≠ 0 ∧ K (pc + len) b L (.ref (mP h a 2) :: r) h := id rfl
theorem gf4_235 {x : CX} {q : MS} {post : Option Value → MH → Prop} {xp : String → MH → Prop} {len pc : Nat} {b : Nat × Nat} {L st : List Value} {h : MH} {K : KT} : stepE x q 4 post xp (.getfield 235) len pc b L st h K = popR st fun a r => mK h a = 1 ∧ mP h a 3 ≠ 0 ∧ K (pc + len) b L (.ref (mP h a 3) :: r) h := id rfl
theorem iv4_9 {x : CX} {q : MS} {post : Option Value → MH → Prop} {xp : String → MH → Prop} {len pc : Nat} {b : Nat × Nat} {L st : List Value} {h : MH} {K : KT} {r : List Value} : stepE x q 4 post xp (.invokestatic 9) len pc b L (r) h K = callE x q sX4_firstNet [] r h xp b (fun b' st' h' => K (pc + len) b' L st' h') := propext ⟨fun z => z.2, fun z => ⟨rfl, z⟩⟩
theorem iv4_19 {x : CX} {q : MS} {post : Option Value → MH → Prop} {xp : String → MH → Prop} {len pc : Nat} {b : Nat × Nat} {L st : List Value} {h : MH} {K : KT} {a : Nat} {r : List Value} : stepE x q 4 post xp (.invokespecial 19) len pc b L (.ref a :: r) h K = callE x q sX2_init [.ref a] r h xp b (fun b' st' h' => K (pc + len) b' L st' h') := propext ⟨fun z => z.2.2.2, fun z => ⟨rfl, rfl, by decide, z⟩⟩
theorem iv4_32 {x : CX} {q : MS} {post : Option Value → MH → Prop} {xp : String → MH → Prop} {len pc : Nat} {b : Nat × Nat} {L st : List Value} {h : MH} {K : KT} {a : Nat} {r : List Value} : stepE x q 4 post xp (.invokespecial 32) len pc b L (.ref a :: r) h K = callE x q sX1_init [.ref a] r h xp b (fun b' st' h' => K (pc + len) b' L st' h') := propext ⟨fun z => z.2.2.2, fun z => ⟨rfl, rfl, by decide, z⟩⟩
theorem iv4_39 {x : CX} {q : MS} {post : Option Value → MH → Prop} {xp : String → MH → Prop} {len pc : Nat} {b : Nat × Nat} {L st : List Value} {h : MH} {K : KT} {a : Nat} {r : List Value} : stepE x q 4 post xp (.invokespecial 39) len pc b L (.ref a :: r) h K = callE x q sX3_init [.ref a] r h xp b (fun b' st' h' => K (pc + len) b' L st' h') := propext ⟨fun z => z.2.2.2, fun z => ⟨rfl, rfl, by decide, z⟩⟩
theorem iv4_46 {x : CX} {q : MS} {post : Option Value → MH → Prop} {xp : String → MH → Prop} {len pc : Nat} {b : Nat × Nat} {L st : List Value} {h : MH} {K : KT} {a : Nat} {r : List Value} : stepE x q 4 post xp (.invokespecial 46) len pc b L (.ref a :: r) h K = callE x q sX0_init [.ref a] r h xp b (fun b' st' h' => K (pc + len) b' L st' h') := propext ⟨fun z => z.2.2.2, fun z => ⟨rfl, rfl, by decide, z⟩⟩
theorem iv4_66 {x : CX} {q : MS} {post : Option Value → MH → Prop} {xp : String → MH → Prop} {len pc : Nat} {b : Nat × Nat} {L st : List Value} {h : MH} {K : KT} {v0 v1 : Value} {a : Nat} {r : List Value} : stepE x q 4 post xp (.invokevirtual 66) len pc b L (v1 :: v0 :: .ref a :: r) h K = (rcvE x h a 2 ∧ callE x q sX2_clear [.ref a, v0, v1] r h xp b (fun b' st' h' => K (pc + len) b' L st' h')) := propext ⟨fun z => ⟨z.1, z.2.2⟩, fun z => ⟨z.1, in_X2_clear, z.2⟩⟩
theorem iv4_79 {x : CX} {q : MS} {post : Option Value → MH → Prop} {xp : String → MH → Prop} {len pc : Nat} {b : Nat × Nat} {L st : List Value} {h : MH} {K : KT} {v0 v1 : Value} {r : List Value} : stepE x q 4 post xp (.invokestatic 79) len pc b L (v1 :: v0 :: r) h K = callE x q sX2_arc [v0, v1] r h xp b (fun b' st' h' => K (pc + len) b' L st' h') := propext ⟨fun z => z.2, fun z => ⟨rfl, z⟩⟩
theorem iv4_89 {x : CX} {q : MS} {post : Option Value → MH → Prop} {xp : String → MH → Prop} {len pc : Nat} {b : Nat × Nat} {L st : List Value} {h : MH} {K : KT} {v0 : Value} {a : Nat} {r : List Value} : stepE x q 4 post xp (.invokevirtual 89) len pc b L (v0 :: .ref a :: r) h K = (rcvE x h a 2 ∧ callE x q sX2_fireOnce [.ref a, v0] r h xp b (fun b' st' h' => K (pc + len) b' L st' h')) := propext ⟨fun z => ⟨z.1, z.2.2⟩, fun z => ⟨z.1, in_X2_fireOnce, z.2⟩⟩
theorem iv4_96 {x : CX} {q : MS} {post : Option Value → MH → Prop} {xp : String → MH → Prop} {len pc : Nat} {b : Nat × Nat} {L st : List Value} {h : MH} {K : KT} {v0 : Value} {a : Nat} {r : List Value} : stepE x q 4 post xp (.invokevirtual 96) len pc b L (v0 :: .ref a :: r) h K = (rcvE x h a 3 ∧ callE x q sX3_addFourBytes [.ref a, v0] r h xp b (fun b' st' h' => K (pc + len) b' L st' h')) := propext ⟨fun z => ⟨z.1, z.2.2⟩, fun z => ⟨z.1, in_X3_addFourBytes, z.2⟩⟩
theorem iv4_99 {x : CX} {q : MS} {post : Option Value → MH → Prop} {xp : String → MH → Prop} {len pc : Nat} {b : Nat × Nat} {L st : List Value} {h : MH} {K : KT} {v0 v1 v2 : Value} {r : List Value} : stepE x q 4 post xp (.invokestatic 99) len pc b L (v2 :: v1 :: v0 :: r) h K = callE x q sX4_checkRange [v0, v1, v2] r h xp b (fun b' st' h' => K (pc + len) b' L st' h') := propext ⟨fun z => z.2, fun z => ⟨rfl, z⟩⟩
theorem iv4_103 {x : CX} {q : MS} {post : Option Value → MH → Prop} {xp : String → MH → Prop} {len pc : Nat} {b : Nat × Nat} {L st : List Value} {h : MH} {K : KT} {a : Nat} {r : List Value} : stepE x q 4 post xp (.invokevirtual 103) len pc b L (.ref a :: r) h K = (rcvE x h a 3 ∧ callE x q sX3_execute [.ref a] r h xp b (fun b' st' h' => K (pc + len) b' L st' h')) := propext ⟨fun z => ⟨z.1, z.2.2⟩, fun z => ⟨z.1, in_X3_execute, z.2⟩⟩
theorem iv4_109 {x : CX} {q : MS} {post : Option Value → MH → Prop} {xp : String → MH → Prop} {len pc : Nat} {b : Nat × Nat} {L st : List Value} {h : MH} {K : KT} {a : Nat} {r : List Value} : stepE x q 4 post xp (.invokevirtual 109) len pc b L (.ref a :: r) h K = (rcvE x h a 4 ∧ callE x q sX4_beginChange [.ref a] r h xp b (fun b' st' h' => K (pc + len) b' L st' h')) := propext ⟨fun z => ⟨z.1, z.2.2⟩, fun z => ⟨z.1, in_X4_beginChange, z.2⟩⟩
theorem iv4_113 {x : CX} {q : MS} {post : Option Value → MH → Prop} {xp : String → MH → Prop} {len pc : Nat} {b : Nat × Nat} {L st : List Value} {h : MH} {K : KT} {v0 : Value} {a : Nat} {r : List Value} : stepE x q 4 post xp (.invokevirtual 113) len pc b L (v0 :: .ref a :: r) h K = (rcvE x h a 2 ∧ callE x q sX2_copyFrom [.ref a, v0] r h xp b (fun b' st' h' => K (pc + len) b' L st' h')) := propext ⟨fun z => ⟨z.1, z.2.2⟩, fun z => ⟨z.1, in_X2_copyFrom, z.2⟩⟩
theorem iv4_117 {x : CX} {q : MS} {post : Option Value → MH → Prop} {xp : String → MH → Prop} {len pc : Nat} {b : Nat × Nat} {L st : List Value} {h : MH} {K : KT} {a : Nat} {r : List Value} : stepE x q 4 post xp (.invokevirtual 117) len pc b L (.ref a :: r) h K = (rcvE x h a 2 ∧ callE x q sX2_sumOfTokens [.ref a] r h xp b (fun b' st' h' => K (pc + len) b' L st' h')) := propext ⟨fun z => ⟨z.1, z.2.2⟩, fun z => ⟨z.1, in_X2_sumOfTokens, z.2⟩⟩
theorem iv4_121 {x : CX} {q : MS} {post : Option Value → MH → Prop} {xp : String → MH → Prop} {len pc : Nat} {b : Nat × Nat} {L st : List Value} {h : MH} {K : KT} {v0 : Value} {a : Nat} {r : List Value} : stepE x q 4 post xp (.invokevirtual 121) len pc b L (v0 :: .ref a :: r) h K = (rcvE x h a 4 ∧ callE x q sX4_checkPlace [.ref a, v0] r h xp b (fun b' st' h' => K (pc + len) b' L st' h')) := propext ⟨fun z => ⟨z.1, z.2.2⟩, fun z => ⟨z.1, in_X4_checkPlace, z.2⟩⟩
theorem iv4_131 {x : CX} {q : MS} {post : Option Value → MH → Prop} {xp : String → MH → Prop} {len pc : Nat} {b : Nat × Nat} {L st : List Value} {h : MH} {K : KT} {v0 v1 v2 : Value} {a : Nat} {r : List Value} : stepE x q 4 post xp (.invokevirtual 131) len pc b L (v2 :: v1 :: v0 :: .ref a :: r) h K = (rcvE x h a 4 ∧ callE x q sX4_checkArc [.ref a, v0, v1, v2] r h xp b (fun b' st' h' => K (pc + len) b' L st' h')) := propext ⟨fun z => ⟨z.1, z.2.2⟩, fun z => ⟨z.1, in_X4_checkArc, z.2⟩⟩
theorem iv4_134 {x : CX} {q : MS} {post : Option Value → MH → Prop} {xp : String → MH → Prop} {len pc : Nat} {b : Nat × Nat} {L st : List Value} {h : MH} {K : KT} {v0 : Value} {a : Nat} {r : List Value} : stepE x q 4 post xp (.invokevirtual 134) len pc b L (v0 :: .ref a :: r) h K = (rcvE x h a 4 ∧ callE x q sX4_checkTransition [.ref a, v0] r h xp b (fun b' st' h' => K (pc + len) b' L st' h')) := propext ⟨fun z => ⟨z.1, z.2.2⟩, fun z => ⟨z.1, in_X4_checkTransition, z.2⟩⟩
theorem iv4_137 {x : CX} {q : MS} {post : Option Value → MH → Prop} {xp : String → MH → Prop} {len pc : Nat} {b : Nat × Nat} {L st : List Value} {h : MH} {K : KT} {v0 : Value} {a : Nat} {r : List Value} : stepE x q 4 post xp (.invokevirtual 137) len pc b L (v0 :: .ref a :: r) h K = (rcvE x h a 2 ∧ callE x q sX2_allows [.ref a, v0] r h xp b (fun b' st' h' => K (pc + len) b' L st' h')) := propext ⟨fun z => ⟨z.1, z.2.2⟩, fun z => ⟨z.1, in_X2_allows, z.2⟩⟩
theorem iv4_146 {x : CX} {q : MS} {post : Option Value → MH → Prop} {xp : String → MH → Prop} {len pc : Nat} {b : Nat × Nat} {L st : List Value} {h : MH} {K : KT} {v0 : Value} {a : Nat} {r : List Value} : stepE x q 4 post xp (.invokevirtual 146) len pc b L (v0 :: .ref a :: r) h K = (rcvE x h a 2 ∧ callE x q sX2_advance [.ref a, v0] r h xp b (fun b' st' h' => K (pc + len) b' L st' h')) := propext ⟨fun z => ⟨z.1, z.2.2⟩, fun z => ⟨z.1, in_X2_advance, z.2⟩⟩
theorem iv4_150 {x : CX} {q : MS} {post : Option Value → MH → Prop} {xp : String → MH → Prop} {len pc : Nat} {b : Nat × Nat} {L st : List Value} {h : MH} {K : KT} {a : Nat} {r : List Value} : stepE x q 4 post xp (.invokevirtual 150) len pc b L (.ref a :: r) h K = (rcvE x h a 4 ∧ callE x q sX4_explored [.ref a] r h xp b (fun b' st' h' => K (pc + len) b' L st' h')) := propext ⟨fun z => ⟨z.1, z.2.2⟩, fun z => ⟨z.1, in_X4_explored, z.2⟩⟩
theorem iv4_157 {x : CX} {q : MS} {post : Option Value → MH → Prop} {xp : String → MH → Prop} {len pc : Nat} {b : Nat × Nat} {L st : List Value} {h : MH} {K : KT} {v0 v1 : Value} {r : List Value} : stepE x q 4 post xp (.invokestatic 157) len pc b L (v1 :: v0 :: r) h K = callE x q sX4_checkMarking [v0, v1] r h xp b (fun b' st' h' => K (pc + len) b' L st' h') := propext ⟨fun z => z.2, fun z => ⟨rfl, z⟩⟩
theorem iv4_164 {x : CX} {q : MS} {post : Option Value → MH → Prop} {xp : String → MH → Prop} {len pc : Nat} {b : Nat × Nat} {L st : List Value} {h : MH} {K : KT} {v0 : Value} {a : Nat} {r : List Value} : stepE x q 4 post xp (.invokevirtual 164) len pc b L (v0 :: .ref a :: r) h K = (rcvE x h a 2 ∧ callE x q sX2_unpackMarking [.ref a, v0] r h xp b (fun b' st' h' => K (pc + len) b' L st' h')) := propext ⟨fun z => ⟨z.1, z.2.2⟩, fun z => ⟨z.1, in_X2_unpackMarking, z.2⟩⟩
theorem iv4_171 {x : CX} {q : MS} {post : Option Value → MH → Prop} {xp : String → MH → Prop} {len pc : Nat} {b : Nat × Nat} {L st : List Value} {h : MH} {K : KT} {a : Nat} {r : List Value} : stepE x q 4 post xp (.invokevirtual 171) len pc b L (.ref a :: r) h K = (rcvE x h a 2 ∧ callE x q sX2_swapInputsAndOutputs [.ref a] r h xp b (fun b' st' h' => K (pc + len) b' L st' h')) := propext ⟨fun z => ⟨z.1, z.2.2⟩, fun z => ⟨z.1, in_X2_swapInputsAndOutputs, z.2⟩⟩
theorem iv4_174 {x : CX} {q : MS} {post : Option Value → MH → Prop} {xp : String → MH → Prop} {len pc : Nat} {b : Nat × Nat} {L st : List Value} {h : MH} {K : KT} {a : Nat} {r : List Value} : stepE x q 4 post xp (.invokevirtual 174) len pc b L (.ref a :: r) h K = (rcvE x h a 2 ∧ callE x q sX2_enabledSet [.ref a] r h xp b (fun b' st' h' => K (pc + len) b' L st' h')) := propext ⟨fun z => ⟨z.1, z.2.2⟩, fun z => ⟨z.1, in_X2_enabledSet, z.2⟩⟩
theorem iv4_177 {x : CX} {q : MS} {post : Option Value → MH → Prop} {xp : String → MH → Prop} {len pc : Nat} {b : Nat × Nat} {L st : List Value} {h : MH} {K : KT} {v0 : Value} {r : List Value} : stepE x q 4 post xp (.invokestatic 177) len pc b L (v0 :: r) h K = callE x q sJ6_bitCount_0f7a4 [v0] r h xp b (fun b' st' h' => K (pc + len) b' L st' h') := propext ⟨fun z => z.2, fun z => ⟨rfl, z⟩⟩
theorem iv4_182 {x : CX} {q : MS} {post : Option Value → MH → Prop} {xp : String → MH → Prop} {len pc : Nat} {b : Nat × Nat} {L st : List Value} {h : MH} {K : KT} {v0 : Value} {a : Nat} {r : List Value} : stepE x q 4 post xp (.invokevirtual 182) len pc b L (v0 :: .ref a :: r) h K = (rcvE x h a 1 ∧ callE x q sX1_push [.ref a, v0] r h xp b (fun b' st' h' => K (pc + len) b' L st' h')) := propext ⟨fun z => ⟨z.1, z.2.2⟩, fun z => ⟨z.1, in_X1_push, z.2⟩⟩
theorem iv4_186 {x : CX} {q : MS} {post : Option Value → MH → Prop} {xp : String → MH → Prop} {len pc : Nat} {b : Nat × Nat} {L st : List Value} {h : MH} {K : KT} {v0 : Value} {a : Nat} {r : List Value} : stepE x q 4 post xp (.invokevirtual 186) len pc b L (v0 :: .ref a :: r) h K = (rcvE x h a 1 ∧ callE x q sX1_popInto [.ref a, v0] r h xp b (fun b' st' h' => K (pc + len) b' L st' h')) := propext ⟨fun z => ⟨z.1, z.2.2⟩, fun z => ⟨z.1, in_X1_popInto, z.2⟩⟩
theorem iv4_194 {x : CX} {q : MS} {post : Option Value → MH → Prop} {xp : String → MH → Prop} {len pc : Nat} {b : Nat × Nat} {L st : List Value} {h : MH} {K : KT} {a : Nat} {r : List Value} : stepE x q 4 post xp (.invokevirtual 194) len pc b L (.ref a :: r) h K = (rcvE x h a 1 ∧ callE x q sX1_forgetAll [.ref a] r h xp b (fun b' st' h' => K (pc + len) b' L st' h')) := propext ⟨fun z => ⟨z.1, z.2.2⟩, fun z => ⟨z.1, in_X1_forgetAll, z.2⟩⟩
theorem iv4_206 {x : CX} {q : MS} {post : Option Value → MH → Prop} {xp : String → MH → Prop} {len pc : Nat} {b : Nat × Nat} {L st : List Value} {h : MH} {K : KT} {v0 v1 : Value} {a : Nat} {r : List Value} : stepE x q 4 post xp (.invokevirtual 206) len pc b L (v1 :: v0 :: .ref a :: r) h K = (rcvE x h a 2 ∧ callE x q sX2_change [.ref a, v0, v1] r h xp b (fun b' st' h' => K (pc + len) b' L st' h')) := propext ⟨fun z => ⟨z.1, z.2.2⟩, fun z => ⟨z.1, in_X2_change, z.2⟩⟩
theorem iv4_209 {x : CX} {q : MS} {post : Option Value → MH → Prop} {xp : String → MH → Prop} {len pc : Nat} {b : Nat × Nat} {L st : List Value} {h : MH} {K : KT} {v0 v1 : Value} {a : Nat} {r : List Value} : stepE x q 4 post xp (.invokevirtual 209) len pc b L (v1 :: v0 :: .ref a :: r) h K = (rcvE x h a 2 ∧ callE x q sX2_placesWithWeight [.ref a, v0, v1] r h xp b (fun b' st' h' => K (pc + len) b' L st' h')) := propext ⟨fun z => ⟨z.1, z.2.2⟩, fun z => ⟨z.1, in_X2_placesWithWeight, z.2⟩⟩
theorem iv4_213 {x : CX} {q : MS} {post : Option Value → MH → Prop} {xp : String → MH → Prop} {len pc : Nat} {b : Nat × Nat} {L st : List Value} {h : MH} {K : KT} {v0 : Value} {a : Nat} {r : List Value} : stepE x q 4 post xp (.invokevirtual 213) len pc b L (v0 :: .ref a :: r) h K = (rcvE x h a 2 ∧ callE x q sX2_reasonAgainst [.ref a, v0] r h xp b (fun b' st' h' => K (pc + len) b' L st' h')) := propext ⟨fun z => ⟨z.1, z.2.2⟩, fun z => ⟨z.1, in_X2_reasonAgainst, z.2⟩⟩
theorem iv4_216 {x : CX} {q : MS} {post : Option Value → MH → Prop} {xp : String → MH → Prop} {len pc : Nat} {b : Nat × Nat} {L st : List Value} {h : MH} {K : KT} {v0 : Value} {a : Nat} {r : List Value} : stepE x q 4 post xp (.invokevirtual 216) len pc b L (v0 :: .ref a :: r) h K = (rcvE x h a 2 ∧ callE x q sX2_firstBlocker [.ref a, v0] r h xp b (fun b' st' h' => K (pc + len) b' L st' h')) := propext ⟨fun z => ⟨z.1, z.2.2⟩, fun z => ⟨z.1, in_X2_firstBlocker, z.2⟩⟩
theorem iv4_219 {x : CX} {q : MS} {post : Option Value → MH → Prop} {xp : String → MH → Prop} {len pc : Nat} {b : Nat × Nat} {L st : List Value} {h : MH} {K : KT} {a : Nat} {r : List Value} : stepE x q 4 post xp (.invokevirtual 219) len pc b L (.ref a :: r) h K = (rcvE x h a 2 ∧ callE x q sX2_nextToFire [.ref a] r h xp b (fun b' st' h' => K (pc + len) b' L st' h')) := propext ⟨fun z => ⟨z.1, z.2.2⟩, fun z => ⟨z.1, in_X2_nextToFire, z.2⟩⟩
theorem iv4_222 {x : CX} {q : MS} {post : Option Value → MH → Prop} {xp : String → MH → Prop} {len pc : Nat} {b : Nat × Nat} {L st : List Value} {h : MH} {K : KT} {v0 v1 : Value} {a : Nat} {r : List Value} : stepE x q 4 post xp (.invokevirtual 222) len pc b L (v1 :: v0 :: .ref a :: r) h K = (rcvE x h a 4 ∧ callE x q sX4_disables [.ref a, v0, v1] r h xp b (fun b' st' h' => K (pc + len) b' L st' h')) := propext ⟨fun z => ⟨z.1, z.2.2⟩, fun z => ⟨z.1, in_X4_disables, z.2⟩⟩
theorem iv4_229 {x : CX} {q : MS} {post : Option Value → MH → Prop} {xp : String → MH → Prop} {len pc : Nat} {b : Nat × Nat} {L st : List Value} {h : MH} {K : KT} {v0 v1 : Value} {a : Nat} {r : List Value} : stepE x q 4 post xp (.invokevirtual 229) len pc b L (v1 :: v0 :: .ref a :: r) h K = (rcvE x h a 0 ∧ callE x q sX0_tokensIn [.ref a, v0, v1] r h xp b (fun b' st' h' => K (pc + len) b' L st' h')) := propext ⟨fun z => ⟨z.1, z.2.2⟩, fun z => ⟨z.1, in_X0_tokensIn, z.2⟩⟩
theorem iv4_243 {x : CX} {q : MS} {post : Option Value → MH → Prop} {xp : String → MH → Prop} {len pc : Nat} {b : Nat × Nat} {L st : List Value} {h : MH} {K : KT} {v0 v1 : Value} {a : Nat} {r : List Value} : stepE x q 4 post xp (.invokevirtual 243) len pc b L (v1 :: v0 :: .ref a :: r) h K = (rcvE x h a 0 ∧ callE x q sX0_isEnabledIn [.ref a, v0, v1] r h xp b (fun b' st' h' => K (pc + len) b' L st' h')) := propext ⟨fun z => ⟨z.1, z.2.2⟩, fun z => ⟨z.1, in_X0_isEnabledIn, z.2⟩⟩
theorem iv4_246 {x : CX} {q : MS} {post : Option Value → MH → Prop} {xp : String → MH → Prop} {len pc : Nat} {b : Nat × Nat} {L st : List Value} {h : MH} {K : KT} {v0 : Value} {a : Nat} {r : List Value} : stepE x q 4 post xp (.invokevirtual 246) len pc b L (v0 :: .ref a :: r) h K = (rcvE x h a 0 ∧ callE x q sX0_leadsHome [.ref a, v0] r h xp b (fun b' st' h' => K (pc + len) b' L st' h')) := propext ⟨fun z => ⟨z.1, z.2.2⟩, fun z => ⟨z.1, in_X0_leadsHome, z.2⟩⟩
theorem iv4_249 {x : CX} {q : MS} {post : Option Value → MH → Prop} {xp : String → MH → Prop} {len pc : Nat} {b : Nat × Nat} {L st : List Value} {h : MH} {K : KT} {v0 : Value} {a : Nat} {r : List Value} : stepE x q 4 post xp (.invokevirtual 249) len pc b L (v0 :: .ref a :: r) h K = (rcvE x h a 0 ∧ callE x q sX0_explore [.ref a, v0] r h xp b (fun b' st' h' => K (pc + len) b' L st' h')) := propext ⟨fun z => ⟨z.1, z.2.2⟩, fun z => ⟨z.1, in_X0_explore, z.2⟩⟩
theorem iv4_252 {x : CX} {q : MS} {post : Option Value → MH → Prop} {xp : String → MH → Prop} {len pc : Nat} {b : Nat × Nat} {L st : List Value} {h : MH} {K : KT} {v0 v1 : Value} {a : Nat} {r : List Value} : stepE x q 4 post xp (.invokevirtual 252) len pc b L (v1 :: v0 :: .ref a :: r) h K = (rcvE x h a 4 ∧ callE x q sX4_readVector [.ref a, v0, v1] r h xp b (fun b' st' h' => K (pc + len) b' L st' h')) := propext ⟨fun z => ⟨z.1, z.2.2⟩, fun z => ⟨z.1, in_X4_readVector, z.2⟩⟩
theorem iv4_255 {x : CX} {q : MS} {post : Option Value → MH → Prop} {xp : String → MH → Prop} {len pc : Nat} {b : Nat × Nat} {L st : List Value} {h : MH} {K : KT} {v0 : Value} {a : Nat} {r : List Value} : stepE x q 4 post xp (.invokevirtual 255) len pc b L (v0 :: .ref a :: r) h K = (rcvE x h a 2 ∧ callE x q sX2_keepsWeightedTokens [.ref a, v0] r h xp b (fun b' st' h' => K (pc + len) b' L st' h')) := propext ⟨fun z => ⟨z.1, z.2.2⟩, fun z => ⟨z.1, in_X2_keepsWeightedTokens, z.2⟩⟩
theorem iv4_259 {x : CX} {q : MS} {post : Option Value → MH → Prop} {xp : String → MH → Prop} {len pc : Nat} {b : Nat × Nat} {L st : List Value} {h : MH} {K : KT} {v0 : Value} {a : Nat} {r : List Value} : stepE x q 4 post xp (.invokevirtual 259) len pc b L (v0 :: .ref a :: r) h K = (rcvE x h a 2 ∧ callE x q sX2_keepsMarking [.ref a, v0] r h xp b (fun b' st' h' => K (pc + len) b' L st' h')) := propext ⟨fun z => ⟨z.1, z.2.2⟩, fun z => ⟨z.1, in_X2_keepsMarking, z.2⟩⟩
theorem iv4_262 {x : CX} {q : MS} {post : Option Value → MH → Prop} {xp : String → MH → Prop} {len pc : Nat} {b : Nat × Nat} {L st : List Value} {h : MH} {K : KT} {v0 : Value} {a : Nat} {r : List Value} : stepE x q 4 post xp (.invokevirtual 262) len pc b L (v0 :: .ref a :: r) h K = (rcvE x h a 4 ∧ callE x q sX4_isSimpleInvariant [.ref a, v0] r h xp b (fun b' st' h' => K (pc + len) b' L st' h')) := propext ⟨fun z => ⟨z.1, z.2.2⟩, fun z => ⟨z.1, in_X4_isSimpleInvariant, z.2⟩⟩
theorem iv4_265 {x : CX} {q : MS} {post : Option Value → MH → Prop} {xp : String → MH → Prop} {len pc : Nat} {b : Nat × Nat} {L st : List Value} {h : MH} {K : KT} {v0 : Value} {r : List Value} : stepE x q 4 post xp (.invokestatic 265) len pc b L (v0 :: r) h K = callE x q sX4_vectorOf [v0] r h xp b (fun b' st' h' => K (pc + len) b' L st' h') := propext ⟨fun z => z.2, fun z => ⟨rfl, z⟩⟩
theorem iv4_275 {x : CX} {q : MS} {post : Option Value → MH → Prop} {xp : String → MH → Prop} {len pc : Nat} {b : Nat × Nat} {L st : List Value} {h : MH} {K : KT} {a : Nat} {r : List Value} : stepE x q 4 post xp (.invokevirtual 275) len pc b L (.ref a :: r) h K = (rcvE x h a 2 ∧ callE x q sX2_placesOutOfRange [.ref a] r h xp b (fun b' st' h' => K (pc + len) b' L st' h')) := propext ⟨fun z => ⟨z.1, z.2.2⟩, fun z => ⟨z.1, in_X2_placesOutOfRange, z.2⟩⟩
theorem iv4_278 {x : CX} {q : MS} {post : Option Value → MH → Prop} {xp : String → MH → Prop} {len pc : Nat} {b : Nat × Nat} {L st : List Value} {h : MH} {K : KT} {v0 : Value} {a : Nat} {r : List Value} : stepE x q 4 post xp (.invokevirtual 278) len pc b L (v0 :: .ref a :: r) h K = (rcvE x h a 0 ∧ callE x q sX0_keepsTokensOf [.ref a, v0] r h xp b (fun b' st' h' => K (pc + len) b' L st' h')) := propext ⟨fun z => ⟨z.1, z.2.2⟩, fun z => ⟨z.1, in_X0_keepsTokensOf, z.2⟩⟩
theorem iv4_281 {x : CX} {q : MS} {post : Option Value → MH → Prop} {xp : String → MH → Prop} {len pc : Nat} {b : Nat × Nat} {L st : List Value} {h : MH} {K : KT} {v0 : Value} {a : Nat} {r : List Value} : stepE x q 4 post xp (.invokevirtual 281) len pc b L (v0 :: .ref a :: r) h K = (rcvE x h a 4 ∧ callE x q sX4_put [.ref a, v0] r h xp b (fun b' st' h' => K (pc + len) b' L st' h')) := propext ⟨fun z => ⟨z.1, z.2.2⟩, fun z => ⟨z.1, in_X4_put, z.2⟩⟩
theorem iv4_284 {x : CX} {q : MS} {post : Option Value → MH → Prop} {xp : String → MH → Prop} {len pc : Nat} {b : Nat × Nat} {L st : List Value} {h : MH} {K : KT} {v0 : Value} {a : Nat} {r : List Value} : stepE x q 4 post xp (.invokevirtual 284) len pc b L (v0 :: .ref a :: r) h K = (rcvE x h a 4 ∧ callE x q sX4_putNumber [.ref a, v0] r h xp b (fun b' st' h' => K (pc + len) b' L st' h')) := propext ⟨fun z => ⟨z.1, z.2.2⟩, fun z => ⟨z.1, in_X4_putNumber, z.2⟩⟩
theorem iv4_287 {x : CX} {q : MS} {post : Option Value → MH → Prop} {xp : String → MH → Prop} {len pc : Nat} {b : Nat × Nat} {L st : List Value} {h : MH} {K : KT} {v0 : Value} {a : Nat} {r : List Value} : stepE x q 4 post xp (.invokevirtual 287) len pc b L (v0 :: .ref a :: r) h K = (rcvE x h a 4 ∧ callE x q sX4_putEnabled [.ref a, v0] r h xp b (fun b' st' h' => K (pc + len) b' L st' h')) := propext ⟨fun z => ⟨z.1, z.2.2⟩, fun z => ⟨z.1, in_X4_putEnabled, z.2⟩⟩
theorem gf5_9 {x : CX} {q : MS} {post : Option Value → MH → Prop} {xp : String → MH → Prop} {len pc : Nat} {b : Nat × Nat} {L st : List Value} {h : MH} {K : KT} : stepE x q 5 post xp (.getfield 9) len pc b L st h K = popR st fun a r => mK h a = 6 ∧ mP h a 1 ≠ 0 ∧ K (pc + len) b L (.ref (mP h a 1) :: r) h := id rfl
theorem pf5_9 {x : CX} {q : MS} {post : Option Value → MH → Prop} {xp : String → MH → Prop} {len pc : Nat} {b : Nat × Nat} {L st : List Value} {h : MH} {K : KT} {u a : Nat} {r : List Value} (hq : isIn q) : stepE x q 5 post xp (.putfield 9) len pc b L (.ref u :: .ref a :: r) h K = (mK h a = 6 ∧ u ≠ 0 ∧ K (pc + len) b L r (sP h a 1 u)) := propext ⟨fun z => ⟨z.1, z.2.2⟩, fun z => ⟨z.1, (fun _ => ⟨hq, rfl⟩), z.2⟩⟩
theorem gf5_15 {x : CX} {q : MS} {post : Option Value → MH → Prop} {xp : String → MH → Prop} {len pc : Nat} {b : Nat × Nat} {L st : List Value} {h : MH} {K : KT} : stepE x q 5 post xp (.getfield 15) len pc b L st h K = popR st fun a r => mK h a = 6 ∧ mP h a 2 ≠ 0 ∧ K (pc + len) b L (.ref (mP h a 2) :: r) h := id rfl
theorem pf5_15 {x : CX} {q : MS} {post : Option Value → MH → Prop} {xp : String → MH → Prop} {len pc : Nat} {b : Nat × Nat} {L st : List Value} {h : MH} {K : KT} {u a : Nat} {r : List Value} (hq : isIn q) : stepE x q 5 post xp (.putfield 15) len pc b L (.ref u :: .ref a :: r) h K = (mK h a = 6 ∧ u ≠ 0 ∧ K (pc + len) b L r (sP h a 2 u)) := propext ⟨fun z => ⟨z.1, z.2.2⟩, fun z => ⟨z.1, (fun _ => ⟨hq, rfl⟩), z.2⟩⟩
theorem gf5_18 {x : CX} {q : MS} {post : Option Value → MH → Prop} {xp : String → MH → Prop} {len pc : Nat} {b : Nat × Nat} {L st : List Value} {h : MH} {K : KT} : stepE x q 5 post xp (.getfield 18) len pc b L st h K = popR st fun a r => mK h a = 6 ∧ mP h a 4 ≠ 0 ∧ K (pc + len) b L (.ref (mP h a 4) :: r) h := id rfl
theorem pf5_18 {x : CX} {q : MS} {post : Option Value → MH → Prop} {xp : String → MH → Prop} {len pc : Nat} {b : Nat × Nat} {L st : List Value} {h : MH} {K : KT} {u a : Nat} {r : List Value} (hq : isIn q) : stepE x q 5 post xp (.putfield 18) len pc b L (.ref u :: .ref a :: r) h K = (mK h a = 6 ∧ u ≠ 0 ∧ K (pc + len) b L r (sP h a 4 u)) := propext ⟨fun z => ⟨z.1, z.2.2⟩, fun z => ⟨z.1, (fun _ => ⟨hq, rfl⟩), z.2⟩⟩
theorem gf5_21 {x : CX} {q : MS} {post : Option Value → MH → Prop} {xp : String → MH → Prop} {len pc : Nat} {b : Nat × Nat} {L st : List Value} {h : MH} {K : KT} : stepE x q 5 post xp (.getfield 21) len pc b L st h K = popR st fun a r => mK h a = 6 ∧ mP h a 6 ≠ 0 ∧ K (pc + len) b L (.ref (mP h a 6) :: r) h := id rfl
theorem pf5_21 {x : CX} {q : MS} {post : Option Value → MH → Prop} {xp : String → MH → Prop} {len pc : Nat} {b : Nat × Nat} {L st : List Value} {h : MH} {K : KT} {u a : Nat} {r : List Value} (hq : isIn q) : stepE x q 5 post xp (.putfield 21) len pc b L (.ref u :: .ref a :: r) h K = (mK h a = 6 ∧ u ≠ 0 ∧ K (pc + len) b L r (sP h a 6 u)) := propext ⟨fun z => ⟨z.1, z.2.2⟩, fun z => ⟨z.1, (fun _ => ⟨hq, rfl⟩), z.2⟩⟩
theorem gf5_24 {x : CX} {q : MS} {post : Option Value → MH → Prop} {xp : String → MH → Prop} {len pc : Nat} {b : Nat × Nat} {L st : List Value} {h : MH} {K : KT} : stepE x q 5 post xp (.getfield 24) len pc b L st h K = popR st fun a r => mK h a = 6 ∧ mP h a 7 ≠ 0 ∧ K (pc + len) b L (.ref (mP h a 7) :: r) h := id rfl
theorem pf5_24 {x : CX} {q : MS} {post : Option Value → MH → Prop} {xp : String → MH → Prop} {len pc : Nat} {b : Nat × Nat} {L st : List Value} {h : MH} {K : KT} {u a : Nat} {r : List Value} (hq : isIn q) : stepE x q 5 post xp (.putfield 24) len pc b L (.ref u :: .ref a :: r) h K = (mK h a = 6 ∧ u ≠ 0 ∧ K (pc + len) b L r (sP h a 7 u)) := propext ⟨fun z => ⟨z.1, z.2.2⟩, fun z => ⟨z.1, (fun _ => ⟨hq, rfl⟩), z.2⟩⟩
theorem gf5_27 {x : CX} {q : MS} {post : Option Value → MH → Prop} {xp : String → MH → Prop} {len pc : Nat} {b : Nat × Nat} {L st : List Value} {h : MH} {K : KT} : stepE x q 5 post xp (.getfield 27) len pc b L st h K = popR st fun a r => mK h a = 6 ∧ mP h a 8 ≠ 0 ∧ K (pc + len) b L (.ref (mP h a 8) :: r) h := id rfl
theorem pf5_27 {x : CX} {q : MS} {post : Option Value → MH → Prop} {xp : String → MH → Prop} {len pc : Nat} {b : Nat × Nat} {L st : List Value} {h : MH} {K : KT} {u a : Nat} {r : List Value} (hq : isIn q) : stepE x q 5 post xp (.putfield 27) len pc b L (.ref u :: .ref a :: r) h K = (mK h a = 6 ∧ u ≠ 0 ∧ K (pc + len) b L r (sP h a 8 u)) := propext ⟨fun z => ⟨z.1, z.2.2⟩, fun z => ⟨z.1, (fun _ => ⟨hq, rfl⟩), z.2⟩⟩
theorem gf5_30 {x : CX} {q : MS} {post : Option Value → MH → Prop} {xp : String → MH → Prop} {len pc : Nat} {b : Nat × Nat} {L st : List Value} {h : MH} {K : KT} : stepE x q 5 post xp (.getfield 30) len pc b L st h K = popR st fun a r => mK h a = 6 ∧ mP h a 10 ≠ 0 ∧ K (pc + len) b L (.ref (mP h a 10) :: r) h := id rfl
theorem pf5_30 {x : CX} {q : MS} {post : Option Value → MH → Prop} {xp : String → MH → Prop} {len pc : Nat} {b : Nat × Nat} {L st : List Value} {h : MH} {K : KT} {u a : Nat} {r : List Value} (hq : isIn q) : stepE x q 5 post xp (.putfield 30) len pc b L (.ref u :: .ref a :: r) h K = (mK h a = 6 ∧ u ≠ 0 ∧ K (pc + len) b L r (sP h a 10 u)) := propext ⟨fun z => ⟨z.1, z.2.2⟩, fun z => ⟨z.1, (fun _ => ⟨hq, rfl⟩), z.2⟩⟩
theorem gf5_34 {x : CX} {q : MS} {post : Option Value → MH → Prop} {xp : String → MH → Prop} {len pc : Nat} {b : Nat × Nat} {L st : List Value} {h : MH} {K : KT} : stepE x q 5 post xp (.getfield 34) len pc b L st h K = popR st fun a r => mK h a = 6 ∧ mP h a 12 ≠ 0 ∧ K (pc + len) b L (.ref (mP h a 12) :: r) h := id rfl
theorem pf5_34 {x : CX} {q : MS} {post : Option Value → MH → Prop} {xp : String → MH → Prop} {len pc : Nat} {b : Nat × Nat} {L st : List Value} {h : MH} {K : KT} {u a : Nat} {r : List Value} (hq : isIn q) : stepE x q 5 post xp (.putfield 34) len pc b L (.ref u :: .ref a :: r) h K = (mK h a = 6 ∧ u ≠ 0 ∧ K (pc + len) b L r (sP h a 12 u)) := propext ⟨fun z => ⟨z.1, z.2.2⟩, fun z => ⟨z.1, (fun _ => ⟨hq, rfl⟩), z.2⟩⟩
theorem gf5_37 {x : CX} {q : MS} {post : Option Value → MH → Prop} {xp : String → MH → Prop} {len pc : Nat} {b : Nat × Nat} {L st : List Value} {h : MH} {K : KT} : stepE x q 5 post xp (.getfield 37) len pc b L st h K = popR st fun a r => mK h a = 6 ∧ mP h a 13 ≠ 0 ∧ K (pc + len) b L (.ref (mP h a 13) :: r) h := id rfl
theorem pf5_37 {x : CX} {q : MS} {post : Option Value → MH → Prop} {xp : String → MH → Prop} {len pc : Nat} {b : Nat × Nat} {L st : List Value} {h : MH} {K : KT} {u a : Nat} {r : List Value} (hq : isIn q) : stepE x q 5 post xp (.putfield 37) len pc b L (.ref u :: .ref a :: r) h K = (mK h a = 6 ∧ u ≠ 0 ∧ K (pc + len) b L r (sP h a 13 u)) := propext ⟨fun z => ⟨z.1, z.2.2⟩, fun z => ⟨z.1, (fun _ => ⟨hq, rfl⟩), z.2⟩⟩
theorem gf5_40 {x : CX} {q : MS} {post : Option Value → MH → Prop} {xp : String → MH → Prop} {len pc : Nat} {b : Nat × Nat} {L st : List Value} {h : MH} {K : KT} : stepE x q 5 post xp (.getfield 40) len pc b L st h K = popR st fun a r => mK h a = 6 ∧ mP h a 14 ≠ 0 ∧ K (pc + len) b L (.ref (mP h a 14) :: r) h := id rfl
theorem pf5_40 {x : CX} {q : MS} {post : Option Value → MH → Prop} {xp : String → MH → Prop} {len pc : Nat} {b : Nat × Nat} {L st : List Value} {h : MH} {K : KT} {u a : Nat} {r : List Value} (hq : isIn q) : stepE x q 5 post xp (.putfield 40) len pc b L (.ref u :: .ref a :: r) h K = (mK h a = 6 ∧ u ≠ 0 ∧ K (pc + len) b L r (sP h a 14 u)) := propext ⟨fun z => ⟨z.1, z.2.2⟩, fun z => ⟨z.1, (fun _ => ⟨hq, rfl⟩), z.2⟩⟩
theorem gf5_43 {x : CX} {q : MS} {post : Option Value → MH → Prop} {xp : String → MH → Prop} {len pc : Nat} {b : Nat × Nat} {L st : List Value} {h : MH} {K : KT} : stepE x q 5 post xp (.getfield 43) len pc b L st h K = popR st fun a r => mK h a = 6 ∧ K (pc + len) b L (.int (mI h a 24) :: r) h := id rfl
theorem pf5_43 {x : CX} {q : MS} {post : Option Value → MH → Prop} {xp : String → MH → Prop} {len pc : Nat} {b : Nat × Nat} {L st : List Value} {h : MH} {K : KT} {u : Int32} {a : Nat} {r : List Value} : stepE x q 5 post xp (.putfield 43) len pc b L (.int u :: .ref a :: r) h K = (mK h a = 6 ∧ K (pc + len) b L r (sI h a 24 u)) := propext ⟨fun z => ⟨z.1, z.2.2.2⟩, fun z => ⟨z.1, (fun e => absurd e (by decide)), (fun e => by cases e), z.2⟩⟩
theorem gf5_59 {x : CX} {q : MS} {post : Option Value → MH → Prop} {xp : String → MH → Prop} {len pc : Nat} {b : Nat × Nat} {L st : List Value} {h : MH} {K : KT} : stepE x q 5 post xp (.getfield 59) len pc b L st h K = popR st fun a r => mK h a = 6 ∧ K (pc + len) b L (.int (mI h a 0) :: r) h := id rfl
theorem pf5_59 {x : CX} {q : MS} {post : Option Value → MH → Prop} {xp : String → MH → Prop} {len pc : Nat} {b : Nat × Nat} {L st : List Value} {h : MH} {K : KT} {u : Int32} {a : Nat} {r : List Value} : stepE x q 5 post xp (.putfield 59) len pc b L (.int u :: .ref a :: r) h K = (mK h a = 6 ∧ K (pc + len) b L r (sI h a 0 u)) := propext ⟨fun z => ⟨z.1, z.2.2.2⟩, fun z => ⟨z.1, (fun e => absurd e (by decide)), (fun e => by cases e), z.2⟩⟩
theorem gf5_62 {x : CX} {q : MS} {post : Option Value → MH → Prop} {xp : String → MH → Prop} {len pc : Nat} {b : Nat × Nat} {L st : List Value} {h : MH} {K : KT} : stepE x q 5 post xp (.getfield 62) len pc b L st h K = popR st fun a r => mK h a = 6 ∧ K (pc + len) b L (.int (mI h a 3) :: r) h := id rfl
theorem pf5_62 {x : CX} {q : MS} {post : Option Value → MH → Prop} {xp : String → MH → Prop} {len pc : Nat} {b : Nat × Nat} {L st : List Value} {h : MH} {K : KT} {u : Int32} {a : Nat} {r : List Value} : stepE x q 5 post xp (.putfield 62) len pc b L (.int u :: .ref a :: r) h K = (mK h a = 6 ∧ K (pc + len) b L r (sI h a 3 u)) := propext ⟨fun z => ⟨z.1, z.2.2.2⟩, fun z => ⟨z.1, (fun e => absurd e (by decide)), (fun e => by cases e), z.2⟩⟩
theorem gf5_109 {x : CX} {q : MS} {post : Option Value → MH → Prop} {xp : String → MH → Prop} {len pc : Nat} {b : Nat × Nat} {L st : List Value} {h : MH} {K : KT} : stepE x q 5 post xp (.getfield 109) len pc b L st h K = popR st fun a r => mK h a = 6 ∧ K (pc + len) b L (.int (mI h a 15) :: r) h := id rfl
theorem pf5_109 {x : CX} {q : MS} {post : Option Value → MH → Prop} {xp : String → MH → Prop} {len pc : Nat} {b : Nat × Nat} {L st : List Value} {h : MH} {K : KT} {u : Int32} {a : Nat} {r : List Value} : stepE x q 5 post xp (.putfield 109) len pc b L (.int u :: .ref a :: r) h K = (mK h a = 6 ∧ K (pc + len) b L r (sI h a 15 u)) := propext ⟨fun z => ⟨z.1, z.2.2.2⟩, fun z => ⟨z.1, (fun e => absurd e (by decide)), (fun e => by cases e), z.2⟩⟩
theorem gf5_124 {x : CX} {q : MS} {post : Option Value → MH → Prop} {xp : String → MH → Prop} {len pc : Nat} {b : Nat × Nat} {L st : List Value} {h : MH} {K : KT} : stepE x q 5 post xp (.getfield 124) len pc b L st h K = popR st fun a r => mK h a = 6 ∧ K (pc + len) b L (.int (mI h a 16) :: r) h := id rfl
theorem pf5_124 {x : CX} {q : MS} {post : Option Value → MH → Prop} {xp : String → MH → Prop} {len pc : Nat} {b : Nat × Nat} {L st : List Value} {h : MH} {K : KT} {u : Int32} {a : Nat} {r : List Value} : stepE x q 5 post xp (.putfield 124) len pc b L (.int u :: .ref a :: r) h K = (mK h a = 6 ∧ (u = 0 ∨ u = 1) ∧ K (pc + len) b L r (sI h a 16 u)) := propext ⟨fun z => ⟨z.1, z.2.2.1 rfl, z.2.2.2⟩, fun z => ⟨z.1, (fun e => absurd e (by decide)), fun _ => z.2.1, z.2.2⟩⟩
theorem gf5_165 {x : CX} {q : MS} {post : Option Value → MH → Prop} {xp : String → MH → Prop} {len pc : Nat} {b : Nat × Nat} {L st : List Value} {h : MH} {K : KT} : stepE x q 5 post xp (.getfield 165) len pc b L st h K = popR st fun a r => mK h a = 6 ∧ K (pc + len) b L (.int (mI h a 5) :: r) h := id rfl
theorem pf5_165 {x : CX} {q : MS} {post : Option Value → MH → Prop} {xp : String → MH → Prop} {len pc : Nat} {b : Nat × Nat} {L st : List Value} {h : MH} {K : KT} {u : Int32} {a : Nat} {r : List Value} : stepE x q 5 post xp (.putfield 165) len pc b L (.int u :: .ref a :: r) h K = (mK h a = 6 ∧ (u = 0 ∨ u = 1) ∧ K (pc + len) b L r (sI h a 5 u)) := propext ⟨fun z => ⟨z.1, z.2.2.1 rfl, z.2.2.2⟩, fun z => ⟨z.1, (fun e => absurd e (by decide)), fun _ => z.2.1, z.2.2⟩⟩
theorem gf5_171 {x : CX} {q : MS} {post : Option Value → MH → Prop} {xp : String → MH → Prop} {len pc : Nat} {b : Nat × Nat} {L st : List Value} {h : MH} {K : KT} : stepE x q 5 post xp (.getfield 171) len pc b L st h K = popR st fun a r => mK h a = 6 ∧ K (pc + len) b L (.int (mI h a 9) :: r) h := id rfl
theorem pf5_171 {x : CX} {q : MS} {post : Option Value → MH → Prop} {xp : String → MH → Prop} {len pc : Nat} {b : Nat × Nat} {L st : List Value} {h : MH} {K : KT} {u : Int32} {a : Nat} {r : List Value} : stepE x q 5 post xp (.putfield 171) len pc b L (.int u :: .ref a :: r) h K = (mK h a = 6 ∧ K (pc + len) b L r (sI h a 9 u)) := propext ⟨fun z => ⟨z.1, z.2.2.2⟩, fun z => ⟨z.1, (fun e => absurd e (by decide)), (fun e => by cases e), z.2⟩⟩
theorem gf5_174 {x : CX} {q : MS} {post : Option Value → MH → Prop} {xp : String → MH → Prop} {len pc : Nat} {b : Nat × Nat} {L st : List Value} {h : MH} {K : KT} : stepE x q 5 post xp (.getfield 174) len pc b L st h K = popR st fun a r => mK h a = 6 ∧ K (pc + len) b L (.int (mI h a 17) :: r) h := id rfl
theorem pf5_174 {x : CX} {q : MS} {post : Option Value → MH → Prop} {xp : String → MH → Prop} {len pc : Nat} {b : Nat × Nat} {L st : List Value} {h : MH} {K : KT} {u : Int32} {a : Nat} {r : List Value} : stepE x q 5 post xp (.putfield 174) len pc b L (.int u :: .ref a :: r) h K = (mK h a = 6 ∧ K (pc + len) b L r (sI h a 17 u)) := propext ⟨fun z => ⟨z.1, z.2.2.2⟩, fun z => ⟨z.1, (fun e => absurd e (by decide)), (fun e => by cases e), z.2⟩⟩
theorem gf5_177 {x : CX} {q : MS} {post : Option Value → MH → Prop} {xp : String → MH → Prop} {len pc : Nat} {b : Nat × Nat} {L st : List Value} {h : MH} {K : KT} : stepE x q 5 post xp (.getfield 177) len pc b L st h K = popR st fun a r => mK h a = 6 ∧ K (pc + len) b L (.int (mI h a 18) :: r) h := id rfl
theorem pf5_177 {x : CX} {q : MS} {post : Option Value → MH → Prop} {xp : String → MH → Prop} {len pc : Nat} {b : Nat × Nat} {L st : List Value} {h : MH} {K : KT} {u : Int32} {a : Nat} {r : List Value} : stepE x q 5 post xp (.putfield 177) len pc b L (.int u :: .ref a :: r) h K = (mK h a = 6 ∧ K (pc + len) b L r (sI h a 18 u)) := propext ⟨fun z => ⟨z.1, z.2.2.2⟩, fun z => ⟨z.1, (fun e => absurd e (by decide)), (fun e => by cases e), z.2⟩⟩
theorem gf5_180 {x : CX} {q : MS} {post : Option Value → MH → Prop} {xp : String → MH → Prop} {len pc : Nat} {b : Nat × Nat} {L st : List Value} {h : MH} {K : KT} : stepE x q 5 post xp (.getfield 180) len pc b L st h K = popR st fun a r => mK h a = 6 ∧ K (pc + len) b L (.int (mI h a 19) :: r) h := id rfl
theorem pf5_180 {x : CX} {q : MS} {post : Option Value → MH → Prop} {xp : String → MH → Prop} {len pc : Nat} {b : Nat × Nat} {L st : List Value} {h : MH} {K : KT} {u : Int32} {a : Nat} {r : List Value} : stepE x q 5 post xp (.putfield 180) len pc b L (.int u :: .ref a :: r) h K = (mK h a = 6 ∧ K (pc + len) b L r (sI h a 19 u)) := propext ⟨fun z => ⟨z.1, z.2.2.2⟩, fun z => ⟨z.1, (fun e => absurd e (by decide)), (fun e => by cases e), z.2⟩⟩
theorem gf5_189 {x : CX} {q : MS} {post : Option Value → MH → Prop} {xp : String → MH → Prop} {len pc : Nat} {b : Nat × Nat} {L st : List Value} {h : MH} {K : KT} : stepE x q 5 post xp (.getfield 189) len pc b L st h K = popR st fun a r => mK h a = 6 ∧ K (pc + len) b L (.int (mI h a 20) :: r) h := id rfl
theorem pf5_189 {x : CX} {q : MS} {post : Option Value → MH → Prop} {xp : String → MH → Prop} {len pc : Nat} {b : Nat × Nat} {L st : List Value} {h : MH} {K : KT} {u : Int32} {a : Nat} {r : List Value} : stepE x q 5 post xp (.putfield 189) len pc b L (.int u :: .ref a :: r) h K = (mK h a = 6 ∧ K (pc + len) b L r (sI h a 20 u)) := propext ⟨fun z => ⟨z.1, z.2.2.2⟩, fun z => ⟨z.1, (fun e => absurd e (by decide)), (fun e => by cases e), z.2⟩⟩
theorem gf5_192 {x : CX} {q : MS} {post : Option Value → MH → Prop} {xp : String → MH → Prop} {len pc : Nat} {b : Nat × Nat} {L st : List Value} {h : MH} {K : KT} : stepE x q 5 post xp (.getfield 192) len pc b L st h K = popR st fun a r => mK h a = 6 ∧ K (pc + len) b L (.int (mI h a 21) :: r) h := id rfl
theorem pf5_192 {x : CX} {q : MS} {post : Option Value → MH → Prop} {xp : String → MH → Prop} {len pc : Nat} {b : Nat × Nat} {L st : List Value} {h : MH} {K : KT} {u : Int32} {a : Nat} {r : List Value} : stepE x q 5 post xp (.putfield 192) len pc b L (.int u :: .ref a :: r) h K = (mK h a = 6 ∧ K (pc + len) b L r (sI h a 21 u)) := propext ⟨fun z => ⟨z.1, z.2.2.2⟩, fun z => ⟨z.1, (fun e => absurd e (by decide)), (fun e => by cases e), z.2⟩⟩
theorem gf5_204 {x : CX} {q : MS} {post : Option Value → MH → Prop} {xp : String → MH → Prop} {len pc : Nat} {b : Nat × Nat} {L st : List Value} {h : MH} {K : KT} : stepE x q 5 post xp (.getfield 204) len pc b L st h K = popR st fun a r => mK h a = 6 ∧ K (pc + len) b L (.int (mI h a 22) :: r) h := id rfl
theorem pf5_204 {x : CX} {q : MS} {post : Option Value → MH → Prop} {xp : String → MH → Prop} {len pc : Nat} {b : Nat × Nat} {L st : List Value} {h : MH} {K : KT} {u : Int32} {a : Nat} {r : List Value} : stepE x q 5 post xp (.putfield 204) len pc b L (.int u :: .ref a :: r) h K = (mK h a = 6 ∧ K (pc + len) b L r (sI h a 22 u)) := propext ⟨fun z => ⟨z.1, z.2.2.2⟩, fun z => ⟨z.1, (fun e => absurd e (by decide)), (fun e => by cases e), z.2⟩⟩
theorem gf5_238 {x : CX} {q : MS} {post : Option Value → MH → Prop} {xp : String → MH → Prop} {len pc : Nat} {b : Nat × Nat} {L st : List Value} {h : MH} {K : KT} : stepE x q 5 post xp (.getfield 238) len pc b L st h K = popR st fun a r => mK h a = 6 ∧ K (pc + len) b L (.int (mI h a 23) :: r) h := id rfl
theorem pf5_238 {x : CX} {q : MS} {post : Option Value → MH → Prop} {xp : String → MH → Prop} {len pc : Nat} {b : Nat × Nat} {L st : List Value} {h : MH} {K : KT} {u : Int32} {a : Nat} {r : List Value} : stepE x q 5 post xp (.putfield 238) len pc b L (.int u :: .ref a :: r) h K = (mK h a = 6 ∧ K (pc + len) b L r (sI h a 23 u)) := propext ⟨fun z => ⟨z.1, z.2.2.2⟩, fun z => ⟨z.1, (fun e => absurd e (by decide)), (fun e => by cases e), z.2⟩⟩
theorem gf5_307 {x : CX} {q : MS} {post : Option Value → MH → Prop} {xp : String → MH → Prop} {len pc : Nat} {b : Nat × Nat} {L st : List Value} {h : MH} {K : KT} : stepE x q 5 post xp (.getfield 307) len pc b L st h K = popR st fun a r => mK h a = 6 ∧ K (pc + len) b L (.int (mI h a 11) :: r) h := id rfl
theorem pf5_307 {x : CX} {q : MS} {post : Option Value → MH → Prop} {xp : String → MH → Prop} {len pc : Nat} {b : Nat × Nat} {L st : List Value} {h : MH} {K : KT} {u : Int32} {a : Nat} {r : List Value} : stepE x q 5 post xp (.putfield 307) len pc b L (.int u :: .ref a :: r) h K = (mK h a = 6 ∧ K (pc + len) b L r (sI h a 11 u)) := propext ⟨fun z => ⟨z.1, z.2.2.2⟩, fun z => ⟨z.1, (fun e => absurd e (by decide)), (fun e => by cases e), z.2⟩⟩
theorem iv5_47 {x : CX} {q : MS} {post : Option Value → MH → Prop} {xp : String → MH → Prop} {len pc : Nat} {b : Nat × Nat} {L st : List Value} {h : MH} {K : KT} {v0 v1 : Value} {a : Nat} {r : List Value} : stepE x q 5 post xp (.invokevirtual 47) len pc b L (v1 :: v0 :: .ref a :: r) h K = (rcvE x h a 5 ∧ callE x q sX5_start [.ref a, v0, v1] r h xp b (fun b' st' h' => K (pc + len) b' L st' h')) := propext ⟨fun z => ⟨z.1, z.2.2⟩, fun z => ⟨z.1, in_X5_start, z.2⟩⟩
theorem iv5_51 {x : CX} {q : MS} {post : Option Value → MH → Prop} {xp : String → MH → Prop} {len pc : Nat} {b : Nat × Nat} {L st : List Value} {h : MH} {K : KT} {v0 v1 v2 v3 : Value} {a : Nat} {r : List Value} : stepE x q 5 post xp (.invokevirtual 51) len pc b L (v3 :: v2 :: v1 :: v0 :: .ref a :: r) h K = (rcvE x h a 5 ∧ callE x q sX5_put [.ref a, v0, v1, v2, v3] r h xp b (fun b' st' h' => K (pc + len) b' L st' h')) := propext ⟨fun z => ⟨z.1, z.2.2⟩, fun z => ⟨z.1, in_X5_put, z.2⟩⟩
theorem iv5_55 {x : CX} {q : MS} {post : Option Value → MH → Prop} {xp : String → MH → Prop} {len pc : Nat} {b : Nat × Nat} {L st : List Value} {h : MH} {K : KT} {v0 : Value} {a : Nat} {r : List Value} : stepE x q 5 post xp (.invokevirtual 55) len pc b L (v0 :: .ref a :: r) h K = (rcvE x h a 5 ∧ callE x q sX5_fireIt [.ref a, v0] r h xp b (fun b' st' h' => K (pc + len) b' L st' h')) := propext ⟨fun z => ⟨z.1, z.2.2⟩, fun z => ⟨z.1, in_X5_fireIt, z.2⟩⟩
theorem iv5_65 {x : CX} {q : MS} {post : Option Value → MH → Prop} {xp : String → MH → Prop} {len pc : Nat} {b : Nat × Nat} {L st : List Value} {h : MH} {K : KT} {v0 v1 : Value} {r : List Value} : stepE x q 5 post xp (.invokestatic 65) len pc b L (v1 :: v0 :: r) h K = callE x q sX5_copy [v0, v1] r h xp b (fun b' st' h' => K (pc + len) b' L st' h') := propext ⟨fun z => z.2, fun z => ⟨rfl, z⟩⟩
theorem iv5_69 {x : CX} {q : MS} {post : Option Value → MH → Prop} {xp : String → MH → Prop} {len pc : Nat} {b : Nat × Nat} {L st : List Value} {h : MH} {K : KT} {v0 v1 v2 v3 : Value} {a : Nat} {r : List Value} : stepE x q 5 post xp (.invokevirtual 69) len pc b L (v3 :: v2 :: v1 :: v0 :: .ref a :: r) h K = (rcvE x h a 5 ∧ callE x q sX5_outside [.ref a, v0, v1, v2, v3] r h xp b (fun b' st' h' => K (pc + len) b' L st' h')) := propext ⟨fun z => ⟨z.1, z.2.2⟩, fun z => ⟨z.1, in_X5_outside, z.2⟩⟩
theorem iv5_73 {x : CX} {q : MS} {post : Option Value → MH → Prop} {xp : String → MH → Prop} {len pc : Nat} {b : Nat × Nat} {L st : List Value} {h : MH} {K : KT} {v0 v1 v2 : Value} {a : Nat} {r : List Value} : stepE x q 5 post xp (.invokevirtual 73) len pc b L (v2 :: v1 :: v0 :: .ref a :: r) h K = (rcvE x h a 5 ∧ callE x q sX5_arc [.ref a, v0, v1, v2] r h xp b (fun b' st' h' => K (pc + len) b' L st' h')) := propext ⟨fun z => ⟨z.1, z.2.2⟩, fun z => ⟨z.1, in_X5_arc, z.2⟩⟩
theorem iv5_77 {x : CX} {q : MS} {post : Option Value → MH → Prop} {xp : String → MH → Prop} {len pc : Nat} {b : Nat × Nat} {L st : List Value} {h : MH} {K : KT} {v0 : Value} {a : Nat} {r : List Value} : stepE x q 5 post xp (.invokevirtual 77) len pc b L (v0 :: .ref a :: r) h K = (rcvE x h a 5 ∧ callE x q sX5_tokensOf [.ref a, v0] r h xp b (fun b' st' h' => K (pc + len) b' L st' h')) := propext ⟨fun z => ⟨z.1, z.2.2⟩, fun z => ⟨z.1, in_X5_tokensOf, z.2⟩⟩
theorem iv5_81 {x : CX} {q : MS} {post : Option Value → MH → Prop} {xp : String → MH → Prop} {len pc : Nat} {b : Nat × Nat} {L st : List Value} {h : MH} {K : KT} {v0 v1 : Value} {a : Nat} {r : List Value} : stepE x q 5 post xp (.invokevirtual 81) len pc b L (v1 :: v0 :: .ref a :: r) h K = (rcvE x h a 5 ∧ callE x q sX5_effectOf [.ref a, v0, v1] r h xp b (fun b' st' h' => K (pc + len) b' L st' h')) := propext ⟨fun z => ⟨z.1, z.2.2⟩, fun z => ⟨z.1, in_X5_effectOf, z.2⟩⟩
theorem iv5_85 {x : CX} {q : MS} {post : Option Value → MH → Prop} {xp : String → MH → Prop} {len pc : Nat} {b : Nat × Nat} {L st : List Value} {h : MH} {K : KT} {v0 : Value} {a : Nat} {r : List Value} : stepE x q 5 post xp (.invokevirtual 85) len pc b L (v0 :: .ref a :: r) h K = (rcvE x h a 5 ∧ callE x q sX5_capacityOf [.ref a, v0] r h xp b (fun b' st' h' => K (pc + len) b' L st' h')) := propext ⟨fun z => ⟨z.1, z.2.2⟩, fun z => ⟨z.1, in_X5_capacityOf, z.2⟩⟩
theorem iv5_88 {x : CX} {q : MS} {post : Option Value → MH → Prop} {xp : String → MH → Prop} {len pc : Nat} {b : Nat × Nat} {L st : List Value} {h : MH} {K : KT} {v0 v1 v2 : Value} {a : Nat} {r : List Value} : stepE x q 5 post xp (.invokevirtual 88) len pc b L (v2 :: v1 :: v0 :: .ref a :: r) h K = (rcvE x h a 5 ∧ callE x q sX5_applies [.ref a, v0, v1, v2] r h xp b (fun b' st' h' => K (pc + len) b' L st' h')) := propext ⟨fun z => ⟨z.1, z.2.2⟩, fun z => ⟨z.1, in_X5_applies, z.2⟩⟩
theorem iv5_92 {x : CX} {q : MS} {post : Option Value → MH → Prop} {xp : String → MH → Prop} {len pc : Nat} {b : Nat × Nat} {L st : List Value} {h : MH} {K : KT} {v0 v1 : Value} {a : Nat} {r : List Value} : stepE x q 5 post xp (.invokevirtual 92) len pc b L (v1 :: v0 :: .ref a :: r) h K = (rcvE x h a 5 ∧ callE x q sX5_firstPlace [.ref a, v0, v1] r h xp b (fun b' st' h' => K (pc + len) b' L st' h')) := propext ⟨fun z => ⟨z.1, z.2.2⟩, fun z => ⟨z.1, in_X5_firstPlace, z.2⟩⟩
theorem iv5_95 {x : CX} {q : MS} {post : Option Value → MH → Prop} {xp : String → MH → Prop} {len pc : Nat} {b : Nat × Nat} {L st : List Value} {h : MH} {K : KT} {v0 : Value} {a : Nat} {r : List Value} : stepE x q 5 post xp (.invokevirtual 95) len pc b L (v0 :: .ref a :: r) h K = (rcvE x h a 5 ∧ callE x q sX5_reasonOf [.ref a, v0] r h xp b (fun b' st' h' => K (pc + len) b' L st' h')) := propext ⟨fun z => ⟨z.1, z.2.2⟩, fun z => ⟨z.1, in_X5_reasonOf, z.2⟩⟩
theorem iv5_98 {x : CX} {q : MS} {post : Option Value → MH → Prop} {xp : String → MH → Prop} {len pc : Nat} {b : Nat × Nat} {L st : List Value} {h : MH} {K : KT} {v0 : Value} {a : Nat} {r : List Value} : stepE x q 5 post xp (.invokevirtual 98) len pc b L (v0 :: .ref a :: r) h K = (rcvE x h a 5 ∧ callE x q sX5_enabled [.ref a, v0] r h xp b (fun b' st' h' => K (pc + len) b' L st' h')) := propext ⟨fun z => ⟨z.1, z.2.2⟩, fun z => ⟨z.1, in_X5_enabled, z.2⟩⟩
theorem iv5_102 {x : CX} {q : MS} {post : Option Value → MH → Prop} {xp : String → MH → Prop} {len pc : Nat} {b : Nat × Nat} {L st : List Value} {h : MH} {K : KT} {v0 : Value} {a : Nat} {r : List Value} : stepE x q 5 post xp (.invokevirtual 102) len pc b L (v0 :: .ref a :: r) h K = (rcvE x h a 5 ∧ callE x q sX5_move [.ref a, v0] r h xp b (fun b' st' h' => K (pc + len) b' L st' h')) := propext ⟨fun z => ⟨z.1, z.2.2⟩, fun z => ⟨z.1, in_X5_move, z.2⟩⟩
theorem iv5_105 {x : CX} {q : MS} {post : Option Value → MH → Prop} {xp : String → MH → Prop} {len pc : Nat} {b : Nat × Nat} {L st : List Value} {h : MH} {K : KT} {a : Nat} {r : List Value} : stepE x q 5 post xp (.invokevirtual 105) len pc b L (.ref a :: r) h K = (rcvE x h a 5 ∧ callE x q sX5_nextFired [.ref a] r h xp b (fun b' st' h' => K (pc + len) b' L st' h')) := propext ⟨fun z => ⟨z.1, z.2.2⟩, fun z => ⟨z.1, in_X5_nextFired, z.2⟩⟩
theorem iv5_112 {x : CX} {q : MS} {post : Option Value → MH → Prop} {xp : String → MH → Prop} {len pc : Nat} {b : Nat × Nat} {L st : List Value} {h : MH} {K : KT} {v0 : Value} {a : Nat} {r : List Value} : stepE x q 5 post xp (.invokevirtual 112) len pc b L (v0 :: .ref a :: r) h K = (rcvE x h a 5 ∧ callE x q sX5_isMarking [.ref a, v0] r h xp b (fun b' st' h' => K (pc + len) b' L st' h')) := propext ⟨fun z => ⟨z.1, z.2.2⟩, fun z => ⟨z.1, in_X5_isMarking, z.2⟩⟩
theorem iv5_115 {x : CX} {q : MS} {post : Option Value → MH → Prop} {xp : String → MH → Prop} {len pc : Nat} {b : Nat × Nat} {L st : List Value} {h : MH} {K : KT} {v0 : Value} {a : Nat} {r : List Value} : stepE x q 5 post xp (.invokevirtual 115) len pc b L (v0 :: .ref a :: r) h K = (rcvE x h a 5 ∧ callE x q sX5_take [.ref a, v0] r h xp b (fun b' st' h' => K (pc + len) b' L st' h')) := propext ⟨fun z => ⟨z.1, z.2.2⟩, fun z => ⟨z.1, in_X5_take, z.2⟩⟩
theorem iv5_118 {x : CX} {q : MS} {post : Option Value → MH → Prop} {xp : String → MH → Prop} {len pc : Nat} {b : Nat × Nat} {L st : List Value} {h : MH} {K : KT} {a : Nat} {r : List Value} : stepE x q 5 post xp (.invokevirtual 118) len pc b L (.ref a :: r) h K = (rcvE x h a 5 ∧ callE x q sX5_known [.ref a] r h xp b (fun b' st' h' => K (pc + len) b' L st' h')) := propext ⟨fun z => ⟨z.1, z.2.2⟩, fun z => ⟨z.1, in_X5_known, z.2⟩⟩
theorem iv5_121 {x : CX} {q : MS} {post : Option Value → MH → Prop} {xp : String → MH → Prop} {len pc : Nat} {b : Nat × Nat} {L st : List Value} {h : MH} {K : KT} {v0 : Value} {a : Nat} {r : List Value} : stepE x q 5 post xp (.invokevirtual 121) len pc b L (v0 :: .ref a :: r) h K = (rcvE x h a 5 ∧ callE x q sX5_note [.ref a, v0] r h xp b (fun b' st' h' => K (pc + len) b' L st' h')) := propext ⟨fun z => ⟨z.1, z.2.2⟩, fun z => ⟨z.1, in_X5_note, z.2⟩⟩
theorem iv5_128 {x : CX} {q : MS} {post : Option Value → MH → Prop} {xp : String → MH → Prop} {len pc : Nat} {b : Nat × Nat} {L st : List Value} {h : MH} {K : KT} {v0 v1 : Value} {a : Nat} {r : List Value} : stepE x q 5 post xp (.invokevirtual 128) len pc b L (v1 :: v0 :: .ref a :: r) h K = (rcvE x h a 5 ∧ callE x q sX5_follow [.ref a, v0, v1] r h xp b (fun b' st' h' => K (pc + len) b' L st' h')) := propext ⟨fun z => ⟨z.1, z.2.2⟩, fun z => ⟨z.1, in_X5_follow, z.2⟩⟩
theorem iv5_131 {x : CX} {q : MS} {post : Option Value → MH → Prop} {xp : String → MH → Prop} {len pc : Nat} {b : Nat × Nat} {L st : List Value} {h : MH} {K : KT} {v0 : Value} {a : Nat} {r : List Value} : stepE x q 5 post xp (.invokevirtual 131) len pc b L (v0 :: .ref a :: r) h K = (rcvE x h a 5 ∧ callE x q sX5_noPlace [.ref a, v0] r h xp b (fun b' st' h' => K (pc + len) b' L st' h')) := propext ⟨fun z => ⟨z.1, z.2.2⟩, fun z => ⟨z.1, in_X5_noPlace, z.2⟩⟩
theorem iv5_134 {x : CX} {q : MS} {post : Option Value → MH → Prop} {xp : String → MH → Prop} {len pc : Nat} {b : Nat × Nat} {L st : List Value} {h : MH} {K : KT} {v0 : Value} {a : Nat} {r : List Value} : stepE x q 5 post xp (.invokevirtual 134) len pc b L (v0 :: .ref a :: r) h K = (rcvE x h a 5 ∧ callE x q sX5_remember [.ref a, v0] r h xp b (fun b' st' h' => K (pc + len) b' L st' h')) := propext ⟨fun z => ⟨z.1, z.2.2⟩, fun z => ⟨z.1, in_X5_remember, z.2⟩⟩
theorem iv5_138 {x : CX} {q : MS} {post : Option Value → MH → Prop} {xp : String → MH → Prop} {len pc : Nat} {b : Nat × Nat} {L st : List Value} {h : MH} {K : KT} {v0 v1 : Value} {a : Nat} {r : List Value} : stepE x q 5 post xp (.invokevirtual 138) len pc b L (v1 :: v0 :: .ref a :: r) h K = (rcvE x h a 5 ∧ callE x q sX5_raise [.ref a, v0, v1] r h xp b (fun b' st' h' => K (pc + len) b' L st' h')) := propext ⟨fun z => ⟨z.1, z.2.2⟩, fun z => ⟨z.1, in_X5_raise, z.2⟩⟩
theorem iv5_142 {x : CX} {q : MS} {post : Option Value → MH → Prop} {xp : String → MH → Prop} {len pc : Nat} {b : Nat × Nat} {L st : List Value} {h : MH} {K : KT} {v0 : Value} {a : Nat} {r : List Value} : stepE x q 5 post xp (.invokevirtual 142) len pc b L (v0 :: .ref a :: r) h K = (rcvE x h a 5 ∧ callE x q sX5_noTransition [.ref a, v0] r h xp b (fun b' st' h' => K (pc + len) b' L st' h')) := propext ⟨fun z => ⟨z.1, z.2.2⟩, fun z => ⟨z.1, in_X5_noTransition, z.2⟩⟩
theorem iv5_145 {x : CX} {q : MS} {post : Option Value → MH → Prop} {xp : String → MH → Prop} {len pc : Nat} {b : Nat × Nat} {L st : List Value} {h : MH} {K : KT} {v0 v1 v2 v3 : Value} {a : Nat} {r : List Value} : stepE x q 5 post xp (.invokevirtual 145) len pc b L (v3 :: v2 :: v1 :: v0 :: .ref a :: r) h K = (rcvE x h a 5 ∧ callE x q sX5_setArc [.ref a, v0, v1, v2, v3] r h xp b (fun b' st' h' => K (pc + len) b' L st' h')) := propext ⟨fun z => ⟨z.1, z.2.2⟩, fun z => ⟨z.1, in_X5_setArc, z.2⟩⟩
theorem iv5_149 {x : CX} {q : MS} {post : Option Value → MH → Prop} {xp : String → MH → Prop} {len pc : Nat} {b : Nat × Nat} {L st : List Value} {h : MH} {K : KT} {v0 : Value} {a : Nat} {r : List Value} : stepE x q 5 post xp (.invokevirtual 149) len pc b L (v0 :: .ref a :: r) h K = (rcvE x h a 5 ∧ callE x q sX5_runIt [.ref a, v0] r h xp b (fun b' st' h' => K (pc + len) b' L st' h')) := propext ⟨fun z => ⟨z.1, z.2.2⟩, fun z => ⟨z.1, in_X5_runIt, z.2⟩⟩
theorem iv5_152 {x : CX} {q : MS} {post : Option Value → MH → Prop} {xp : String → MH → Prop} {len pc : Nat} {b : Nat × Nat} {L st : List Value} {h : MH} {K : KT} {a : Nat} {r : List Value} : stepE x q 5 post xp (.invokevirtual 152) len pc b L (.ref a :: r) h K = (rcvE x h a 5 ∧ callE x q sX5_explore [.ref a] r h xp b (fun b' st' h' => K (pc + len) b' L st' h')) := propext ⟨fun z => ⟨z.1, z.2.2⟩, fun z => ⟨z.1, in_X5_explore, z.2⟩⟩
theorem iv5_155 {x : CX} {q : MS} {post : Option Value → MH → Prop} {xp : String → MH → Prop} {len pc : Nat} {b : Nat × Nat} {L st : List Value} {h : MH} {K : KT} {v0 v1 : Value} {a : Nat} {r : List Value} : stepE x q 5 post xp (.invokevirtual 155) len pc b L (v1 :: v0 :: .ref a :: r) h K = (rcvE x h a 5 ∧ callE x q sX5_noMarking [.ref a, v0, v1] r h xp b (fun b' st' h' => K (pc + len) b' L st' h')) := propext ⟨fun z => ⟨z.1, z.2.2⟩, fun z => ⟨z.1, in_X5_noMarking, z.2⟩⟩
theorem iv5_159 {x : CX} {q : MS} {post : Option Value → MH → Prop} {xp : String → MH → Prop} {len pc : Nat} {b : Nat × Nat} {L st : List Value} {h : MH} {K : KT} {a : Nat} {r : List Value} : stepE x q 5 post xp (.invokevirtual 159) len pc b L (.ref a :: r) h K = (rcvE x h a 5 ∧ callE x q sX5_enabledSet [.ref a] r h xp b (fun b' st' h' => K (pc + len) b' L st' h')) := propext ⟨fun z => ⟨z.1, z.2.2⟩, fun z => ⟨z.1, in_X5_enabledSet, z.2⟩⟩
theorem iv5_162 {x : CX} {q : MS} {post : Option Value → MH → Prop} {xp : String → MH → Prop} {len pc : Nat} {b : Nat × Nat} {L st : List Value} {h : MH} {K : KT} {v0 : Value} {r : List Value} : stepE x q 5 post xp (.invokestatic 162) len pc b L (v0 :: r) h K = callE x q sX5_ones [v0] r h xp b (fun b' st' h' => K (pc + len) b' L st' h') := propext ⟨fun z => z.2, fun z => ⟨rfl, z⟩⟩
theorem iv5_168 {x : CX} {q : MS} {post : Option Value → MH → Prop} {xp : String → MH → Prop} {len pc : Nat} {b : Nat × Nat} {L st : List Value} {h : MH} {K : KT} {a : Nat} {r : List Value} : stepE x q 5 post xp (.invokevirtual 168) len pc b L (.ref a :: r) h K = (rcvE x h a 5 ∧ callE x q sX5_allTokens [.ref a] r h xp b (fun b' st' h' => K (pc + len) b' L st' h')) := propext ⟨fun z => ⟨z.1, z.2.2⟩, fun z => ⟨z.1, in_X5_allTokens, z.2⟩⟩
theorem iv5_183 {x : CX} {q : MS} {post : Option Value → MH → Prop} {xp : String → MH → Prop} {len pc : Nat} {b : Nat × Nat} {L st : List Value} {h : MH} {K : KT} {v0 : Value} {a : Nat} {r : List Value} : stepE x q 5 post xp (.invokevirtual 183) len pc b L (v0 :: .ref a :: r) h K = (rcvE x h a 5 ∧ callE x q sX5_letterAt [.ref a, v0] r h xp b (fun b' st' h' => K (pc + len) b' L st' h')) := propext ⟨fun z => ⟨z.1, z.2.2⟩, fun z => ⟨z.1, in_X5_letterAt, z.2⟩⟩
theorem iv5_186 {x : CX} {q : MS} {post : Option Value → MH → Prop} {xp : String → MH → Prop} {len pc : Nat} {b : Nat × Nat} {L st : List Value} {h : MH} {K : KT} {v0 : Value} {a : Nat} {r : List Value} : stepE x q 5 post xp (.invokevirtual 186) len pc b L (v0 :: .ref a :: r) h K = (rcvE x h a 5 ∧ callE x q sX5_digitAt [.ref a, v0] r h xp b (fun b' st' h' => K (pc + len) b' L st' h')) := propext ⟨fun z => ⟨z.1, z.2.2⟩, fun z => ⟨z.1, in_X5_digitAt, z.2⟩⟩
theorem iv5_195 {x : CX} {q : MS} {post : Option Value → MH → Prop} {xp : String → MH → Prop} {len pc : Nat} {b : Nat × Nat} {L st : List Value} {h : MH} {K : KT} {a : Nat} {r : List Value} : stepE x q 5 post xp (.invokevirtual 195) len pc b L (.ref a :: r) h K = (rcvE x h a 8 ∧ callE x q sJ0_length_8abf5 [.ref a] r h xp b (fun b' st' h' => K (pc + len) b' L st' h')) := propext ⟨fun z => ⟨z.1, z.2.2⟩, fun z => ⟨z.1, in_J0_length_8abf5, z.2⟩⟩
theorem iv5_200 {x : CX} {q : MS} {post : Option Value → MH → Prop} {xp : String → MH → Prop} {len pc : Nat} {b : Nat × Nat} {L st : List Value} {h : MH} {K : KT} {v0 : Value} {a : Nat} {r : List Value} : stepE x q 5 post xp (.invokevirtual 200) len pc b L (v0 :: .ref a :: r) h K = (rcvE x h a 8 ∧ callE x q sJ0_charAt_5068e [.ref a, v0] r h xp b (fun b' st' h' => K (pc + len) b' L st' h')) := propext ⟨fun z => ⟨z.1, z.2.2⟩, fun z => ⟨z.1, in_J0_charAt_5068e, z.2⟩⟩
theorem iv5_207 {x : CX} {q : MS} {post : Option Value → MH → Prop} {xp : String → MH → Prop} {len pc : Nat} {b : Nat × Nat} {L st : List Value} {h : MH} {K : KT} {a : Nat} {r : List Value} : stepE x q 5 post xp (.invokevirtual 207) len pc b L (.ref a :: r) h K = (rcvE x h a 5 ∧ callE x q sX5_good [.ref a] r h xp b (fun b' st' h' => K (pc + len) b' L st' h')) := propext ⟨fun z => ⟨z.1, z.2.2⟩, fun z => ⟨z.1, in_X5_good, z.2⟩⟩
theorem iv5_211 {x : CX} {q : MS} {post : Option Value → MH → Prop} {xp : String → MH → Prop} {len pc : Nat} {b : Nat × Nat} {L st : List Value} {h : MH} {K : KT} {a : Nat} {r : List Value} : stepE x q 5 post xp (.invokevirtual 211) len pc b L (.ref a :: r) h K = (rcvE x h a 5 ∧ callE x q sX5_scan [.ref a] r h xp b (fun b' st' h' => K (pc + len) b' L st' h')) := propext ⟨fun z => ⟨z.1, z.2.2⟩, fun z => ⟨z.1, in_X5_scan, z.2⟩⟩
theorem iv5_214 {x : CX} {q : MS} {post : Option Value → MH → Prop} {xp : String → MH → Prop} {len pc : Nat} {b : Nat × Nat} {L st : List Value} {h : MH} {K : KT} {v0 : Value} {a : Nat} {r : List Value} : stepE x q 5 post xp (.invokevirtual 214) len pc b L (v0 :: .ref a :: r) h K = (rcvE x h a 5 ∧ callE x q sX5_fail [.ref a, v0] r h xp b (fun b' st' h' => K (pc + len) b' L st' h')) := propext ⟨fun z => ⟨z.1, z.2.2⟩, fun z => ⟨z.1, in_X5_fail, z.2⟩⟩
theorem iv5_217 {x : CX} {q : MS} {post : Option Value → MH → Prop} {xp : String → MH → Prop} {len pc : Nat} {b : Nat × Nat} {L st : List Value} {h : MH} {K : KT} {v0 v1 : Value} {a : Nat} {r : List Value} : stepE x q 5 post xp (.invokevirtual 217) len pc b L (v1 :: v0 :: .ref a :: r) h K = (rcvE x h a 5 ∧ callE x q sX5_numberHere [.ref a, v0, v1] r h xp b (fun b' st' h' => K (pc + len) b' L st' h')) := propext ⟨fun z => ⟨z.1, z.2.2⟩, fun z => ⟨z.1, in_X5_numberHere, z.2⟩⟩
theorem iv5_220 {x : CX} {q : MS} {post : Option Value → MH → Prop} {xp : String → MH → Prop} {len pc : Nat} {b : Nat × Nat} {L st : List Value} {h : MH} {K : KT} {a : Nat} {r : List Value} : stepE x q 5 post xp (.invokevirtual 220) len pc b L (.ref a :: r) h K = (rcvE x h a 5 ∧ callE x q sX5_advance [.ref a] r h xp b (fun b' st' h' => K (pc + len) b' L st' h')) := propext ⟨fun z => ⟨z.1, z.2.2⟩, fun z => ⟨z.1, in_X5_advance, z.2⟩⟩
theorem iv5_223 {x : CX} {q : MS} {post : Option Value → MH → Prop} {xp : String → MH → Prop} {len pc : Nat} {b : Nat × Nat} {L st : List Value} {h : MH} {K : KT} {v0 v1 : Value} {a : Nat} {r : List Value} : stepE x q 5 post xp (.invokevirtual 223) len pc b L (v1 :: v0 :: .ref a :: r) h K = (rcvE x h a 5 ∧ callE x q sX5_number [.ref a, v0, v1] r h xp b (fun b' st' h' => K (pc + len) b' L st' h')) := propext ⟨fun z => ⟨z.1, z.2.2⟩, fun z => ⟨z.1, in_X5_number, z.2⟩⟩
theorem iv5_228 {x : CX} {q : MS} {post : Option Value → MH → Prop} {xp : String → MH → Prop} {len pc : Nat} {b : Nat × Nat} {L st : List Value} {h : MH} {K : KT} {v0 : Value} {a : Nat} {r : List Value} : stepE x q 5 post xp (.invokevirtual 228) len pc b L (v0 :: .ref a :: r) h K = (rcvE x h a 5 ∧ callE x q sX5_isWord [.ref a, v0] r h xp b (fun b' st' h' => K (pc + len) b' L st' h')) := propext ⟨fun z => ⟨z.1, z.2.2⟩, fun z => ⟨z.1, in_X5_isWord, z.2⟩⟩
theorem iv5_232 {x : CX} {q : MS} {post : Option Value → MH → Prop} {xp : String → MH → Prop} {len pc : Nat} {b : Nat × Nat} {L st : List Value} {h : MH} {K : KT} {a : Nat} {r : List Value} : stepE x q 5 post xp (.invokevirtual 232) len pc b L (.ref a :: r) h K = (rcvE x h a 5 ∧ callE x q sX5_ends [.ref a] r h xp b (fun b' st' h' => K (pc + len) b' L st' h')) := propext ⟨fun z => ⟨z.1, z.2.2⟩, fun z => ⟨z.1, in_X5_ends, z.2⟩⟩
theorem iv5_235 {x : CX} {q : MS} {post : Option Value → MH → Prop} {xp : String → MH → Prop} {len pc : Nat} {b : Nat × Nat} {L st : List Value} {h : MH} {K : KT} {a : Nat} {r : List Value} : stepE x q 5 post xp (.invokevirtual 235) len pc b L (.ref a :: r) h K = (rcvE x h a 5 ∧ callE x q sX5_command [.ref a] r h xp b (fun b' st' h' => K (pc + len) b' L st' h')) := propext ⟨fun z => ⟨z.1, z.2.2⟩, fun z => ⟨z.1, in_X5_command, z.2⟩⟩
theorem iv5_243 {x : CX} {q : MS} {post : Option Value → MH → Prop} {xp : String → MH → Prop} {len pc : Nat} {b : Nat × Nat} {L st : List Value} {h : MH} {K : KT} {a : Nat} {r : List Value} : stepE x q 5 post xp (.invokevirtual 243) len pc b L (.ref a :: r) h K = (rcvE x h a 5 ∧ callE x q sX5_aPlace [.ref a] r h xp b (fun b' st' h' => K (pc + len) b' L st' h')) := propext ⟨fun z => ⟨z.1, z.2.2⟩, fun z => ⟨z.1, in_X5_aPlace, z.2⟩⟩
theorem iv5_250 {x : CX} {q : MS} {post : Option Value → MH → Prop} {xp : String → MH → Prop} {len pc : Nat} {b : Nat × Nat} {L st : List Value} {h : MH} {K : KT} {a : Nat} {r : List Value} : stepE x q 5 post xp (.invokevirtual 250) len pc b L (.ref a :: r) h K = (rcvE x h a 5 ∧ callE x q sX5_aTransition [.ref a] r h xp b (fun b' st' h' => K (pc + len) b' L st' h')) := propext ⟨fun z => ⟨z.1, z.2.2⟩, fun z => ⟨z.1, in_X5_aTransition, z.2⟩⟩
theorem iv5_253 {x : CX} {q : MS} {post : Option Value → MH → Prop} {xp : String → MH → Prop} {len pc : Nat} {b : Nat × Nat} {L st : List Value} {h : MH} {K : KT} {v0 v1 v2 : Value} {a : Nat} {r : List Value} : stepE x q 5 post xp (.invokevirtual 253) len pc b L (v2 :: v1 :: v0 :: .ref a :: r) h K = (rcvE x h a 5 ∧ callE x q sX5_arcCommand [.ref a, v0, v1, v2] r h xp b (fun b' st' h' => K (pc + len) b' L st' h')) := propext ⟨fun z => ⟨z.1, z.2.2⟩, fun z => ⟨z.1, in_X5_arcCommand, z.2⟩⟩
theorem iv5_259 {x : CX} {q : MS} {post : Option Value → MH → Prop} {xp : String → MH → Prop} {len pc : Nat} {b : Nat × Nat} {L st : List Value} {h : MH} {K : KT} {v0 : Value} {a : Nat} {r : List Value} : stepE x q 5 post xp (.invokevirtual 259) len pc b L (v0 :: .ref a :: r) h K = (rcvE x h a 5 ∧ callE x q sX5_placedArc [.ref a, v0] r h xp b (fun b' st' h' => K (pc + len) b' L st' h')) := propext ⟨fun z => ⟨z.1, z.2.2⟩, fun z => ⟨z.1, in_X5_placedArc, z.2⟩⟩
theorem iv5_264 {x : CX} {q : MS} {post : Option Value → MH → Prop} {xp : String → MH → Prop} {len pc : Nat} {b : Nat × Nat} {L st : List Value} {h : MH} {K : KT} {a : Nat} {r : List Value} : stepE x q 5 post xp (.invokevirtual 264) len pc b L (.ref a :: r) h K = (rcvE x h a 5 ∧ callE x q sX5_firingCommand [.ref a] r h xp b (fun b' st' h' => K (pc + len) b' L st' h')) := propext ⟨fun z => ⟨z.1, z.2.2⟩, fun z => ⟨z.1, in_X5_firingCommand, z.2⟩⟩
theorem iv5_271 {x : CX} {q : MS} {post : Option Value → MH → Prop} {xp : String → MH → Prop} {len pc : Nat} {b : Nat × Nat} {L st : List Value} {h : MH} {K : KT} {v0 : Value} {a : Nat} {r : List Value} : stepE x q 5 post xp (.invokevirtual 271) len pc b L (v0 :: .ref a :: r) h K = (rcvE x h a 5 ∧ callE x q sX5_type [.ref a, v0] r h xp b (fun b' st' h' => K (pc + len) b' L st' h')) := propext ⟨fun z => ⟨z.1, z.2.2⟩, fun z => ⟨z.1, in_X5_type, z.2⟩⟩
theorem iv5_274 {x : CX} {q : MS} {post : Option Value → MH → Prop} {xp : String → MH → Prop} {len pc : Nat} {b : Nat × Nat} {L st : List Value} {h : MH} {K : KT} {v0 v1 : Value} {a : Nat} {r : List Value} : stepE x q 5 post xp (.invokevirtual 274) len pc b L (v1 :: v0 :: .ref a :: r) h K = (rcvE x h a 5 ∧ callE x q sX5_placesOf [.ref a, v0, v1] r h xp b (fun b' st' h' => K (pc + len) b' L st' h')) := propext ⟨fun z => ⟨z.1, z.2.2⟩, fun z => ⟨z.1, in_X5_placesOf, z.2⟩⟩
theorem iv5_277 {x : CX} {q : MS} {post : Option Value → MH → Prop} {xp : String → MH → Prop} {len pc : Nat} {b : Nat × Nat} {L st : List Value} {h : MH} {K : KT} {v0 v1 : Value} {a : Nat} {r : List Value} : stepE x q 5 post xp (.invokevirtual 277) len pc b L (v1 :: v0 :: .ref a :: r) h K = (rcvE x h a 5 ∧ callE x q sX5_disables [.ref a, v0, v1] r h xp b (fun b' st' h' => K (pc + len) b' L st' h')) := propext ⟨fun z => ⟨z.1, z.2.2⟩, fun z => ⟨z.1, in_X5_disables, z.2⟩⟩
theorem iv5_280 {x : CX} {q : MS} {post : Option Value → MH → Prop} {xp : String → MH → Prop} {len pc : Nat} {b : Nat × Nat} {L st : List Value} {h : MH} {K : KT} {v0 : Value} {a : Nat} {r : List Value} : stepE x q 5 post xp (.invokevirtual 280) len pc b L (v0 :: .ref a :: r) h K = (rcvE x h a 5 ∧ callE x q sX5_deadAt [.ref a, v0] r h xp b (fun b' st' h' => K (pc + len) b' L st' h')) := propext ⟨fun z => ⟨z.1, z.2.2⟩, fun z => ⟨z.1, in_X5_deadAt, z.2⟩⟩
theorem iv5_283 {x : CX} {q : MS} {post : Option Value → MH → Prop} {xp : String → MH → Prop} {len pc : Nat} {b : Nat × Nat} {L st : List Value} {h : MH} {K : KT} {v0 : Value} {a : Nat} {r : List Value} : stepE x q 5 post xp (.invokevirtual 283) len pc b L (v0 :: .ref a :: r) h K = (rcvE x h a 5 ∧ callE x q sX5_leadsHome [.ref a, v0] r h xp b (fun b' st' h' => K (pc + len) b' L st' h')) := propext ⟨fun z => ⟨z.1, z.2.2⟩, fun z => ⟨z.1, in_X5_leadsHome, z.2⟩⟩
theorem iv5_286 {x : CX} {q : MS} {post : Option Value → MH → Prop} {xp : String → MH → Prop} {len pc : Nat} {b : Nat × Nat} {L st : List Value} {h : MH} {K : KT} {v0 v1 : Value} {r : List Value} : stepE x q 5 post xp (.invokestatic 286) len pc b L (v1 :: v0 :: r) h K = callE x q sX5_digit [v0, v1] r h xp b (fun b' st' h' => K (pc + len) b' L st' h') := propext ⟨fun z => z.2, fun z => ⟨rfl, z⟩⟩
theorem iv5_289 {x : CX} {q : MS} {post : Option Value → MH → Prop} {xp : String → MH → Prop} {len pc : Nat} {b : Nat × Nat} {L st : List Value} {h : MH} {K : KT} {v0 v1 : Value} {a : Nat} {r : List Value} : stepE x q 5 post xp (.invokevirtual 289) len pc b L (v1 :: v0 :: .ref a :: r) h K = (rcvE x h a 5 ∧ callE x q sX5_noVector [.ref a, v0, v1] r h xp b (fun b' st' h' => K (pc + len) b' L st' h')) := propext ⟨fun z => ⟨z.1, z.2.2⟩, fun z => ⟨z.1, in_X5_noVector, z.2⟩⟩
theorem iv5_292 {x : CX} {q : MS} {post : Option Value → MH → Prop} {xp : String → MH → Prop} {len pc : Nat} {b : Nat × Nat} {L st : List Value} {h : MH} {K : KT} {v0 : Value} {a : Nat} {r : List Value} : stepE x q 5 post xp (.invokevirtual 292) len pc b L (v0 :: .ref a :: r) h K = (rcvE x h a 5 ∧ callE x q sX5_keeps [.ref a, v0] r h xp b (fun b' st' h' => K (pc + len) b' L st' h')) := propext ⟨fun z => ⟨z.1, z.2.2⟩, fun z => ⟨z.1, in_X5_keeps, z.2⟩⟩
theorem iv5_295 {x : CX} {q : MS} {post : Option Value → MH → Prop} {xp : String → MH → Prop} {len pc : Nat} {b : Nat × Nat} {L st : List Value} {h : MH} {K : KT} {v0 : Value} {a : Nat} {r : List Value} : stepE x q 5 post xp (.invokevirtual 295) len pc b L (v0 :: .ref a :: r) h K = (rcvE x h a 5 ∧ callE x q sX5_weighted [.ref a, v0] r h xp b (fun b' st' h' => K (pc + len) b' L st' h')) := propext ⟨fun z => ⟨z.1, z.2.2⟩, fun z => ⟨z.1, in_X5_weighted, z.2⟩⟩
theorem iv5_298 {x : CX} {q : MS} {post : Option Value → MH → Prop} {xp : String → MH → Prop} {len pc : Nat} {b : Nat × Nat} {L st : List Value} {h : MH} {K : KT} {a : Nat} {r : List Value} : stepE x q 5 post xp (.invokevirtual 298) len pc b L (.ref a :: r) h K = (rcvE x h a 5 ∧ callE x q sX5_sets [.ref a] r h xp b (fun b' st' h' => K (pc + len) b' L st' h')) := propext ⟨fun z => ⟨z.1, z.2.2⟩, fun z => ⟨z.1, in_X5_sets, z.2⟩⟩
theorem iv5_301 {x : CX} {q : MS} {post : Option Value → MH → Prop} {xp : String → MH → Prop} {len pc : Nat} {b : Nat × Nat} {L st : List Value} {h : MH} {K : KT} {v0 : Value} {a : Nat} {r : List Value} : stepE x q 5 post xp (.invokevirtual 301) len pc b L (v0 :: .ref a :: r) h K = (rcvE x h a 5 ∧ callE x q sX5_vectorOf [.ref a, v0] r h xp b (fun b' st' h' => K (pc + len) b' L st' h')) := propext ⟨fun z => ⟨z.1, z.2.2⟩, fun z => ⟨z.1, in_X5_vectorOf, z.2⟩⟩
theorem iv5_304 {x : CX} {q : MS} {post : Option Value → MH → Prop} {xp : String → MH → Prop} {len pc : Nat} {b : Nat × Nat} {L st : List Value} {h : MH} {K : KT} {v0 : Value} {a : Nat} {r : List Value} : stepE x q 5 post xp (.invokevirtual 304) len pc b L (v0 :: .ref a :: r) h K = (rcvE x h a 5 ∧ callE x q sX5_staysSame [.ref a, v0] r h xp b (fun b' st' h' => K (pc + len) b' L st' h')) := propext ⟨fun z => ⟨z.1, z.2.2⟩, fun z => ⟨z.1, in_X5_staysSame, z.2⟩⟩
theorem iv5_310 {x : CX} {q : MS} {post : Option Value → MH → Prop} {xp : String → MH → Prop} {len pc : Nat} {b : Nat × Nat} {L st : List Value} {h : MH} {K : KT} {v0 : Value} {a : Nat} {r : List Value} : stepE x q 5 post xp (.invokevirtual 310) len pc b L (v0 :: .ref a :: r) h K = (rcvE x h a 5 ∧ callE x q sX5_say [.ref a, v0] r h xp b (fun b' st' h' => K (pc + len) b' L st' h')) := propext ⟨fun z => ⟨z.1, z.2.2⟩, fun z => ⟨z.1, in_X5_say, z.2⟩⟩
theorem iv5_313 {x : CX} {q : MS} {post : Option Value → MH → Prop} {xp : String → MH → Prop} {len pc : Nat} {b : Nat × Nat} {L st : List Value} {h : MH} {K : KT} {v0 : Value} {a : Nat} {r : List Value} : stepE x q 5 post xp (.invokevirtual 313) len pc b L (v0 :: .ref a :: r) h K = (rcvE x h a 5 ∧ callE x q sX5_sayNumber [.ref a, v0] r h xp b (fun b' st' h' => K (pc + len) b' L st' h')) := propext ⟨fun z => ⟨z.1, z.2.2⟩, fun z => ⟨z.1, in_X5_sayNumber, z.2⟩⟩
theorem iv5_316 {x : CX} {q : MS} {post : Option Value → MH → Prop} {xp : String → MH → Prop} {len pc : Nat} {b : Nat × Nat} {L st : List Value} {h : MH} {K : KT} {v0 : Value} {a : Nat} {r : List Value} : stepE x q 5 post xp (.invokevirtual 316) len pc b L (v0 :: .ref a :: r) h K = (rcvE x h a 5 ∧ callE x q sX5_sayEnabled [.ref a, v0] r h xp b (fun b' st' h' => K (pc + len) b' L st' h')) := propext ⟨fun z => ⟨z.1, z.2.2⟩, fun z => ⟨z.1, in_X5_sayEnabled, z.2⟩⟩
theorem iv8_335 {x : CX} {q : MS} {post : Option Value → MH → Prop} {xp : String → MH → Prop} {len pc : Nat} {b : Nat × Nat} {L st : List Value} {h : MH} {K : KT} {a : Nat} {r : List Value} : stepE x q 8 post xp (.invokevirtual 335) len pc b L (.ref a :: r) h K = (rcvE x h a 8 ∧ callE x q sJ0_coder_7d493 [.ref a] r h xp b (fun b' st' h' => K (pc + len) b' L st' h')) := propext ⟨fun z => ⟨z.1, z.2.2⟩, fun z => ⟨z.1, in_J0_coder_7d493, z.2⟩⟩
theorem iv8_492 {x : CX} {q : MS} {post : Option Value → MH → Prop} {xp : String → MH → Prop} {len pc : Nat} {b : Nat × Nat} {L st : List Value} {h : MH} {K : KT} {a : Nat} {r : List Value} : stepE x q 8 post xp (.invokevirtual 492) len pc b L (.ref a :: r) h K = (rcvE x h a 8 ∧ callE x q sJ0_isLatin1_aae02 [.ref a] r h xp b (fun b' st' h' => K (pc + len) b' L st' h')) := propext ⟨fun z => ⟨z.1, z.2.2⟩, fun z => ⟨z.1, in_J0_isLatin1_aae02, z.2⟩⟩
theorem iv8_495 {x : CX} {q : MS} {post : Option Value → MH → Prop} {xp : String → MH → Prop} {len pc : Nat} {b : Nat × Nat} {L st : List Value} {h : MH} {K : KT} {v0 v1 : Value} {r : List Value} : stepE x q 8 post xp (.invokestatic 495) len pc b L (v1 :: v0 :: r) h K = callE x q sJ1_charAt_3b067 [v0, v1] r h xp b (fun b' st' h' => K (pc + len) b' L st' h') := propext ⟨fun z => z.2, fun z => ⟨rfl, z⟩⟩
theorem iv8_1059 {x : CX} {q : MS} {post : Option Value → MH → Prop} {xp : String → MH → Prop} {len pc : Nat} {b : Nat × Nat} {L st : List Value} {h : MH} {K : KT} {v0 v1 v2 : Value} {r : List Value} : stepE x q 8 post xp (.invokestatic 1059) len pc b L (v2 :: v1 :: v0 :: r) h K = callE x q sJ3_checkIndex_8e157 [v0, v1, v2] r h xp b (fun b' st' h' => K (pc + len) b' L st' h') := propext ⟨fun z => z.2, fun z => ⟨rfl, z⟩⟩
theorem iv9_9 {x : CX} {q : MS} {post : Option Value → MH → Prop} {xp : String → MH → Prop} {len pc : Nat} {b : Nat × Nat} {L st : List Value} {h : MH} {K : KT} {v0 v1 : Value} {r : List Value} : stepE x q 9 post xp (.invokestatic 9) len pc b L (v1 :: v0 :: r) h K = callE x q sJ0_checkIndex_df160 [v0, v1] r h xp b (fun b' st' h' => K (pc + len) b' L st' h') := propext ⟨fun z => z.2, fun z => ⟨rfl, z⟩⟩
theorem nw0_31 {x : CX} {q : MS} {post : Option Value → MH → Prop} {xp : String → MH → Prop} {len pc : Nat} {b : Nat × Nat} {L st : List Value} {h : MH} {K : KT} : stepE x q 0 post xp (.new 31) len pc b L st h K = (1 ≤ b.1 ∧ 8 ≤ b.2 ∧ K (pc + len) (b.1 - 1, b.2 - 8) L (.ref (mZ h) :: st) (sN h 3 0)) := propext ⟨fun z => z.2, fun z => ⟨by decide, z⟩⟩
theorem nw1_9 {x : CX} {q : MS} {post : Option Value → MH → Prop} {xp : String → MH → Prop} {len pc : Nat} {b : Nat × Nat} {L st : List Value} {h : MH} {K : KT} : stepE x q 1 post xp (.new 9) len pc b L st h K = (1 ≤ b.1 ∧ 8 ≤ b.2 ∧ K (pc + len) (b.1 - 1, b.2 - 8) L (.ref (mZ h) :: st) (sN h 3 0)) := propext ⟨fun z => z.2, fun z => ⟨by decide, z⟩⟩
theorem nw3_19 {x : CX} {q : MS} {post : Option Value → MH → Prop} {xp : String → MH → Prop} {len pc : Nat} {b : Nat × Nat} {L st : List Value} {h : MH} {K : KT} : stepE x q 3 post xp (.new 19) len pc b L st h K = (1 ≤ b.1 ∧ 8 ≤ b.2 ∧ K (pc + len) (b.1 - 1, b.2 - 8) L (.ref (mZ h) :: st) (sN h 3 0)) := propext ⟨fun z => z.2, fun z => ⟨by decide, z⟩⟩
theorem nw4_17 {x : CX} {q : MS} {post : Option Value → MH → Prop} {xp : String → MH → Prop} {len pc : Nat} {b : Nat × Nat} {L st : List Value} {h : MH} {K : KT} : stepE x q 4 post xp (.new 17) len pc b L st h K = (1 ≤ b.1 ∧ 8 ≤ b.2 ∧ K (pc + len) (b.1 - 1, b.2 - 8) L (.ref (mZ h) :: st) (sN h 3 0)) := propext ⟨fun z => z.2, fun z => ⟨by decide, z⟩⟩
theorem nw4_30 {x : CX} {q : MS} {post : Option Value → MH → Prop} {xp : String → MH → Prop} {len pc : Nat} {b : Nat × Nat} {L st : List Value} {h : MH} {K : KT} : stepE x q 4 post xp (.new 30) len pc b L st h K = (1 ≤ b.1 ∧ 3 ≤ b.2 ∧ K (pc + len) (b.1 - 1, b.2 - 3) L (.ref (mZ h) :: st) (sN h 2 0)) := propext ⟨fun z => z.2, fun z => ⟨by decide, z⟩⟩
theorem nw4_37 {x : CX} {q : MS} {post : Option Value → MH → Prop} {xp : String → MH → Prop} {len pc : Nat} {b : Nat × Nat} {L st : List Value} {h : MH} {K : KT} : stepE x q 4 post xp (.new 37) len pc b L st h K = (1 ≤ b.1 ∧ 8 ≤ b.2 ∧ K (pc + len) (b.1 - 1, b.2 - 8) L (.ref (mZ h) :: st) (sN h 4 0)) := propext ⟨fun z => z.2, fun z => ⟨by decide, z⟩⟩
theorem nw4_44 {x : CX} {q : MS} {post : Option Value → MH → Prop} {xp : String → MH → Prop} {len pc : Nat} {b : Nat × Nat} {L st : List Value} {h : MH} {K : KT} : stepE x q 4 post xp (.new 44) len pc b L st h K = (1 ≤ b.1 ∧ 9 ≤ b.2 ∧ K (pc + len) (b.1 - 1, b.2 - 9) L (.ref (mZ h) :: st) (sN h 1 0)) := propext ⟨fun z => z.2, fun z => ⟨by decide, z⟩⟩
theorem na_int {x : CX} {q : MS} {post : Option Value → MH → Prop} {xp : String → MH → Prop} {len pc : Nat} {b : Nat × Nat} {L st : List Value} {h : MH} {K : KT} {o : Nat} {n : Int32} {r : List Value} : stepE x q o post xp (.newarray .int) len pc b L (.int n :: r) h K = (¬ n < 0 ∧ n.toNatClampNeg ≤ 10000 ∧ 1 ≤ b.1 ∧ n.toNatClampNeg ≤ b.2 ∧ K (pc + len) (b.1 - 1, b.2 - n.toNatClampNeg) L (.ref (mZ h) :: r) (sN h 11 n.toNatClampNeg)) := propext ⟨fun z => z.2, fun z => ⟨by decide, z⟩⟩
theorem na_byte {x : CX} {q : MS} {post : Option Value → MH → Prop} {xp : String → MH → Prop} {len pc : Nat} {b : Nat × Nat} {L st : List Value} {h : MH} {K : KT} {o : Nat} {n : Int32} {r : List Value} : stepE x q o post xp (.newarray .byte) len pc b L (.int n :: r) h K = (¬ n < 0 ∧ n.toNatClampNeg ≤ 10000 ∧ 1 ≤ b.1 ∧ n.toNatClampNeg ≤ b.2 ∧ K (pc + len) (b.1 - 1, b.2 - n.toNatClampNeg) L (.ref (mZ h) :: r) (sN h 12 n.toNatClampNeg)) := propext ⟨fun z => z.2, fun z => ⟨by decide, z⟩⟩
theorem na_long {x : CX} {q : MS} {post : Option Value → MH → Prop} {xp : String → MH → Prop} {len pc : Nat} {b : Nat × Nat} {L st : List Value} {h : MH} {K : KT} {o : Nat} {n : Int32} {r : List Value} : stepE x q o post xp (.newarray .long) len pc b L (.int n :: r) h K = (¬ n < 0 ∧ n.toNatClampNeg ≤ 10000 ∧ 1 ≤ b.1 ∧ n.toNatClampNeg ≤ b.2 ∧ K (pc + len) (b.1 - 1, b.2 - n.toNatClampNeg) L (.ref (mZ h) :: r) (sN h 13 n.toNatClampNeg)) := propext ⟨fun z => z.2, fun z => ⟨by decide, z⟩⟩
theorem cI_m8 : cI (-8) = -8 := rfl
theorem cI_m2 : cI (-2) = -2 := rfl
theorem cI_m1 : cI (-1) = -1 := rfl
theorem cI_0 : cI 0 = nI 0 := rfl
theorem cI_1 : cI 1 = nI 1 := rfl
theorem cI_2 : cI 2 = nI 2 := rfl
theorem cI_3 : cI 3 = nI 3 := rfl
theorem cI_4 : cI 4 = nI 4 := rfl
theorem cI_5 : cI 5 = nI 5 := rfl
theorem cI_6 : cI 6 = nI 6 := rfl
theorem cI_7 : cI 7 = nI 7 := rfl
theorem cI_8 : cI 8 = nI 8 := rfl
theorem cI_9 : cI 9 = nI 9 := rfl
theorem cI_10 : cI 10 = nI 10 := rfl
theorem cI_13 : cI 13 = nI 13 := rfl
theorem cI_16 : cI 16 = nI 16 := rfl
theorem cI_18 : cI 18 = nI 18 := rfl
theorem cI_20 : cI 20 = nI 20 := rfl
theorem cI_24 : cI 24 = nI 24 := rfl
theorem cI_28 : cI 28 = nI 28 := rfl
theorem cI_30 : cI 30 = nI 30 := rfl
theorem cI_31 : cI 31 = nI 31 := rfl
theorem cI_32 : cI 32 = nI 32 := rfl
theorem cI_44 : cI 44 = nI 44 := rfl
theorem cI_45 : cI 45 = nI 45 := rfl
theorem cI_48 : cI 48 = nI 48 := rfl
theorem cI_55 : cI 55 = nI 55 := rfl
theorem cI_57 : cI 57 = nI 57 := rfl
theorem cI_59 : cI 59 = nI 59 := rfl
theorem cI_63 : cI 63 = nI 63 := rfl
theorem cI_64 : cI 64 = nI 64 := rfl
theorem cI_80 : cI 80 = nI 80 := rfl
theorem cI_97 : cI 97 = nI 97 := rfl
theorem cI_100 : cI 100 = nI 100 := rfl
theorem cI_108 : cI 108 = nI 108 := rfl
theorem cI_122 : cI 122 = nI 122 := rfl
theorem cI_150 : cI 150 = nI 150 := rfl
theorem cI_188 : cI 188 = nI 188 := rfl
theorem cI_200 : cI 200 = nI 200 := rfl
theorem cI_201 : cI 201 = nI 201 := rfl
theorem cI_255 : cI 255 = nI 255 := rfl
theorem cI_268 : cI 268 = nI 268 := rfl
theorem cI_480 : cI 480 = nI 480 := rfl
theorem cI_500 : cI 500 = nI 500 := rfl
theorem cI_512 : cI 512 = nI 512 := rfl
theorem cI_1000 : cI 1000 = nI 1000 := rfl
theorem cI_1200 : cI 1200 = nI 1200 := rfl
theorem cI_252645135 : cI 252645135 = nI 252645135 := rfl
theorem cI_858993459 : cI 858993459 = nI 858993459 := rfl
theorem cI_1431655765 : cI 1431655765 = nI 1431655765 := rfl
theorem cL_0 : cL 0 = 0 := rfl
theorem cL_1 : cL 1 = 1 := rfl
theorem tn_0 : Int.toNat 0 = 0 := id rfl
theorem tn_1 : Int.toNat 1 = 1 := id rfl
theorem tn_2 : Int.toNat 2 = 2 := id rfl
theorem tn_3 : Int.toNat 3 = 3 := id rfl
theorem tn_4 : Int.toNat 4 = 4 := id rfl
theorem tn_5 : Int.toNat 5 = 5 := id rfl
theorem tn_6 : Int.toNat 6 = 6 := id rfl
theorem tn_7 : Int.toNat 7 = 7 := id rfl
theorem tn_9 : Int.toNat 9 = 9 := id rfl
theorem tn_10 : Int.toNat 10 = 10 := id rfl
theorem tn_11 : Int.toNat 11 = 11 := id rfl
theorem tn_12 : Int.toNat 12 = 12 := id rfl
theorem tn_13 : Int.toNat 13 = 13 := id rfl
theorem tn_14 : Int.toNat 14 = 14 := id rfl
theorem tn_15 : Int.toNat 15 = 15 := id rfl
theorem tn_16 : Int.toNat 16 = 16 := id rfl
theorem tn_17 : Int.toNat 17 = 17 := id rfl
theorem tn_18 : Int.toNat 18 = 18 := id rfl
theorem tn_19 : Int.toNat 19 = 19 := id rfl
theorem tn_20 : Int.toNat 20 = 20 := id rfl
theorem tn_21 : Int.toNat 21 = 21 := id rfl
theorem tn_22 : Int.toNat 22 = 22 := id rfl
theorem tn_23 : Int.toNat 23 = 23 := id rfl
theorem tn_24 : Int.toNat 24 = 24 := id rfl
theorem tn_25 : Int.toNat 25 = 25 := id rfl
theorem tn_26 : Int.toNat 26 = 26 := id rfl
theorem tn_27 : Int.toNat 27 = 27 := id rfl
theorem tn_28 : Int.toNat 28 = 28 := id rfl
theorem tn_29 : Int.toNat 29 = 29 := id rfl
theorem tn_30 : Int.toNat 30 = 30 := id rfl
theorem tn_31 : Int.toNat 31 = 31 := id rfl
theorem tn_32 : Int.toNat 32 = 32 := id rfl
theorem tn_33 : Int.toNat 33 = 33 := id rfl
theorem tn_34 : Int.toNat 34 = 34 := id rfl
theorem tn_35 : Int.toNat 35 = 35 := id rfl
theorem tn_36 : Int.toNat 36 = 36 := id rfl
theorem tn_37 : Int.toNat 37 = 37 := id rfl
theorem tn_38 : Int.toNat 38 = 38 := id rfl
theorem tn_39 : Int.toNat 39 = 39 := id rfl
theorem tn_40 : Int.toNat 40 = 40 := id rfl
theorem tn_41 : Int.toNat 41 = 41 := id rfl
theorem tn_42 : Int.toNat 42 = 42 := id rfl
theorem tn_43 : Int.toNat 43 = 43 := id rfl
theorem tn_44 : Int.toNat 44 = 44 := id rfl
theorem tn_45 : Int.toNat 45 = 45 := id rfl
theorem tn_46 : Int.toNat 46 = 46 := id rfl
theorem tn_47 : Int.toNat 47 = 47 := id rfl
theorem tn_48 : Int.toNat 48 = 48 := id rfl
theorem tn_49 : Int.toNat 49 = 49 := id rfl
theorem tn_50 : Int.toNat 50 = 50 := id rfl
theorem tn_51 : Int.toNat 51 = 51 := id rfl
theorem tn_52 : Int.toNat 52 = 52 := id rfl
theorem tn_53 : Int.toNat 53 = 53 := id rfl
theorem tn_54 : Int.toNat 54 = 54 := id rfl
theorem tn_55 : Int.toNat 55 = 55 := id rfl
theorem tn_56 : Int.toNat 56 = 56 := id rfl
theorem tn_57 : Int.toNat 57 = 57 := id rfl
theorem tn_58 : Int.toNat 58 = 58 := id rfl
theorem tn_60 : Int.toNat 60 = 60 := id rfl
theorem tn_61 : Int.toNat 61 = 61 := id rfl
theorem tn_62 : Int.toNat 62 = 62 := id rfl
theorem tn_63 : Int.toNat 63 = 63 := id rfl
theorem tn_64 : Int.toNat 64 = 64 := id rfl
theorem tn_65 : Int.toNat 65 = 65 := id rfl
theorem tn_66 : Int.toNat 66 = 66 := id rfl
theorem tn_67 : Int.toNat 67 = 67 := id rfl
theorem tn_69 : Int.toNat 69 = 69 := id rfl
theorem tn_70 : Int.toNat 70 = 70 := id rfl
theorem tn_72 : Int.toNat 72 = 72 := id rfl
theorem tn_73 : Int.toNat 73 = 73 := id rfl
theorem tn_74 : Int.toNat 74 = 74 := id rfl
theorem tn_75 : Int.toNat 75 = 75 := id rfl
theorem tn_76 : Int.toNat 76 = 76 := id rfl
theorem tn_77 : Int.toNat 77 = 77 := id rfl
theorem tn_78 : Int.toNat 78 = 78 := id rfl
theorem tn_79 : Int.toNat 79 = 79 := id rfl
theorem tn_80 : Int.toNat 80 = 80 := id rfl
theorem tn_81 : Int.toNat 81 = 81 := id rfl
theorem tn_82 : Int.toNat 82 = 82 := id rfl
theorem tn_83 : Int.toNat 83 = 83 := id rfl
theorem tn_84 : Int.toNat 84 = 84 := id rfl
theorem tn_85 : Int.toNat 85 = 85 := id rfl
theorem tn_86 : Int.toNat 86 = 86 := id rfl
theorem tn_89 : Int.toNat 89 = 89 := id rfl
theorem tn_90 : Int.toNat 90 = 90 := id rfl
theorem tn_94 : Int.toNat 94 = 94 := id rfl
theorem tn_95 : Int.toNat 95 = 95 := id rfl
theorem tn_96 : Int.toNat 96 = 96 := id rfl
theorem tn_97 : Int.toNat 97 = 97 := id rfl
theorem tn_102 : Int.toNat 102 = 102 := id rfl
theorem tn_103 : Int.toNat 103 = 103 := id rfl
theorem tn_104 : Int.toNat 104 = 104 := id rfl
theorem tn_106 : Int.toNat 106 = 106 := id rfl
theorem tn_108 : Int.toNat 108 = 108 := id rfl
theorem tn_111 : Int.toNat 111 = 111 := id rfl
theorem tn_114 : Int.toNat 114 = 114 := id rfl
theorem tn_122 : Int.toNat 122 = 122 := id rfl
theorem tn_133 : Int.toNat 133 = 133 := id rfl
theorem tn_138 : Int.toNat 138 = 138 := id rfl
theorem tn_139 : Int.toNat 139 = 139 := id rfl
theorem tn_141 : Int.toNat 141 = 141 := id rfl
theorem tn_145 : Int.toNat 145 = 145 := id rfl
theorem tn_152 : Int.toNat 152 = 152 := id rfl
theorem tn_156 : Int.toNat 156 = 156 := id rfl
theorem tn_168 : Int.toNat 168 = 168 := id rfl
theorem tn_186 : Int.toNat 186 = 186 := id rfl
theorem tn_190 : Int.toNat 190 = 190 := id rfl
theorem tn_192 : Int.toNat 192 = 192 := id rfl
theorem tn_195 : Int.toNat 195 = 195 := id rfl
theorem tn_196 : Int.toNat 196 = 196 := id rfl
theorem tn_206 : Int.toNat 206 = 206 := id rfl
theorem tn_213 : Int.toNat 213 = 213 := id rfl
theorem tn_214 : Int.toNat 214 = 214 := id rfl
theorem tn_220 : Int.toNat 220 = 220 := id rfl
theorem tn_224 : Int.toNat 224 = 224 := id rfl
theorem tn_225 : Int.toNat 225 = 225 := id rfl
theorem tn_231 : Int.toNat 231 = 231 := id rfl
theorem tn_239 : Int.toNat 239 = 239 := id rfl
theorem tn_240 : Int.toNat 240 = 240 := id rfl
theorem tn_250 : Int.toNat 250 = 250 := id rfl
theorem tn_251 : Int.toNat 251 = 251 := id rfl
theorem tn_253 : Int.toNat 253 = 253 := id rfl
theorem tn_264 : Int.toNat 264 = 264 := id rfl
