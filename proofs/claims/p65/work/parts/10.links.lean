/-! the methods, and what the tables say of them (printed by program) -/
abbrev m_X0_init : am_M := (yX0_init, cX0_init, 1, none, [], none)
theorem n_X0 : Cond.initialized RX0 ∈ am_Gl := am_t1 5 rfl rfl
theorem k_X0_init : am_mk m_X0_init 0 := ⟨am_t1 119 rfl rfl, n_X0, by decide +kernel, by decide, rfl⟩
theorem i_X0_init : Cond.instanceMethod m_X0_init.1 ∈ am_Gl := am_t1 118 rfl rfl
abbrev m_X0_copyFrom : am_M := (yX0_copyFrom, cX0_copyFrom, 2, none, [], none)
theorem k_X0_copyFrom : am_mk m_X0_copyFrom 1 := ⟨am_t3 89 rfl rfl, n_X0, by decide +kernel, by decide, rfl⟩
theorem i_X0_copyFrom : Cond.instanceMethod m_X0_copyFrom.1 ∈ am_Gl := am_t3 87 rfl rfl
theorem s_X0_copyFrom : Cond.selects m_X0_copyFrom.1.cls m_X0_copyFrom.1 m_X0_copyFrom.1 ∈ am_Gl := am_t3 88 rfl rfl
abbrev m_X0_opensAt : am_M := (yX0_opensAt, cX0_opensAt, 2, (some .boolean), [], none)
theorem k_X0_opensAt : am_mk m_X0_opensAt 1 := ⟨am_t3 161 rfl rfl, n_X0, by decide +kernel, by decide, rfl⟩
theorem i_X0_opensAt : Cond.instanceMethod m_X0_opensAt.1 ∈ am_Gl := am_t3 159 rfl rfl
theorem s_X0_opensAt : Cond.selects m_X0_opensAt.1.cls m_X0_opensAt.1 m_X0_opensAt.1 ∈ am_Gl := am_t3 160 rfl rfl
abbrev m_X0_waitFrom : am_M := (yX0_waitFrom, cX0_waitFrom, 2, (some .int), [], none)
theorem k_X0_waitFrom : am_mk m_X0_waitFrom 1 := ⟨am_t5 114 rfl rfl, n_X0, by decide +kernel, by decide, rfl⟩
theorem i_X0_waitFrom : Cond.instanceMethod m_X0_waitFrom.1 ∈ am_Gl := am_t5 112 rfl rfl
theorem s_X0_waitFrom : Cond.selects m_X0_waitFrom.1.cls m_X0_waitFrom.1 m_X0_waitFrom.1 ∈ am_Gl := am_t5 113 rfl rfl
abbrev m_X0_weight : am_M := (yX0_weight, cX0_weight, 4, (some .int), [], none)
theorem k_X0_weight : am_mk m_X0_weight 1 := ⟨am_t4 104 rfl rfl, n_X0, by decide +kernel, by decide, rfl⟩
theorem i_X0_weight : Cond.instanceMethod m_X0_weight.1 ∈ am_Gl := am_t4 102 rfl rfl
theorem s_X0_weight : Cond.selects m_X0_weight.1.cls m_X0_weight.1 m_X0_weight.1 ∈ am_Gl := am_t4 103 rfl rfl
abbrev m_X0_addCarts : am_M := (yX0_addCarts, cX0_addCarts, 3, none, [], none)
theorem k_X0_addCarts : am_mk m_X0_addCarts 2 := ⟨am_t3 186 rfl rfl, n_X0, by decide +kernel, by decide, rfl⟩
theorem i_X0_addCarts : Cond.instanceMethod m_X0_addCarts.1 ∈ am_Gl := am_t3 184 rfl rfl
theorem s_X0_addCarts : Cond.selects m_X0_addCarts.1.cls m_X0_addCarts.1 m_X0_addCarts.1 ∈ am_Gl := am_t3 185 rfl rfl
abbrev m_X0_halve : am_M := (yX0_halve, cX0_halve, 2, none, [], none)
theorem k_X0_halve : am_mk m_X0_halve 0 := ⟨am_t3 203 rfl rfl, n_X0, by decide +kernel, by decide, rfl⟩
theorem i_X0_halve : Cond.instanceMethod m_X0_halve.1 ∈ am_Gl := am_t3 201 rfl rfl
theorem s_X0_halve : Cond.selects m_X0_halve.1.cls m_X0_halve.1 m_X0_halve.1 ∈ am_Gl := am_t3 202 rfl rfl
abbrev m_X1_init : am_M := (yX1_init, cX1_init, 2, none, [], none)
theorem n_X1 : Cond.initialized RX1 ∈ am_Gl := am_t1 8 rfl rfl
theorem k_X1_init : am_mk m_X1_init 0 := ⟨am_t2 56 rfl rfl, n_X1, by decide +kernel, by decide, rfl⟩
theorem i_X1_init : Cond.instanceMethod m_X1_init.1 ∈ am_Gl := am_t2 55 rfl rfl
abbrev m_X1_remember : am_M := (yX1_remember, cX1_remember, 2, none, [], none)
theorem k_X1_remember : am_mk m_X1_remember 1 := ⟨am_t3 227 rfl rfl, n_X1, by decide +kernel, by decide, rfl⟩
theorem i_X1_remember : Cond.instanceMethod m_X1_remember.1 ∈ am_Gl := am_t3 225 rfl rfl
theorem s_X1_remember : Cond.selects m_X1_remember.1.cls m_X1_remember.1 m_X1_remember.1 ∈ am_Gl := am_t3 226 rfl rfl
abbrev m_X1_recallInto : am_M := (yX1_recallInto, cX1_recallInto, 2, none, [], none)
theorem k_X1_recallInto : am_mk m_X1_recallInto 1 := ⟨am_t4 136 rfl rfl, n_X1, by decide +kernel, by decide, rfl⟩
theorem i_X1_recallInto : Cond.instanceMethod m_X1_recallInto.1 ∈ am_Gl := am_t4 134 rfl rfl
theorem s_X1_recallInto : Cond.selects m_X1_recallInto.1.cls m_X1_recallInto.1 m_X1_recallInto.1 ∈ am_Gl := am_t4 135 rfl rfl
abbrev m_X2_init : am_M := (yX2_init, cX2_init, 1, none, [], none)
theorem n_X2 : Cond.initialized RX2 ∈ am_Gl := am_t1 9 rfl rfl
theorem k_X2_init : am_mk m_X2_init 0 := ⟨am_t2 76 rfl rfl, n_X2, by decide +kernel, by decide, rfl⟩
theorem i_X2_init : Cond.instanceMethod m_X2_init.1 ∈ am_Gl := am_t2 75 rfl rfl
abbrev m_X3_init : am_M := (yX3_init, cX3_init, 3, none, [], none)
theorem n_X3 : Cond.initialized RX3 ∈ am_Gl := am_t1 7 rfl rfl
theorem k_X3_init : am_mk m_X3_init 2 := ⟨am_t2 11 rfl rfl, n_X3, by decide +kernel, by decide, rfl⟩
theorem i_X3_init : Cond.instanceMethod m_X3_init.1 ∈ am_Gl := am_t2 10 rfl rfl
abbrev m_X3_putByte : am_M := (yX3_putByte, cX3_putByte, 2, none, [], none)
theorem k_X3_putByte : am_mk m_X3_putByte 1 := ⟨am_t2 142 rfl rfl, n_X3, by decide +kernel, by decide, rfl⟩
theorem i_X3_putByte : Cond.instanceMethod m_X3_putByte.1 ∈ am_Gl := am_t2 140 rfl rfl
theorem s_X3_putByte : Cond.selects m_X3_putByte.1.cls m_X3_putByte.1 m_X3_putByte.1 ∈ am_Gl := am_t2 141 rfl rfl
abbrev m_X3_putInt : am_M := (yX3_putInt, cX3_putInt, 3, none, [], none)
theorem k_X3_putInt : am_mk m_X3_putInt 1 := ⟨am_t4 203 rfl rfl, n_X3, by decide +kernel, by decide, rfl⟩
theorem i_X3_putInt : Cond.instanceMethod m_X3_putInt.1 ∈ am_Gl := am_t4 201 rfl rfl
theorem s_X3_putInt : Cond.selects m_X3_putInt.1.cls m_X3_putInt.1 m_X3_putInt.1 ∈ am_Gl := am_t4 202 rfl rfl
abbrev m_X3_begin : am_M := (yX3_begin, cX3_begin, 1, none, [], none)
theorem k_X3_begin : am_mk m_X3_begin 0 := ⟨am_t2 146 rfl rfl, n_X3, by decide +kernel, by decide, rfl⟩
theorem i_X3_begin : Cond.instanceMethod m_X3_begin.1 ∈ am_Gl := am_t2 144 rfl rfl
theorem s_X3_begin : Cond.selects m_X3_begin.1.cls m_X3_begin.1 m_X3_begin.1 ∈ am_Gl := am_t2 145 rfl rfl
abbrev m_X3_advance : am_M := (yX3_advance, cX3_advance, 1, none, [], none)
theorem k_X3_advance : am_mk m_X3_advance 0 := ⟨am_t2 150 rfl rfl, n_X3, by decide +kernel, by decide, rfl⟩
theorem i_X3_advance : Cond.instanceMethod m_X3_advance.1 ∈ am_Gl := am_t2 149 rfl rfl
theorem s_X3_advance : Cond.selects m_X3_advance.1.cls m_X3_advance.1 m_X3_advance.1 ∈ am_Gl := am_s1 0 rfl rfl
abbrev m_X3_kindOf : am_M := (yX3_kindOf, cX3_kindOf, 1, (some .int), [], none)
theorem k_X3_kindOf : am_mk m_X3_kindOf 1 := ⟨am_t2 153 rfl rfl, n_X3, by decide +kernel, by decide, rfl⟩
theorem t_X3_kindOf : Cond.static m_X3_kindOf.1 ∈ am_Gl := am_t2 152 rfl rfl
abbrev m_X3_readLetters : am_M := (yX3_readLetters, cX3_readLetters, 1, none, [], none)
theorem k_X3_readLetters : am_mk m_X3_readLetters 0 := ⟨am_t2 157 rfl rfl, n_X3, by decide +kernel, by decide, rfl⟩
theorem i_X3_readLetters : Cond.instanceMethod m_X3_readLetters.1 ∈ am_Gl := am_t2 156 rfl rfl
theorem s_X3_readLetters : Cond.selects m_X3_readLetters.1.cls m_X3_readLetters.1 m_X3_readLetters.1 ∈ am_Gl := am_s1 1 rfl rfl
abbrev m_X3_readDigits : am_M := (yX3_readDigits, cX3_readDigits, 1, none, [], none)
theorem k_X3_readDigits : am_mk m_X3_readDigits 0 := ⟨am_t2 161 rfl rfl, n_X3, by decide +kernel, by decide, rfl⟩
theorem i_X3_readDigits : Cond.instanceMethod m_X3_readDigits.1 ∈ am_Gl := am_t2 160 rfl rfl
theorem s_X3_readDigits : Cond.selects m_X3_readDigits.1.cls m_X3_readDigits.1 m_X3_readDigits.1 ∈ am_Gl := am_s1 2 rfl rfl
abbrev m_X3_fail : am_M := (yX3_fail, cX3_fail, 2, (some .boolean), [], none)
theorem k_X3_fail : am_mk m_X3_fail 1 := ⟨am_t2 181 rfl rfl, n_X3, by decide +kernel, by decide, rfl⟩
theorem i_X3_fail : Cond.instanceMethod m_X3_fail.1 ∈ am_Gl := am_t2 180 rfl rfl
theorem s_X3_fail : Cond.selects m_X3_fail.1.cls m_X3_fail.1 m_X3_fail.1 ∈ am_Gl := am_s1 5 rfl rfl
abbrev m_X3_isWord : am_M := (yX3_isWord, cX3_isWord, 3, (some .boolean), [], none)
theorem k_X3_isWord : am_mk m_X3_isWord 1 := ⟨am_t2 175 rfl rfl, n_X3, by decide +kernel, by decide, rfl⟩
theorem i_X3_isWord : Cond.instanceMethod m_X3_isWord.1 ∈ am_Gl := am_t2 174 rfl rfl
theorem s_X3_isWord : Cond.selects m_X3_isWord.1.cls m_X3_isWord.1 m_X3_isWord.1 ∈ am_Gl := am_s1 4 rfl rfl
abbrev m_X3_isName : am_M := (yX3_isName, cX3_isName, 1, (some .boolean), [], none)
theorem k_X3_isName : am_mk m_X3_isName 0 := ⟨am_t2 209 rfl rfl, n_X3, by decide +kernel, by decide, rfl⟩
theorem i_X3_isName : Cond.instanceMethod m_X3_isName.1 ∈ am_Gl := am_t2 208 rfl rfl
theorem s_X3_isName : Cond.selects m_X3_isName.1.cls m_X3_isName.1 m_X3_isName.1 ∈ am_Gl := am_s1 10 rfl rfl
abbrev m_X3_takeWord : am_M := (yX3_takeWord, cX3_takeWord, 2, (some .boolean), [], none)
theorem k_X3_takeWord : am_mk m_X3_takeWord 1 := ⟨am_t2 171 rfl rfl, n_X3, by decide +kernel, by decide, rfl⟩
theorem i_X3_takeWord : Cond.instanceMethod m_X3_takeWord.1 ∈ am_Gl := am_t2 170 rfl rfl
theorem s_X3_takeWord : Cond.selects m_X3_takeWord.1.cls m_X3_takeWord.1 m_X3_takeWord.1 ∈ am_Gl := am_s1 3 rfl rfl
abbrev m_X3_takeSemicolon : am_M := (yX3_takeSemicolon, cX3_takeSemicolon, 1, (some .boolean), [], none)
theorem k_X3_takeSemicolon : am_mk m_X3_takeSemicolon 0 := ⟨am_t2 185 rfl rfl, n_X3, by decide +kernel, by decide, rfl⟩
theorem i_X3_takeSemicolon : Cond.instanceMethod m_X3_takeSemicolon.1 ∈ am_Gl := am_t2 184 rfl rfl
theorem s_X3_takeSemicolon : Cond.selects m_X3_takeSemicolon.1.cls m_X3_takeSemicolon.1 m_X3_takeSemicolon.1 ∈ am_Gl := am_s1 6 rfl rfl
abbrev m_X3_isNumberIn : am_M := (yX3_isNumberIn, cX3_isNumberIn, 3, (some .boolean), [], none)
theorem k_X3_isNumberIn : am_mk m_X3_isNumberIn 2 := ⟨am_t2 217 rfl rfl, n_X3, by decide +kernel, by decide, rfl⟩
theorem i_X3_isNumberIn : Cond.instanceMethod m_X3_isNumberIn.1 ∈ am_Gl := am_t2 216 rfl rfl
theorem s_X3_isNumberIn : Cond.selects m_X3_isNumberIn.1.cls m_X3_isNumberIn.1 m_X3_isNumberIn.1 ∈ am_Gl := am_s1 12 rfl rfl
abbrev m_X3_takeNumber : am_M := (yX3_takeNumber, cX3_takeNumber, 4, (some .int), [], none)
theorem k_X3_takeNumber : am_mk m_X3_takeNumber 2 := ⟨am_t2 213 rfl rfl, n_X3, by decide +kernel, by decide, rfl⟩
theorem i_X3_takeNumber : Cond.instanceMethod m_X3_takeNumber.1 ∈ am_Gl := am_t2 212 rfl rfl
theorem s_X3_takeNumber : Cond.selects m_X3_takeNumber.1.cls m_X3_takeNumber.1 m_X3_takeNumber.1 ∈ am_Gl := am_s1 11 rfl rfl
abbrev m_X3_isNewName : am_M := (yX3_isNewName, cX3_isNewName, 2, (some .boolean), [], none)
theorem k_X3_isNewName : am_mk m_X3_isNewName 1 := ⟨am_t2 205 rfl rfl, n_X3, by decide +kernel, by decide, rfl⟩
theorem i_X3_isNewName : Cond.instanceMethod m_X3_isNewName.1 ∈ am_Gl := am_t2 204 rfl rfl
theorem s_X3_isNewName : Cond.selects m_X3_isNewName.1.cls m_X3_isNewName.1 m_X3_isNewName.1 ∈ am_Gl := am_s1 9 rfl rfl
abbrev m_X3_isKnownName : am_M := (yX3_isKnownName, cX3_isKnownName, 2, (some .boolean), [], none)
theorem k_X3_isKnownName : am_mk m_X3_isKnownName 1 := ⟨am_t2 238 rfl rfl, n_X3, by decide +kernel, by decide, rfl⟩
theorem i_X3_isKnownName : Cond.instanceMethod m_X3_isKnownName.1 ∈ am_Gl := am_t2 237 rfl rfl
theorem s_X3_isKnownName : Cond.selects m_X3_isKnownName.1.cls m_X3_isKnownName.1 m_X3_isKnownName.1 ∈ am_Gl := am_s2 0 rfl rfl
abbrev m_X3_takeKnown : am_M := (yX3_takeKnown, cX3_takeKnown, 2, (some .int), [], none)
theorem k_X3_takeKnown : am_mk m_X3_takeKnown 1 := ⟨am_t3 153 rfl rfl, n_X3, by decide +kernel, by decide, rfl⟩
theorem i_X3_takeKnown : Cond.instanceMethod m_X3_takeKnown.1 ∈ am_Gl := am_t3 152 rfl rfl
theorem s_X3_takeKnown : Cond.selects m_X3_takeKnown.1.cls m_X3_takeKnown.1 m_X3_takeKnown.1 ∈ am_Gl := am_s2 14 rfl rfl
abbrev m_X3_readSetup : am_M := (yX3_readSetup, cX3_readSetup, 1, (some .boolean), [], none)
theorem k_X3_readSetup : am_mk m_X3_readSetup 0 := ⟨am_t2 166 rfl rfl, n_X3, by decide +kernel, by decide, rfl⟩
theorem i_X3_readSetup : Cond.instanceMethod m_X3_readSetup.1 ∈ am_Gl := am_t2 164 rfl rfl
theorem s_X3_readSetup : Cond.selects m_X3_readSetup.1.cls m_X3_readSetup.1 m_X3_readSetup.1 ∈ am_Gl := am_t2 165 rfl rfl
abbrev m_X3_readQuestions : am_M := (yX3_readQuestions, cX3_readQuestions, 2, (some .boolean), [], none)
theorem k_X3_readQuestions : am_mk m_X3_readQuestions 0 := ⟨am_t2 189 rfl rfl, n_X3, by decide +kernel, by decide, rfl⟩
theorem i_X3_readQuestions : Cond.instanceMethod m_X3_readQuestions.1 ∈ am_Gl := am_t2 188 rfl rfl
theorem s_X3_readQuestions : Cond.selects m_X3_readQuestions.1.cls m_X3_readQuestions.1 m_X3_readQuestions.1 ∈ am_Gl := am_s1 7 rfl rfl
abbrev m_X3_readQuestion : am_M := (yX3_readQuestion, cX3_readQuestion, 2, (some .boolean), [], none)
theorem k_X3_readQuestion : am_mk m_X3_readQuestion 1 := ⟨am_t2 194 rfl rfl, n_X3, by decide +kernel, by decide, rfl⟩
theorem i_X3_readQuestion : Cond.instanceMethod m_X3_readQuestion.1 ∈ am_Gl := am_t2 193 rfl rfl
theorem s_X3_readQuestion : Cond.selects m_X3_readQuestion.1.cls m_X3_readQuestion.1 m_X3_readQuestion.1 ∈ am_Gl := am_s1 8 rfl rfl
abbrev m_X3_readCarts : am_M := (yX3_readCarts, cX3_readCarts, 2, (some .boolean), [], none)
theorem k_X3_readCarts : am_mk m_X3_readCarts 0 := ⟨am_t2 221 rfl rfl, n_X3, by decide +kernel, by decide, rfl⟩
theorem i_X3_readCarts : Cond.instanceMethod m_X3_readCarts.1 ∈ am_Gl := am_t2 220 rfl rfl
theorem s_X3_readCarts : Cond.selects m_X3_readCarts.1.cls m_X3_readCarts.1 m_X3_readCarts.1 ∈ am_Gl := am_s1 13 rfl rfl
abbrev m_X3_readCart : am_M := (yX3_readCart, cX3_readCart, 2, (some .boolean), [], none)
theorem k_X3_readCart : am_mk m_X3_readCart 1 := ⟨am_t2 226 rfl rfl, n_X3, by decide +kernel, by decide, rfl⟩
theorem i_X3_readCart : Cond.instanceMethod m_X3_readCart.1 ∈ am_Gl := am_t2 225 rfl rfl
theorem s_X3_readCart : Cond.selects m_X3_readCart.1.cls m_X3_readCart.1 m_X3_readCart.1 ∈ am_Gl := am_s1 14 rfl rfl
abbrev m_X3_readTraits : am_M := (yX3_readTraits, cX3_readTraits, 4, (some .boolean), [], none)
theorem k_X3_readTraits : am_mk m_X3_readTraits 1 := ⟨am_t2 234 rfl rfl, n_X3, by decide +kernel, by decide, rfl⟩
theorem i_X3_readTraits : Cond.instanceMethod m_X3_readTraits.1 ∈ am_Gl := am_t2 233 rfl rfl
theorem s_X3_readTraits : Cond.selects m_X3_readTraits.1.cls m_X3_readTraits.1 m_X3_readTraits.1 ∈ am_Gl := am_s1 15 rfl rfl
abbrev m_X3_readGates : am_M := (yX3_readGates, cX3_readGates, 2, (some .boolean), [], none)
theorem k_X3_readGates : am_mk m_X3_readGates 0 := ⟨am_t3 5 rfl rfl, n_X3, by decide +kernel, by decide, rfl⟩
theorem i_X3_readGates : Cond.instanceMethod m_X3_readGates.1 ∈ am_Gl := am_t3 4 rfl rfl
theorem s_X3_readGates : Cond.selects m_X3_readGates.1.cls m_X3_readGates.1 m_X3_readGates.1 ∈ am_Gl := am_s2 1 rfl rfl
abbrev m_X3_readGate : am_M := (yX3_readGate, cX3_readGate, 3, (some .boolean), [], none)
theorem k_X3_readGate : am_mk m_X3_readGate 1 := ⟨am_t3 10 rfl rfl, n_X3, by decide +kernel, by decide, rfl⟩
theorem i_X3_readGate : Cond.instanceMethod m_X3_readGate.1 ∈ am_Gl := am_t3 9 rfl rfl
theorem s_X3_readGate : Cond.selects m_X3_readGate.1.cls m_X3_readGate.1 m_X3_readGate.1 ∈ am_Gl := am_s2 2 rfl rfl
abbrev m_X3_readCounts : am_M := (yX3_readCounts, cX3_readCounts, 3, (some .boolean), [], none)
theorem k_X3_readCounts : am_mk m_X3_readCounts 1 := ⟨am_t3 18 rfl rfl, n_X3, by decide +kernel, by decide, rfl⟩
theorem i_X3_readCounts : Cond.instanceMethod m_X3_readCounts.1 ∈ am_Gl := am_t3 17 rfl rfl
theorem s_X3_readCounts : Cond.selects m_X3_readCounts.1.cls m_X3_readCounts.1 m_X3_readCounts.1 ∈ am_Gl := am_s2 3 rfl rfl
abbrev m_X3_readCommands : am_M := (yX3_readCommands, cX3_readCommands, 2, (some .boolean), [], none)
theorem k_X3_readCommands : am_mk m_X3_readCommands 0 := ⟨am_t3 140 rfl rfl, n_X3, by decide +kernel, by decide, rfl⟩
theorem i_X3_readCommands : Cond.instanceMethod m_X3_readCommands.1 ∈ am_Gl := am_t3 138 rfl rfl
theorem s_X3_readCommands : Cond.selects m_X3_readCommands.1.cls m_X3_readCommands.1 m_X3_readCommands.1 ∈ am_Gl := am_t3 139 rfl rfl
abbrev m_X3_readCommand : am_M := (yX3_readCommand, cX3_readCommand, 1, (some .boolean), [], none)
theorem k_X3_readCommand : am_mk m_X3_readCommand 0 := ⟨am_t3 144 rfl rfl, n_X3, by decide +kernel, by decide, rfl⟩
theorem i_X3_readCommand : Cond.instanceMethod m_X3_readCommand.1 ∈ am_Gl := am_t3 143 rfl rfl
theorem s_X3_readCommand : Cond.selects m_X3_readCommand.1.cls m_X3_readCommand.1 m_X3_readCommand.1 ∈ am_Gl := am_s2 12 rfl rfl
abbrev m_X3_readPass : am_M := (yX3_readPass, cX3_readPass, 3, (some .boolean), [], none)
theorem k_X3_readPass : am_mk m_X3_readPass 0 := ⟨am_t3 149 rfl rfl, n_X3, by decide +kernel, by decide, rfl⟩
theorem i_X3_readPass : Cond.instanceMethod m_X3_readPass.1 ∈ am_Gl := am_t3 148 rfl rfl
theorem s_X3_readPass : Cond.selects m_X3_readPass.1.cls m_X3_readPass.1 m_X3_readPass.1 ∈ am_Gl := am_s2 13 rfl rfl
abbrev m_X3_readBuild : am_M := (yX3_readBuild, cX3_readBuild, 2, (some .boolean), [], none)
theorem k_X3_readBuild : am_mk m_X3_readBuild 0 := ⟨am_t3 194 rfl rfl, n_X3, by decide +kernel, by decide, rfl⟩
theorem i_X3_readBuild : Cond.instanceMethod m_X3_readBuild.1 ∈ am_Gl := am_t3 193 rfl rfl
theorem s_X3_readBuild : Cond.selects m_X3_readBuild.1.cls m_X3_readBuild.1 m_X3_readBuild.1 ∈ am_Gl := am_s2 15 rfl rfl
abbrev m_X3_readHalve : am_M := (yX3_readHalve, cX3_readHalve, 2, (some .boolean), [], none)
theorem k_X3_readHalve : am_mk m_X3_readHalve 0 := ⟨am_t3 199 rfl rfl, n_X3, by decide +kernel, by decide, rfl⟩
theorem i_X3_readHalve : Cond.instanceMethod m_X3_readHalve.1 ∈ am_Gl := am_t3 198 rfl rfl
theorem s_X3_readHalve : Cond.selects m_X3_readHalve.1.cls m_X3_readHalve.1 m_X3_readHalve.1 ∈ am_Gl := am_s3 0 rfl rfl
abbrev m_X3_readToll : am_M := (yX3_readToll, cX3_readToll, 2, (some .boolean), [], none)
theorem k_X3_readToll : am_mk m_X3_readToll 0 := ⟨am_t3 208 rfl rfl, n_X3, by decide +kernel, by decide, rfl⟩
theorem i_X3_readToll : Cond.instanceMethod m_X3_readToll.1 ∈ am_Gl := am_t3 207 rfl rfl
theorem s_X3_readToll : Cond.selects m_X3_readToll.1.cls m_X3_readToll.1 m_X3_readToll.1 ∈ am_Gl := am_s3 1 rfl rfl
abbrev m_X3_readLimit : am_M := (yX3_readLimit, cX3_readLimit, 2, (some .boolean), [], none)
theorem k_X3_readLimit : am_mk m_X3_readLimit 0 := ⟨am_t3 213 rfl rfl, n_X3, by decide +kernel, by decide, rfl⟩
theorem i_X3_readLimit : Cond.instanceMethod m_X3_readLimit.1 ∈ am_Gl := am_t3 212 rfl rfl
theorem s_X3_readLimit : Cond.selects m_X3_readLimit.1.cls m_X3_readLimit.1 m_X3_readLimit.1 ∈ am_Gl := am_s3 2 rfl rfl
abbrev m_X3_readHours : am_M := (yX3_readHours, cX3_readHours, 1, (some .boolean), [], none)
theorem k_X3_readHours : am_mk m_X3_readHours 0 := ⟨am_t3 218 rfl rfl, n_X3, by decide +kernel, by decide, rfl⟩
theorem i_X3_readHours : Cond.instanceMethod m_X3_readHours.1 ∈ am_Gl := am_t3 217 rfl rfl
theorem s_X3_readHours : Cond.selects m_X3_readHours.1.cls m_X3_readHours.1 m_X3_readHours.1 ∈ am_Gl := am_s3 3 rfl rfl
abbrev m_X4_init : am_M := (yX4_init, cX4_init, 1, none, [], none)
theorem n_X4 : Cond.initialized RX4 ∈ am_Gl := am_t1 2 rfl rfl
theorem k_X4_init : am_mk m_X4_init 0 := ⟨am_t1 40 rfl rfl, n_X4, by decide +kernel, by decide, rfl⟩
theorem i_X4_init : Cond.instanceMethod m_X4_init.1 ∈ am_Gl := am_t1 39 rfl rfl
abbrev m_X4_solve : am_M := (yX4_solve, cX4_solve, 7, none, [], none)
theorem k_X4_solve : am_mk m_X4_solve 4 := ⟨am_t3 26 rfl rfl, n_X4, by decide +kernel, by decide, rfl⟩
theorem i_X4_solve : Cond.instanceMethod m_X4_solve.1 ∈ am_Gl := am_t3 24 rfl rfl
theorem s_X4_solve : Cond.selects m_X4_solve.1.cls m_X4_solve.1 m_X4_solve.1 ∈ am_Gl := am_t3 25 rfl rfl
abbrev m_X4_rankOf : am_M := (yX4_rankOf, cX4_rankOf, 3, (some .long), [], none)
theorem k_X4_rankOf : am_mk m_X4_rankOf 2 := ⟨am_t3 71 rfl rfl, n_X4, by decide +kernel, by decide, rfl⟩
theorem i_X4_rankOf : Cond.instanceMethod m_X4_rankOf.1 ∈ am_Gl := am_t3 69 rfl rfl
theorem s_X4_rankOf : Cond.selects m_X4_rankOf.1.cls m_X4_rankOf.1 m_X4_rankOf.1 ∈ am_Gl := am_t3 70 rfl rfl
abbrev m_X4_plant : am_M := (yX4_plant, cX4_plant, 5, none, [], none)
theorem k_X4_plant : am_mk m_X4_plant 2 := ⟨am_t3 22 rfl rfl, n_X4, by decide +kernel, by decide, rfl⟩
theorem i_X4_plant : Cond.instanceMethod m_X4_plant.1 ∈ am_Gl := am_t3 20 rfl rfl
theorem s_X4_plant : Cond.selects m_X4_plant.1.cls m_X4_plant.1 m_X4_plant.1 ∈ am_Gl := am_t3 21 rfl rfl
abbrev m_X4_plantNode : am_M := (yX4_plantNode, cX4_plantNode, 8, none, [], none)
theorem k_X4_plantNode : am_mk m_X4_plantNode 3 := ⟨am_t3 67 rfl rfl, n_X4, by decide +kernel, by decide, rfl⟩
theorem i_X4_plantNode : Cond.instanceMethod m_X4_plantNode.1 ∈ am_Gl := am_t3 66 rfl rfl
theorem s_X4_plantNode : Cond.selects m_X4_plantNode.1.cls m_X4_plantNode.1 m_X4_plantNode.1 ∈ am_Gl := am_s2 10 rfl rfl
abbrev m_X4_await : am_M := (yX4_await, cX4_await, 4, none, [], none)
theorem k_X4_await : am_mk m_X4_await 3 := ⟨am_t3 63 rfl rfl, n_X4, by decide +kernel, by decide, rfl⟩
theorem i_X4_await : Cond.instanceMethod m_X4_await.1 ∈ am_Gl := am_t3 62 rfl rfl
theorem s_X4_await : Cond.selects m_X4_await.1.cls m_X4_await.1 m_X4_await.1 ∈ am_Gl := am_s2 9 rfl rfl
abbrev m_X4_weighSets : am_M := (yX4_weighSets, cX4_weighSets, 5, none, [], none)
theorem k_X4_weighSets : am_mk m_X4_weighSets 2 := ⟨am_t3 34 rfl rfl, n_X4, by decide +kernel, by decide, rfl⟩
theorem i_X4_weighSets : Cond.instanceMethod m_X4_weighSets.1 ∈ am_Gl := am_t3 33 rfl rfl
theorem s_X4_weighSets : Cond.selects m_X4_weighSets.1.cls m_X4_weighSets.1 m_X4_weighSets.1 ∈ am_Gl := am_s2 4 rfl rfl
abbrev m_X4_groupTolls : am_M := (yX4_groupTolls, cX4_groupTolls, 4, none, [], none)
theorem k_X4_groupTolls : am_mk m_X4_groupTolls 1 := ⟨am_t3 38 rfl rfl, n_X4, by decide +kernel, by decide, rfl⟩
theorem i_X4_groupTolls : Cond.instanceMethod m_X4_groupTolls.1 ∈ am_Gl := am_t3 37 rfl rfl
theorem s_X4_groupTolls : Cond.selects m_X4_groupTolls.1.cls m_X4_groupTolls.1 m_X4_groupTolls.1 ∈ am_Gl := am_s2 5 rfl rfl
abbrev m_X4_needChildren : am_M := (yX4_needChildren, cX4_needChildren, 8, none, [], none)
theorem k_X4_needChildren : am_mk m_X4_needChildren 3 := ⟨am_t3 45 rfl rfl, n_X4, by decide +kernel, by decide, rfl⟩
theorem i_X4_needChildren : Cond.instanceMethod m_X4_needChildren.1 ∈ am_Gl := am_t3 44 rfl rfl
theorem s_X4_needChildren : Cond.selects m_X4_needChildren.1.cls m_X4_needChildren.1 m_X4_needChildren.1 ∈ am_Gl := am_s2 6 rfl rfl
abbrev m_X4_fewestLeafErrors : am_M := (yX4_fewestLeafErrors, cX4_fewestLeafErrors, 5, (some .int), [], none)
theorem k_X4_fewestLeafErrors : am_mk m_X4_fewestLeafErrors 2 := ⟨am_t3 49 rfl rfl, n_X4, by decide +kernel, by decide, rfl⟩
theorem i_X4_fewestLeafErrors : Cond.instanceMethod m_X4_fewestLeafErrors.1 ∈ am_Gl := am_t3 48 rfl rfl
theorem s_X4_fewestLeafErrors : Cond.selects m_X4_fewestLeafErrors.1.cls m_X4_fewestLeafErrors.1 m_X4_fewestLeafErrors.1 ∈ am_Gl := am_s2 7 rfl rfl
abbrev m_X4_rankSet : am_M := (yX4_rankSet, cX4_rankSet, 14, none, [], none)
theorem k_X4_rankSet : am_mk m_X4_rankSet 4 := ⟨am_t3 56 rfl rfl, n_X4, by decide +kernel, by decide, rfl⟩
theorem i_X4_rankSet : Cond.instanceMethod m_X4_rankSet.1 ∈ am_Gl := am_t3 55 rfl rfl
theorem s_X4_rankSet : Cond.selects m_X4_rankSet.1.cls m_X4_rankSet.1 m_X4_rankSet.1 ∈ am_Gl := am_s2 8 rfl rfl
abbrev m_X4_bestToll : am_M := (yX4_bestToll, cX4_bestToll, 8, (some .int), [], none)
theorem k_X4_bestToll : am_mk m_X4_bestToll 2 := ⟨am_t3 78 rfl rfl, n_X4, by decide +kernel, by decide, rfl⟩
theorem i_X4_bestToll : Cond.instanceMethod m_X4_bestToll.1 ∈ am_Gl := am_t3 77 rfl rfl
theorem s_X4_bestToll : Cond.selects m_X4_bestToll.1.cls m_X4_bestToll.1 m_X4_bestToll.1 ∈ am_Gl := am_s2 11 rfl rfl
abbrev m_X5_init : am_M := (yX5_init, cX5_init, 2, none, [], none)
theorem n_X5 : Cond.initialized RX5 ∈ am_Gl := am_t1 3 rfl rfl
theorem k_X5_init : am_mk m_X5_init 0 := ⟨am_t1 73 rfl rfl, n_X5, by decide +kernel, by decide, rfl⟩
theorem i_X5_init : Cond.instanceMethod m_X5_init.1 ∈ am_Gl := am_t1 72 rfl rfl
abbrev m_X5_empty : am_M := (yX5_empty, cX5_empty, 1, none, [], none)
theorem k_X5_empty : am_mk m_X5_empty 0 := ⟨am_t3 132 rfl rfl, n_X5, by decide +kernel, by decide, rfl⟩
theorem i_X5_empty : Cond.instanceMethod m_X5_empty.1 ∈ am_Gl := am_t3 130 rfl rfl
theorem s_X5_empty : Cond.selects m_X5_empty.1.cls m_X5_empty.1 m_X5_empty.1 ∈ am_Gl := am_t3 131 rfl rfl
abbrev m_X5_copyFrom : am_M := (yX5_copyFrom, cX5_copyFrom, 3, none, [], none)
theorem k_X5_copyFrom : am_mk m_X5_copyFrom 1 := ⟨am_t3 82 rfl rfl, n_X5, by decide +kernel, by decide, rfl⟩
theorem i_X5_copyFrom : Cond.instanceMethod m_X5_copyFrom.1 ∈ am_Gl := am_t3 80 rfl rfl
theorem s_X5_copyFrom : Cond.selects m_X5_copyFrom.1.cls m_X5_copyFrom.1 m_X5_copyFrom.1 ∈ am_Gl := am_t3 81 rfl rfl
abbrev m_X5_allTypes : am_M := (yX5_allTypes, cX5_allTypes, 1, (some .int), [], none)
theorem k_X5_allTypes : am_mk m_X5_allTypes 0 := ⟨am_t3 30 rfl rfl, n_X5, by decide +kernel, by decide, rfl⟩
theorem i_X5_allTypes : Cond.instanceMethod m_X5_allTypes.1 ∈ am_Gl := am_t3 28 rfl rfl
theorem s_X5_allTypes : Cond.selects m_X5_allTypes.1.cls m_X5_allTypes.1 m_X5_allTypes.1 ∈ am_Gl := am_t3 29 rfl rfl
abbrev m_X5_hourOfDay : am_M := (yX5_hourOfDay, cX5_hourOfDay, 1, (some .int), [], none)
theorem k_X5_hourOfDay : am_mk m_X5_hourOfDay 0 := ⟨am_t3 157 rfl rfl, n_X5, by decide +kernel, by decide, rfl⟩
theorem i_X5_hourOfDay : Cond.instanceMethod m_X5_hourOfDay.1 ∈ am_Gl := am_t3 155 rfl rfl
theorem s_X5_hourOfDay : Cond.selects m_X5_hourOfDay.1.cls m_X5_hourOfDay.1 m_X5_hourOfDay.1 ∈ am_Gl := am_t3 156 rfl rfl
abbrev m_X5_openGates : am_M := (yX5_openGates, cX5_openGates, 3, (some .int), [], none)
theorem k_X5_openGates : am_mk m_X5_openGates 0 := ⟨am_t6 21 rfl rfl, n_X5, by decide +kernel, by decide, rfl⟩
theorem i_X5_openGates : Cond.instanceMethod m_X5_openGates.1 ∈ am_Gl := am_t6 19 rfl rfl
theorem s_X5_openGates : Cond.selects m_X5_openGates.1.cls m_X5_openGates.1 m_X5_openGates.1 ∈ am_Gl := am_t6 20 rfl rfl
abbrev m_X5_questionNamed : am_M := (yX5_questionNamed, cX5_questionNamed, 3, (some .int), [], none)
theorem k_X5_questionNamed : am_mk m_X5_questionNamed 1 := ⟨am_t2 198 rfl rfl, n_X5, by decide +kernel, by decide, rfl⟩
theorem i_X5_questionNamed : Cond.instanceMethod m_X5_questionNamed.1 ∈ am_Gl := am_t2 196 rfl rfl
theorem s_X5_questionNamed : Cond.selects m_X5_questionNamed.1.cls m_X5_questionNamed.1 m_X5_questionNamed.1 ∈ am_Gl := am_t2 197 rfl rfl
abbrev m_X5_typeNamed : am_M := (yX5_typeNamed, cX5_typeNamed, 3, (some .int), [], none)
theorem k_X5_typeNamed : am_mk m_X5_typeNamed 1 := ⟨am_t2 230 rfl rfl, n_X5, by decide +kernel, by decide, rfl⟩
theorem i_X5_typeNamed : Cond.instanceMethod m_X5_typeNamed.1 ∈ am_Gl := am_t2 228 rfl rfl
theorem s_X5_typeNamed : Cond.selects m_X5_typeNamed.1.cls m_X5_typeNamed.1 m_X5_typeNamed.1 ∈ am_Gl := am_t2 229 rfl rfl
abbrev m_X5_gateNamed : am_M := (yX5_gateNamed, cX5_gateNamed, 4, (some .int), [], none)
theorem k_X5_gateNamed : am_mk m_X5_gateNamed 1 := ⟨am_t3 14 rfl rfl, n_X5, by decide +kernel, by decide, rfl⟩
theorem i_X5_gateNamed : Cond.instanceMethod m_X5_gateNamed.1 ∈ am_Gl := am_t3 12 rfl rfl
theorem s_X5_gateNamed : Cond.selects m_X5_gateNamed.1.cls m_X5_gateNamed.1 m_X5_gateNamed.1 ∈ am_Gl := am_t3 13 rfl rfl
abbrev m_X5_indexOfName : am_M := (yX5_indexOfName, cX5_indexOfName, 5, (some .int), [], none)
theorem k_X5_indexOfName : am_mk m_X5_indexOfName 3 := ⟨am_t2 201 rfl rfl, n_X5, by decide +kernel, by decide, rfl⟩
theorem t_X5_indexOfName : Cond.static m_X5_indexOfName.1 ∈ am_Gl := am_t2 200 rfl rfl
abbrev m_X5_letPass : am_M := (yX5_letPass, cX5_letPass, 5, (some .int), [], none)
theorem k_X5_letPass : am_mk m_X5_letPass 3 := ⟨am_t3 165 rfl rfl, n_X5, by decide +kernel, by decide, rfl⟩
theorem i_X5_letPass : Cond.instanceMethod m_X5_letPass.1 ∈ am_Gl := am_t3 163 rfl rfl
theorem s_X5_letPass : Cond.selects m_X5_letPass.1.cls m_X5_letPass.1 m_X5_letPass.1 ∈ am_Gl := am_t3 164 rfl rfl
abbrev m_X5_costOfPath : am_M := (yX5_costOfPath, cX5_costOfPath, 6, (some .int), [], none)
theorem k_X5_costOfPath : am_mk m_X5_costOfPath 2 := ⟨am_t3 177 rfl rfl, n_X5, by decide +kernel, by decide, rfl⟩
theorem i_X5_costOfPath : Cond.instanceMethod m_X5_costOfPath.1 ∈ am_Gl := am_t3 175 rfl rfl
theorem s_X5_costOfPath : Cond.selects m_X5_costOfPath.1.cls m_X5_costOfPath.1 m_X5_costOfPath.1 ∈ am_Gl := am_t3 176 rfl rfl
abbrev m_X5_errorsNow : am_M := (yX5_errorsNow, cX5_errorsNow, 4, (some .int), [], none)
theorem k_X5_errorsNow : am_mk m_X5_errorsNow 1 := ⟨am_t4 93 rfl rfl, n_X5, by decide +kernel, by decide, rfl⟩
theorem i_X5_errorsNow : Cond.instanceMethod m_X5_errorsNow.1 ∈ am_Gl := am_t4 91 rfl rfl
theorem s_X5_errorsNow : Cond.selects m_X5_errorsNow.1.cls m_X5_errorsNow.1 m_X5_errorsNow.1 ∈ am_Gl := am_t4 92 rfl rfl
abbrev m_X5_workNow : am_M := (yX5_workNow, cX5_workNow, 5, (some .int), [], none)
theorem k_X5_workNow : am_mk m_X5_workNow 1 := ⟨am_t4 100 rfl rfl, n_X5, by decide +kernel, by decide, rfl⟩
theorem i_X5_workNow : Cond.instanceMethod m_X5_workNow.1 ∈ am_Gl := am_t4 98 rfl rfl
theorem s_X5_workNow : Cond.selects m_X5_workNow.1.cls m_X5_workNow.1 m_X5_workNow.1 ∈ am_Gl := am_t4 99 rfl rfl
abbrev m_X5_workByTypes : am_M := (yX5_workByTypes, cX5_workByTypes, 4, (some .int), [], none)
theorem k_X5_workByTypes : am_mk m_X5_workByTypes 1 := ⟨am_t5 161 rfl rfl, n_X5, by decide +kernel, by decide, rfl⟩
theorem i_X5_workByTypes : Cond.instanceMethod m_X5_workByTypes.1 ∈ am_Gl := am_t5 159 rfl rfl
theorem s_X5_workByTypes : Cond.selects m_X5_workByTypes.1.cls m_X5_workByTypes.1 m_X5_workByTypes.1 ∈ am_Gl := am_t5 160 rfl rfl
abbrev m_X5_isSplittable : am_M := (yX5_isSplittable, cX5_isSplittable, 3, (some .boolean), [], none)
theorem k_X5_isSplittable : am_mk m_X5_isSplittable 1 := ⟨am_t5 101 rfl rfl, n_X5, by decide +kernel, by decide, rfl⟩
theorem i_X5_isSplittable : Cond.instanceMethod m_X5_isSplittable.1 ∈ am_Gl := am_t5 99 rfl rfl
theorem s_X5_isSplittable : Cond.selects m_X5_isSplittable.1.cls m_X5_isSplittable.1 m_X5_isSplittable.1 ∈ am_Gl := am_t5 100 rfl rfl
abbrev m_X5_hasTwinWithToll : am_M := (yX5_hasTwinWithToll, cX5_hasTwinWithToll, 4, (some .boolean), [], none)
theorem k_X5_hasTwinWithToll : am_mk m_X5_hasTwinWithToll 2 := ⟨am_t5 97 rfl rfl, n_X5, by decide +kernel, by decide, rfl⟩
theorem i_X5_hasTwinWithToll : Cond.instanceMethod m_X5_hasTwinWithToll.1 ∈ am_Gl := am_t5 95 rfl rfl
theorem s_X5_hasTwinWithToll : Cond.selects m_X5_hasTwinWithToll.1.cls m_X5_hasTwinWithToll.1 m_X5_hasTwinWithToll.1 ∈ am_Gl := am_t5 96 rfl rfl
abbrev m_X6_init : am_M := (yX6_init, cX6_init, 1, none, [], none)
theorem n_X6 : Cond.initialized RX6 ∈ am_Gl := am_t1 4 rfl rfl
theorem k_X6_init : am_mk m_X6_init 0 := ⟨am_t1 81 rfl rfl, n_X6, by decide +kernel, by decide, rfl⟩
theorem i_X6_init : Cond.instanceMethod m_X6_init.1 ∈ am_Gl := am_t1 80 rfl rfl
abbrev m_X6_reset : am_M := (yX6_reset, cX6_reset, 1, none, [], none)
theorem k_X6_reset : am_mk m_X6_reset 0 := ⟨am_t3 136 rfl rfl, n_X6, by decide +kernel, by decide, rfl⟩
theorem i_X6_reset : Cond.instanceMethod m_X6_reset.1 ∈ am_Gl := am_t3 134 rfl rfl
theorem s_X6_reset : Cond.selects m_X6_reset.1.cls m_X6_reset.1 m_X6_reset.1 ∈ am_Gl := am_t3 135 rfl rfl
abbrev m_X6_copyFrom : am_M := (yX6_copyFrom, cX6_copyFrom, 2, none, [], none)
theorem k_X6_copyFrom : am_mk m_X6_copyFrom 1 := ⟨am_t3 99 rfl rfl, n_X6, by decide +kernel, by decide, rfl⟩
theorem i_X6_copyFrom : Cond.instanceMethod m_X6_copyFrom.1 ∈ am_Gl := am_t3 97 rfl rfl
theorem s_X6_copyFrom : Cond.selects m_X6_copyFrom.1.cls m_X6_copyFrom.1 m_X6_copyFrom.1 ∈ am_Gl := am_t3 98 rfl rfl
abbrev m_X6_add : am_M := (yX6_add, cX6_add, 5, none, [], none)
theorem k_X6_add : am_mk m_X6_add 4 := ⟨am_t3 182 rfl rfl, n_X6, by decide +kernel, by decide, rfl⟩
theorem i_X6_add : Cond.instanceMethod m_X6_add.1 ∈ am_Gl := am_t3 180 rfl rfl
theorem s_X6_add : Cond.selects m_X6_add.1.cls m_X6_add.1 m_X6_add.1 ∈ am_Gl := am_t3 181 rfl rfl
abbrev m_X7_init : am_M := (yX7_init, cX7_init, 1, none, [], none)
theorem n_X7 : Cond.initialized RX7 ∈ am_Gl := am_t1 6 rfl rfl
theorem k_X7_init : am_mk m_X7_init 0 := ⟨am_t1 125 rfl rfl, n_X7, by decide +kernel, by decide, rfl⟩
theorem i_X7_init : Cond.instanceMethod m_X7_init.1 ∈ am_Gl := am_t1 124 rfl rfl
abbrev m_X7_copyFrom : am_M := (yX7_copyFrom, cX7_copyFrom, 2, none, [], none)
theorem k_X7_copyFrom : am_mk m_X7_copyFrom 1 := ⟨am_t3 94 rfl rfl, n_X7, by decide +kernel, by decide, rfl⟩
theorem i_X7_copyFrom : Cond.instanceMethod m_X7_copyFrom.1 ∈ am_Gl := am_t3 92 rfl rfl
theorem s_X7_copyFrom : Cond.selects m_X7_copyFrom.1.cls m_X7_copyFrom.1 m_X7_copyFrom.1 ∈ am_Gl := am_t3 93 rfl rfl
abbrev m_X7_firstChild : am_M := (yX7_firstChild, cX7_firstChild, 2, (some .int), [], none)
theorem k_X7_firstChild : am_mk m_X7_firstChild 1 := ⟨am_t5 14 rfl rfl, n_X7, by decide +kernel, by decide, rfl⟩
theorem i_X7_firstChild : Cond.instanceMethod m_X7_firstChild.1 ∈ am_Gl := am_t5 12 rfl rfl
theorem s_X7_firstChild : Cond.selects m_X7_firstChild.1.cls m_X7_firstChild.1 m_X7_firstChild.1 ∈ am_Gl := am_t5 13 rfl rfl
abbrev m_X7_leafHolding : am_M := (yX7_leafHolding, cX7_leafHolding, 3, (some .int), [], none)
theorem k_X7_leafHolding : am_mk m_X7_leafHolding 1 := ⟨am_t3 173 rfl rfl, n_X7, by decide +kernel, by decide, rfl⟩
theorem i_X7_leafHolding : Cond.instanceMethod m_X7_leafHolding.1 ∈ am_Gl := am_t3 171 rfl rfl
theorem s_X7_leafHolding : Cond.selects m_X7_leafHolding.1.cls m_X7_leafHolding.1 m_X7_leafHolding.1 ∈ am_Gl := am_t3 172 rfl rfl
abbrev m_X7_tollFor : am_M := (yX7_tollFor, cX7_tollFor, 2, (some .int), [], none)
theorem k_X7_tollFor : am_mk m_X7_tollFor 1 := ⟨am_t3 169 rfl rfl, n_X7, by decide +kernel, by decide, rfl⟩
theorem i_X7_tollFor : Cond.instanceMethod m_X7_tollFor.1 ∈ am_Gl := am_t3 167 rfl rfl
theorem s_X7_tollFor : Cond.selects m_X7_tollFor.1.cls m_X7_tollFor.1 m_X7_tollFor.1 ∈ am_Gl := am_t3 168 rfl rfl
abbrev m_X7_emptyLeaves : am_M := (yX7_emptyLeaves, cX7_emptyLeaves, 3, (some .int), [], none)
theorem k_X7_emptyLeaves : am_mk m_X7_emptyLeaves 0 := ⟨am_t5 165 rfl rfl, n_X7, by decide +kernel, by decide, rfl⟩
theorem i_X7_emptyLeaves : Cond.instanceMethod m_X7_emptyLeaves.1 ∈ am_Gl := am_t5 163 rfl rfl
theorem s_X7_emptyLeaves : Cond.selects m_X7_emptyLeaves.1.cls m_X7_emptyLeaves.1 m_X7_emptyLeaves.1 ∈ am_Gl := am_t5 164 rfl rfl
abbrev m_X8_init : am_M := (yX8_init, cX8_init, 2, none, [], none)
theorem n_X8 : Cond.initialized RX8 ∈ am_Gl := am_t1 1 rfl rfl
theorem k_X8_init : am_mk m_X8_init 0 := ⟨am_t1 32 rfl rfl, n_X8, by decide +kernel, by decide, rfl⟩
theorem i_X8_init : Cond.instanceMethod m_X8_init.1 ∈ am_Gl := am_t1 31 rfl rfl
abbrev m_X8_append : am_M := (yX8_append, cX8_append, 6, (some .int), [], none)
theorem k_X8_append : am_mk m_X8_append 5 := ⟨am_t4 199 rfl rfl, n_X8, by decide +kernel, by decide, rfl⟩
theorem i_X8_append : Cond.instanceMethod m_X8_append.1 ∈ am_Gl := am_t4 197 rfl rfl
theorem s_X8_append : Cond.selects m_X8_append.1.cls m_X8_append.1 m_X8_append.1 ∈ am_Gl := am_t4 198 rfl rfl
abbrev m_X8_truncateInput : am_M := (yX8_truncateInput, cX8_truncateInput, 2, (some .int), [], none)
theorem k_X8_truncateInput : am_mk m_X8_truncateInput 1 := ⟨am_t4 190 rfl rfl, n_X8, by decide +kernel, by decide, rfl⟩
theorem i_X8_truncateInput : Cond.instanceMethod m_X8_truncateInput.1 ∈ am_Gl := am_t4 188 rfl rfl
theorem s_X8_truncateInput : Cond.selects m_X8_truncateInput.1.cls m_X8_truncateInput.1 m_X8_truncateInput.1 ∈ am_Gl := am_t4 189 rfl rfl
abbrev m_X8_load : am_M := (yX8_load, cX8_load, 2, (some .int), [], none)
theorem k_X8_load : am_mk m_X8_load 0 := ⟨am_t3 128 rfl rfl, n_X8, by decide +kernel, by decide, rfl⟩
theorem i_X8_load : Cond.instanceMethod m_X8_load.1 ∈ am_Gl := am_t3 126 rfl rfl
theorem s_X8_load : Cond.selects m_X8_load.1.cls m_X8_load.1 m_X8_load.1 ∈ am_Gl := am_t3 127 rfl rfl
abbrev m_X8_passCarts : am_M := (yX8_passCarts, cX8_passCarts, 4, (some .int), [], none)
theorem k_X8_passCarts : am_mk m_X8_passCarts 3 := ⟨am_t5 218 rfl rfl, n_X8, by decide +kernel, by decide, rfl⟩
theorem i_X8_passCarts : Cond.instanceMethod m_X8_passCarts.1 ∈ am_Gl := am_t5 216 rfl rfl
theorem s_X8_passCarts : Cond.selects m_X8_passCarts.1.cls m_X8_passCarts.1 m_X8_passCarts.1 ∈ am_Gl := am_t5 217 rfl rfl
abbrev m_X8_buildTree : am_M := (yX8_buildTree, cX8_buildTree, 2, (some .int), [], none)
theorem k_X8_buildTree : am_mk m_X8_buildTree 1 := ⟨am_t5 203 rfl rfl, n_X8, by decide +kernel, by decide, rfl⟩
theorem i_X8_buildTree : Cond.instanceMethod m_X8_buildTree.1 ∈ am_Gl := am_t5 201 rfl rfl
theorem s_X8_buildTree : Cond.selects m_X8_buildTree.1.cls m_X8_buildTree.1 m_X8_buildTree.1 ∈ am_Gl := am_t5 202 rfl rfl
abbrev m_X8_halveCounts : am_M := (yX8_halveCounts, cX8_halveCounts, 2, (some .int), [], none)
theorem k_X8_halveCounts : am_mk m_X8_halveCounts 1 := ⟨am_t5 230 rfl rfl, n_X8, by decide +kernel, by decide, rfl⟩
theorem i_X8_halveCounts : Cond.instanceMethod m_X8_halveCounts.1 ∈ am_Gl := am_t5 228 rfl rfl
theorem s_X8_halveCounts : Cond.selects m_X8_halveCounts.1.cls m_X8_halveCounts.1 m_X8_halveCounts.1 ∈ am_Gl := am_t5 229 rfl rfl
abbrev m_X8_setToll : am_M := (yX8_setToll, cX8_setToll, 4, (some .int), [], none)
theorem k_X8_setToll : am_mk m_X8_setToll 2 := ⟨am_t5 239 rfl rfl, n_X8, by decide +kernel, by decide, rfl⟩
theorem i_X8_setToll : Cond.instanceMethod m_X8_setToll.1 ∈ am_Gl := am_t5 237 rfl rfl
theorem s_X8_setToll : Cond.selects m_X8_setToll.1.cls m_X8_setToll.1 m_X8_setToll.1 ∈ am_Gl := am_t5 238 rfl rfl
abbrev m_X8_setCostLimit : am_M := (yX8_setCostLimit, cX8_setCostLimit, 4, (some .int), [], none)
theorem k_X8_setCostLimit : am_mk m_X8_setCostLimit 2 := ⟨am_t6 6 rfl rfl, n_X8, by decide +kernel, by decide, rfl⟩
theorem i_X8_setCostLimit : Cond.instanceMethod m_X8_setCostLimit.1 ∈ am_Gl := am_t6 4 rfl rfl
theorem s_X8_setCostLimit : Cond.selects m_X8_setCostLimit.1.cls m_X8_setCostLimit.1 m_X8_setCostLimit.1 ∈ am_Gl := am_t6 5 rfl rfl
abbrev m_X8_advanceClock : am_M := (yX8_advanceClock, cX8_advanceClock, 2, (some .int), [], none)
theorem k_X8_advanceClock : am_mk m_X8_advanceClock 1 := ⟨am_t6 17 rfl rfl, n_X8, by decide +kernel, by decide, rfl⟩
theorem i_X8_advanceClock : Cond.instanceMethod m_X8_advanceClock.1 ∈ am_Gl := am_t6 15 rfl rfl
theorem s_X8_advanceClock : Cond.selects m_X8_advanceClock.1.cls m_X8_advanceClock.1 m_X8_advanceClock.1 ∈ am_Gl := am_t6 16 rfl rfl
abbrev m_X8_undo : am_M := (yX8_undo, cX8_undo, 1, (some .int), [], none)
theorem k_X8_undo : am_mk m_X8_undo 0 := ⟨am_t4 117 rfl rfl, n_X8, by decide +kernel, by decide, rfl⟩
theorem i_X8_undo : Cond.instanceMethod m_X8_undo.1 ∈ am_Gl := am_t4 115 rfl rfl
theorem s_X8_undo : Cond.selects m_X8_undo.1.cls m_X8_undo.1 m_X8_undo.1 ∈ am_Gl := am_t4 116 rfl rfl
abbrev m_X8_questionCount : am_M := (yX8_questionCount, cX8_questionCount, 1, (some .int), [], none)
theorem k_X8_questionCount : am_mk m_X8_questionCount 0 := ⟨am_t5 135 rfl rfl, n_X8, by decide +kernel, by decide, rfl⟩
theorem i_X8_questionCount : Cond.instanceMethod m_X8_questionCount.1 ∈ am_Gl := am_t5 133 rfl rfl
theorem s_X8_questionCount : Cond.selects m_X8_questionCount.1.cls m_X8_questionCount.1 m_X8_questionCount.1 ∈ am_Gl := am_t5 134 rfl rfl
abbrev m_X8_typeCount : am_M := (yX8_typeCount, cX8_typeCount, 1, (some .int), [], none)
theorem k_X8_typeCount : am_mk m_X8_typeCount 0 := ⟨am_t5 25 rfl rfl, n_X8, by decide +kernel, by decide, rfl⟩
theorem i_X8_typeCount : Cond.instanceMethod m_X8_typeCount.1 ∈ am_Gl := am_t5 23 rfl rfl
theorem s_X8_typeCount : Cond.selects m_X8_typeCount.1.cls m_X8_typeCount.1 m_X8_typeCount.1 ∈ am_Gl := am_t5 24 rfl rfl
abbrev m_X8_gateCount : am_M := (yX8_gateCount, cX8_gateCount, 1, (some .int), [], none)
theorem k_X8_gateCount : am_mk m_X8_gateCount 0 := ⟨am_t4 215 rfl rfl, n_X8, by decide +kernel, by decide, rfl⟩
theorem i_X8_gateCount : Cond.instanceMethod m_X8_gateCount.1 ∈ am_Gl := am_t4 213 rfl rfl
theorem s_X8_gateCount : Cond.selects m_X8_gateCount.1.cls m_X8_gateCount.1 m_X8_gateCount.1 ∈ am_Gl := am_t4 214 rfl rfl
abbrev m_X8_clock : am_M := (yX8_clock, cX8_clock, 1, (some .int), [], none)
theorem k_X8_clock : am_mk m_X8_clock 0 := ⟨am_t6 10 rfl rfl, n_X8, by decide +kernel, by decide, rfl⟩
theorem i_X8_clock : Cond.instanceMethod m_X8_clock.1 ∈ am_Gl := am_t6 8 rfl rfl
theorem s_X8_clock : Cond.selects m_X8_clock.1.cls m_X8_clock.1 m_X8_clock.1 ∈ am_Gl := am_t6 9 rfl rfl
abbrev m_X8_undoableChanges : am_M := (yX8_undoableChanges, cX8_undoableChanges, 1, (some .int), [], none)
theorem k_X8_undoableChanges : am_mk m_X8_undoableChanges 0 := ⟨am_t3 232 rfl rfl, n_X8, by decide +kernel, by decide, rfl⟩
theorem i_X8_undoableChanges : Cond.instanceMethod m_X8_undoableChanges.1 ∈ am_Gl := am_t3 230 rfl rfl
theorem s_X8_undoableChanges : Cond.selects m_X8_undoableChanges.1.cls m_X8_undoableChanges.1 m_X8_undoableChanges.1 ∈ am_Gl := am_t3 231 rfl rfl
abbrev m_X8_questionCost : am_M := (yX8_questionCost, cX8_questionCost, 2, (some .int), [], none)
theorem k_X8_questionCost : am_mk m_X8_questionCost 1 := ⟨am_t5 32 rfl rfl, n_X8, by decide +kernel, by decide, rfl⟩
theorem i_X8_questionCost : Cond.instanceMethod m_X8_questionCost.1 ∈ am_Gl := am_t5 30 rfl rfl
theorem s_X8_questionCost : Cond.selects m_X8_questionCost.1.cls m_X8_questionCost.1 m_X8_questionCost.1 ∈ am_Gl := am_t5 31 rfl rfl
abbrev m_X8_hasTrait : am_M := (yX8_hasTrait, cX8_hasTrait, 3, (some .boolean), [], none)
theorem k_X8_hasTrait : am_mk m_X8_hasTrait 2 := ⟨am_t5 43 rfl rfl, n_X8, by decide +kernel, by decide, rfl⟩
theorem i_X8_hasTrait : Cond.instanceMethod m_X8_hasTrait.1 ∈ am_Gl := am_t5 41 rfl rfl
theorem s_X8_hasTrait : Cond.selects m_X8_hasTrait.1.cls m_X8_hasTrait.1 m_X8_hasTrait.1 ∈ am_Gl := am_t5 42 rfl rfl
abbrev m_X8_toll : am_M := (yX8_toll, cX8_toll, 2, (some .int), [], none)
theorem k_X8_toll : am_mk m_X8_toll 1 := ⟨am_t5 79 rfl rfl, n_X8, by decide +kernel, by decide, rfl⟩
theorem i_X8_toll : Cond.instanceMethod m_X8_toll.1 ∈ am_Gl := am_t5 77 rfl rfl
theorem s_X8_toll : Cond.selects m_X8_toll.1.cls m_X8_toll.1 m_X8_toll.1 ∈ am_Gl := am_t5 78 rfl rfl
abbrev m_X8_countAt : am_M := (yX8_countAt, cX8_countAt, 3, (some .int), [], none)
theorem k_X8_countAt : am_mk m_X8_countAt 2 := ⟨am_t5 86 rfl rfl, n_X8, by decide +kernel, by decide, rfl⟩
theorem i_X8_countAt : Cond.instanceMethod m_X8_countAt.1 ∈ am_Gl := am_t5 84 rfl rfl
theorem s_X8_countAt : Cond.selects m_X8_countAt.1.cls m_X8_countAt.1 m_X8_countAt.1 ∈ am_Gl := am_t5 85 rfl rfl
abbrev m_X8_costLimit : am_M := (yX8_costLimit, cX8_costLimit, 2, (some .int), [], none)
theorem k_X8_costLimit : am_mk m_X8_costLimit 1 := ⟨am_t4 144 rfl rfl, n_X8, by decide +kernel, by decide, rfl⟩
theorem i_X8_costLimit : Cond.instanceMethod m_X8_costLimit.1 ∈ am_Gl := am_t4 142 rfl rfl
theorem s_X8_costLimit : Cond.selects m_X8_costLimit.1.cls m_X8_costLimit.1 m_X8_costLimit.1 ∈ am_Gl := am_t4 143 rfl rfl
abbrev m_X8_isOpen : am_M := (yX8_isOpen, cX8_isOpen, 2, (some .boolean), [], none)
theorem k_X8_isOpen : am_mk m_X8_isOpen 1 := ⟨am_t5 122 rfl rfl, n_X8, by decide +kernel, by decide, rfl⟩
theorem i_X8_isOpen : Cond.instanceMethod m_X8_isOpen.1 ∈ am_Gl := am_t5 120 rfl rfl
theorem s_X8_isOpen : Cond.selects m_X8_isOpen.1.cls m_X8_isOpen.1 m_X8_isOpen.1 ∈ am_Gl := am_t5 121 rfl rfl
abbrev m_X8_hoursUntilOpen : am_M := (yX8_hoursUntilOpen, cX8_hoursUntilOpen, 2, (some .int), [], none)
theorem k_X8_hoursUntilOpen : am_mk m_X8_hoursUntilOpen 1 := ⟨am_t5 109 rfl rfl, n_X8, by decide +kernel, by decide, rfl⟩
theorem i_X8_hoursUntilOpen : Cond.instanceMethod m_X8_hoursUntilOpen.1 ∈ am_Gl := am_t5 107 rfl rfl
theorem s_X8_hoursUntilOpen : Cond.selects m_X8_hoursUntilOpen.1.cls m_X8_hoursUntilOpen.1 m_X8_hoursUntilOpen.1 ∈ am_Gl := am_t5 108 rfl rfl
abbrev m_X8_cartsPassed : am_M := (yX8_cartsPassed, cX8_cartsPassed, 1, (some .int), [], none)
theorem k_X8_cartsPassed : am_mk m_X8_cartsPassed 0 := ⟨am_t5 193 rfl rfl, n_X8, by decide +kernel, by decide, rfl⟩
theorem i_X8_cartsPassed : Cond.instanceMethod m_X8_cartsPassed.1 ∈ am_Gl := am_t5 191 rfl rfl
theorem s_X8_cartsPassed : Cond.selects m_X8_cartsPassed.1.cls m_X8_cartsPassed.1 m_X8_cartsPassed.1 ∈ am_Gl := am_t5 192 rfl rfl
abbrev m_X8_costAsked : am_M := (yX8_costAsked, cX8_costAsked, 1, (some .int), [], none)
theorem k_X8_costAsked : am_mk m_X8_costAsked 0 := ⟨am_t5 211 rfl rfl, n_X8, by decide +kernel, by decide, rfl⟩
theorem i_X8_costAsked : Cond.instanceMethod m_X8_costAsked.1 ∈ am_Gl := am_t5 209 rfl rfl
theorem s_X8_costAsked : Cond.selects m_X8_costAsked.1.cls m_X8_costAsked.1 m_X8_costAsked.1 ∈ am_Gl := am_t5 210 rfl rfl
abbrev m_X8_tollsPaid : am_M := (yX8_tollsPaid, cX8_tollsPaid, 1, (some .int), [], none)
theorem k_X8_tollsPaid : am_mk m_X8_tollsPaid 0 := ⟨am_t5 169 rfl rfl, n_X8, by decide +kernel, by decide, rfl⟩
theorem i_X8_tollsPaid : Cond.instanceMethod m_X8_tollsPaid.1 ∈ am_Gl := am_t5 167 rfl rfl
theorem s_X8_tollsPaid : Cond.selects m_X8_tollsPaid.1.cls m_X8_tollsPaid.1 m_X8_tollsPaid.1 ∈ am_Gl := am_t5 168 rfl rfl
abbrev m_X8_tollsDue : am_M := (yX8_tollsDue, cX8_tollsDue, 1, (some .int), [], none)
theorem k_X8_tollsDue : am_mk m_X8_tollsDue 0 := ⟨am_t5 173 rfl rfl, n_X8, by decide +kernel, by decide, rfl⟩
theorem i_X8_tollsDue : Cond.instanceMethod m_X8_tollsDue.1 ∈ am_Gl := am_t5 171 rfl rfl
theorem s_X8_tollsDue : Cond.selects m_X8_tollsDue.1.cls m_X8_tollsDue.1 m_X8_tollsDue.1 ∈ am_Gl := am_t5 172 rfl rfl
abbrev m_X8_cartsOvercharged : am_M := (yX8_cartsOvercharged, cX8_cartsOvercharged, 1, (some .int), [], none)
theorem k_X8_cartsOvercharged : am_mk m_X8_cartsOvercharged 0 := ⟨am_t5 185 rfl rfl, n_X8, by decide +kernel, by decide, rfl⟩
theorem i_X8_cartsOvercharged : Cond.instanceMethod m_X8_cartsOvercharged.1 ∈ am_Gl := am_t5 183 rfl rfl
theorem s_X8_cartsOvercharged : Cond.selects m_X8_cartsOvercharged.1.cls m_X8_cartsOvercharged.1 m_X8_cartsOvercharged.1 ∈ am_Gl := am_t5 184 rfl rfl
abbrev m_X8_cartsUndercharged : am_M := (yX8_cartsUndercharged, cX8_cartsUndercharged, 1, (some .int), [], none)
theorem k_X8_cartsUndercharged : am_mk m_X8_cartsUndercharged 0 := ⟨am_t5 189 rfl rfl, n_X8, by decide +kernel, by decide, rfl⟩
theorem i_X8_cartsUndercharged : Cond.instanceMethod m_X8_cartsUndercharged.1 ∈ am_Gl := am_t5 187 rfl rfl
theorem s_X8_cartsUndercharged : Cond.selects m_X8_cartsUndercharged.1.cls m_X8_cartsUndercharged.1 m_X8_cartsUndercharged.1 ∈ am_Gl := am_t5 188 rfl rfl
abbrev m_X8_overcharge : am_M := (yX8_overcharge, cX8_overcharge, 1, (some .int), [], none)
theorem k_X8_overcharge : am_mk m_X8_overcharge 0 := ⟨am_t5 177 rfl rfl, n_X8, by decide +kernel, by decide, rfl⟩
theorem i_X8_overcharge : Cond.instanceMethod m_X8_overcharge.1 ∈ am_Gl := am_t5 175 rfl rfl
theorem s_X8_overcharge : Cond.selects m_X8_overcharge.1.cls m_X8_overcharge.1 m_X8_overcharge.1 ∈ am_Gl := am_t5 176 rfl rfl
abbrev m_X8_undercharge : am_M := (yX8_undercharge, cX8_undercharge, 1, (some .int), [], none)
theorem k_X8_undercharge : am_mk m_X8_undercharge 0 := ⟨am_t5 181 rfl rfl, n_X8, by decide +kernel, by decide, rfl⟩
theorem i_X8_undercharge : Cond.instanceMethod m_X8_undercharge.1 ∈ am_Gl := am_t5 179 rfl rfl
theorem s_X8_undercharge : Cond.selects m_X8_undercharge.1.cls m_X8_undercharge.1 m_X8_undercharge.1 ∈ am_Gl := am_t5 180 rfl rfl
abbrev m_X8_nodeCount : am_M := (yX8_nodeCount, cX8_nodeCount, 2, (some .int), [], none)
theorem k_X8_nodeCount : am_mk m_X8_nodeCount 1 := ⟨am_t4 151 rfl rfl, n_X8, by decide +kernel, by decide, rfl⟩
theorem i_X8_nodeCount : Cond.instanceMethod m_X8_nodeCount.1 ∈ am_Gl := am_t4 149 rfl rfl
theorem s_X8_nodeCount : Cond.selects m_X8_nodeCount.1.cls m_X8_nodeCount.1 m_X8_nodeCount.1 ∈ am_Gl := am_t4 150 rfl rfl
abbrev m_X8_nodeQuestion : am_M := (yX8_nodeQuestion, cX8_nodeQuestion, 3, (some .int), [], none)
theorem k_X8_nodeQuestion : am_mk m_X8_nodeQuestion 2 := ⟨am_t4 225 rfl rfl, n_X8, by decide +kernel, by decide, rfl⟩
theorem i_X8_nodeQuestion : Cond.instanceMethod m_X8_nodeQuestion.1 ∈ am_Gl := am_t4 223 rfl rfl
theorem s_X8_nodeQuestion : Cond.selects m_X8_nodeQuestion.1.cls m_X8_nodeQuestion.1 m_X8_nodeQuestion.1 ∈ am_Gl := am_t4 224 rfl rfl
abbrev m_X8_leafToll : am_M := (yX8_leafToll, cX8_leafToll, 3, (some .int), [], none)
theorem k_X8_leafToll : am_mk m_X8_leafToll 2 := ⟨am_t5 3 rfl rfl, n_X8, by decide +kernel, by decide, rfl⟩
theorem i_X8_leafToll : Cond.instanceMethod m_X8_leafToll.1 ∈ am_Gl := am_t5 1 rfl rfl
theorem s_X8_leafToll : Cond.selects m_X8_leafToll.1.cls m_X8_leafToll.1 m_X8_leafToll.1 ∈ am_Gl := am_t5 2 rfl rfl
abbrev m_X8_yesChild : am_M := (yX8_yesChild, cX8_yesChild, 3, (some .int), [], none)
theorem k_X8_yesChild : am_mk m_X8_yesChild 2 := ⟨am_t5 10 rfl rfl, n_X8, by decide +kernel, by decide, rfl⟩
theorem i_X8_yesChild : Cond.instanceMethod m_X8_yesChild.1 ∈ am_Gl := am_t5 8 rfl rfl
theorem s_X8_yesChild : Cond.selects m_X8_yesChild.1.cls m_X8_yesChild.1 m_X8_yesChild.1 ∈ am_Gl := am_t5 9 rfl rfl
abbrev m_X8_noChild : am_M := (yX8_noChild, cX8_noChild, 3, (some .int), [], none)
theorem k_X8_noChild : am_mk m_X8_noChild 2 := ⟨am_t5 21 rfl rfl, n_X8, by decide +kernel, by decide, rfl⟩
theorem i_X8_noChild : Cond.instanceMethod m_X8_noChild.1 ∈ am_Gl := am_t5 19 rfl rfl
theorem s_X8_noChild : Cond.selects m_X8_noChild.1.cls m_X8_noChild.1 m_X8_noChild.1 ∈ am_Gl := am_t5 20 rfl rfl
abbrev m_X8_typesAt : am_M := (yX8_typesAt, cX8_typesAt, 3, (some .int), [], none)
theorem k_X8_typesAt : am_mk m_X8_typesAt 2 := ⟨am_t4 236 rfl rfl, n_X8, by decide +kernel, by decide, rfl⟩
theorem i_X8_typesAt : Cond.instanceMethod m_X8_typesAt.1 ∈ am_Gl := am_t4 234 rfl rfl
theorem s_X8_typesAt : Cond.selects m_X8_typesAt.1.cls m_X8_typesAt.1 m_X8_typesAt.1 ∈ am_Gl := am_t4 235 rfl rfl
abbrev m_X8_leafOf : am_M := (yX8_leafOf, cX8_leafOf, 3, (some .int), [], none)
theorem k_X8_leafOf : am_mk m_X8_leafOf 2 := ⟨am_t5 55 rfl rfl, n_X8, by decide +kernel, by decide, rfl⟩
theorem i_X8_leafOf : Cond.instanceMethod m_X8_leafOf.1 ∈ am_Gl := am_t5 53 rfl rfl
theorem s_X8_leafOf : Cond.selects m_X8_leafOf.1.cls m_X8_leafOf.1 m_X8_leafOf.1 ∈ am_Gl := am_t5 54 rfl rfl
abbrev m_X8_chargedToll : am_M := (yX8_chargedToll, cX8_chargedToll, 3, (some .int), [], none)
theorem k_X8_chargedToll : am_mk m_X8_chargedToll 2 := ⟨am_t5 71 rfl rfl, n_X8, by decide +kernel, by decide, rfl⟩
theorem i_X8_chargedToll : Cond.instanceMethod m_X8_chargedToll.1 ∈ am_Gl := am_t5 69 rfl rfl
theorem s_X8_chargedToll : Cond.selects m_X8_chargedToll.1.cls m_X8_chargedToll.1 m_X8_chargedToll.1 ∈ am_Gl := am_t5 70 rfl rfl
abbrev m_X8_pathCost : am_M := (yX8_pathCost, cX8_pathCost, 3, (some .int), [], none)
theorem k_X8_pathCost : am_mk m_X8_pathCost 2 := ⟨am_t5 63 rfl rfl, n_X8, by decide +kernel, by decide, rfl⟩
theorem i_X8_pathCost : Cond.instanceMethod m_X8_pathCost.1 ∈ am_Gl := am_t5 61 rfl rfl
theorem s_X8_pathCost : Cond.selects m_X8_pathCost.1.cls m_X8_pathCost.1 m_X8_pathCost.1 ∈ am_Gl := am_t5 62 rfl rfl
abbrev m_X8_errors : am_M := (yX8_errors, cX8_errors, 2, (some .int), [], none)
theorem k_X8_errors : am_mk m_X8_errors 1 := ⟨am_t4 158 rfl rfl, n_X8, by decide +kernel, by decide, rfl⟩
theorem i_X8_errors : Cond.instanceMethod m_X8_errors.1 ∈ am_Gl := am_t4 156 rfl rfl
theorem s_X8_errors : Cond.selects m_X8_errors.1.cls m_X8_errors.1 m_X8_errors.1 ∈ am_Gl := am_t4 157 rfl rfl
abbrev m_X8_work : am_M := (yX8_work, cX8_work, 2, (some .int), [], none)
theorem k_X8_work : am_mk m_X8_work 1 := ⟨am_t4 165 rfl rfl, n_X8, by decide +kernel, by decide, rfl⟩
theorem i_X8_work : Cond.instanceMethod m_X8_work.1 ∈ am_Gl := am_t4 163 rfl rfl
theorem s_X8_work : Cond.selects m_X8_work.1.cls m_X8_work.1 m_X8_work.1 ∈ am_Gl := am_t4 164 rfl rfl
abbrev m_X8_mischargeReason : am_M := (yX8_mischargeReason, cX8_mischargeReason, 5, (some .int), [], none)
theorem k_X8_mischargeReason : am_mk m_X8_mischargeReason 2 := ⟨am_t5 93 rfl rfl, n_X8, by decide +kernel, by decide, rfl⟩
theorem i_X8_mischargeReason : Cond.instanceMethod m_X8_mischargeReason.1 ∈ am_Gl := am_t5 91 rfl rfl
theorem s_X8_mischargeReason : Cond.selects m_X8_mischargeReason.1.cls m_X8_mischargeReason.1 m_X8_mischargeReason.1 ∈ am_Gl := am_t5 92 rfl rfl
abbrev m_X8_bestErrors : am_M := (yX8_bestErrors, cX8_bestErrors, 3, (some .int), [], none)
theorem k_X8_bestErrors : am_mk m_X8_bestErrors 2 := ⟨am_t4 173 rfl rfl, n_X8, by decide +kernel, by decide, rfl⟩
theorem i_X8_bestErrors : Cond.instanceMethod m_X8_bestErrors.1 ∈ am_Gl := am_t4 171 rfl rfl
theorem s_X8_bestErrors : Cond.selects m_X8_bestErrors.1.cls m_X8_bestErrors.1 m_X8_bestErrors.1 ∈ am_Gl := am_t4 172 rfl rfl
abbrev m_X8_bestWork : am_M := (yX8_bestWork, cX8_bestWork, 3, (some .int), [], none)
theorem k_X8_bestWork : am_mk m_X8_bestWork 2 := ⟨am_t4 180 rfl rfl, n_X8, by decide +kernel, by decide, rfl⟩
theorem i_X8_bestWork : Cond.instanceMethod m_X8_bestWork.1 ∈ am_Gl := am_t4 178 rfl rfl
theorem s_X8_bestWork : Cond.selects m_X8_bestWork.1.cls m_X8_bestWork.1 m_X8_bestWork.1 ∈ am_Gl := am_t4 179 rfl rfl
abbrev m_X8_bestRootQuestion : am_M := (yX8_bestRootQuestion, cX8_bestRootQuestion, 3, (some .int), [], none)
theorem k_X8_bestRootQuestion : am_mk m_X8_bestRootQuestion 2 := ⟨am_t5 149 rfl rfl, n_X8, by decide +kernel, by decide, rfl⟩
theorem i_X8_bestRootQuestion : Cond.instanceMethod m_X8_bestRootQuestion.1 ∈ am_Gl := am_t5 147 rfl rfl
theorem s_X8_bestRootQuestion : Cond.selects m_X8_bestRootQuestion.1.cls m_X8_bestRootQuestion.1 m_X8_bestRootQuestion.1 ∈ am_Gl := am_t5 148 rfl rfl
abbrev m_X8_errorsWithout : am_M := (yX8_errorsWithout, cX8_errorsWithout, 4, (some .int), [], none)
theorem k_X8_errorsWithout : am_mk m_X8_errorsWithout 2 := ⟨am_t5 142 rfl rfl, n_X8, by decide +kernel, by decide, rfl⟩
theorem i_X8_errorsWithout : Cond.instanceMethod m_X8_errorsWithout.1 ∈ am_Gl := am_t5 140 rfl rfl
theorem s_X8_errorsWithout : Cond.selects m_X8_errorsWithout.1.cls m_X8_errorsWithout.1 m_X8_errorsWithout.1 ∈ am_Gl := am_t5 141 rfl rfl
abbrev m_X8_sufficientLimit : am_M := (yX8_sufficientLimit, cX8_sufficientLimit, 5, (some .int), [], none)
theorem k_X8_sufficientLimit : am_mk m_X8_sufficientLimit 1 := ⟨am_t5 130 rfl rfl, n_X8, by decide +kernel, by decide, rfl⟩
theorem i_X8_sufficientLimit : Cond.instanceMethod m_X8_sufficientLimit.1 ∈ am_Gl := am_t5 128 rfl rfl
theorem s_X8_sufficientLimit : Cond.selects m_X8_sufficientLimit.1.cls m_X8_sufficientLimit.1 m_X8_sufficientLimit.1 ∈ am_Gl := am_t5 129 rfl rfl
abbrev m_X8_stalestGate : am_M := (yX8_stalestGate, cX8_stalestGate, 9, (some .int), [], none)
theorem k_X8_stalestGate : am_mk m_X8_stalestGate 0 := ⟨am_t3 236 rfl rfl, n_X8, by decide +kernel, by decide, rfl⟩
theorem i_X8_stalestGate : Cond.instanceMethod m_X8_stalestGate.1 ∈ am_Gl := am_t3 234 rfl rfl
theorem s_X8_stalestGate : Cond.selects m_X8_stalestGate.1.cls m_X8_stalestGate.1 m_X8_stalestGate.1 ∈ am_Gl := am_t3 235 rfl rfl
abbrev m_X8_quickestGate : am_M := (yX8_quickestGate, cX8_quickestGate, 8, (some .int), [], none)
theorem k_X8_quickestGate : am_mk m_X8_quickestGate 1 := ⟨am_t6 30 rfl rfl, n_X8, by decide +kernel, by decide, rfl⟩
theorem i_X8_quickestGate : Cond.instanceMethod m_X8_quickestGate.1 ∈ am_Gl := am_t6 28 rfl rfl
theorem s_X8_quickestGate : Cond.selects m_X8_quickestGate.1.cls m_X8_quickestGate.1 m_X8_quickestGate.1 ∈ am_Gl := am_t6 29 rfl rfl
abbrev m_X8_inconsistencies : am_M := (yX8_inconsistencies, cX8_inconsistencies, 4, (some .int), [], none)
theorem k_X8_inconsistencies : am_mk m_X8_inconsistencies 0 := ⟨am_t5 154 rfl rfl, n_X8, by decide +kernel, by decide, rfl⟩
theorem i_X8_inconsistencies : Cond.instanceMethod m_X8_inconsistencies.1 ∈ am_Gl := am_t5 152 rfl rfl
theorem s_X8_inconsistencies : Cond.selects m_X8_inconsistencies.1.cls m_X8_inconsistencies.1 m_X8_inconsistencies.1 ∈ am_Gl := am_t5 153 rfl rfl
abbrev m_X8_acceptDraft : am_M := (yX8_acceptDraft, cX8_acceptDraft, 1, none, [], none)
theorem k_X8_acceptDraft : am_mk m_X8_acceptDraft 0 := ⟨am_t3 223 rfl rfl, n_X8, by decide +kernel, by decide, rfl⟩
theorem i_X8_acceptDraft : Cond.instanceMethod m_X8_acceptDraft.1 ∈ am_Gl := am_t3 222 rfl rfl
theorem s_X8_acceptDraft : Cond.selects m_X8_acceptDraft.1.cls m_X8_acceptDraft.1 m_X8_acceptDraft.1 ∈ am_Gl := am_s3 4 rfl rfl
abbrev m_X8_bestRank : am_M := (yX8_bestRank, cX8_bestRank, 3, (some .long), [], none)
theorem k_X8_bestRank : am_mk m_X8_bestRank 2 := ⟨am_t4 0 rfl rfl, n_X8, by decide +kernel, by decide, rfl⟩
theorem i_X8_bestRank : Cond.instanceMethod m_X8_bestRank.1 ∈ am_Gl := am_t3 239 rfl rfl
theorem s_X8_bestRank : Cond.selects m_X8_bestRank.1.cls m_X8_bestRank.1 m_X8_bestRank.1 ∈ am_Gl := am_s3 5 rfl rfl
abbrev m_X8_requireQuestion : am_M := (yX8_requireQuestion, cX8_requireQuestion, 2, none, [], none)
theorem k_X8_requireQuestion : am_mk m_X8_requireQuestion 1 := ⟨am_t5 36 rfl rfl, n_X8, by decide +kernel, by decide, rfl⟩
theorem i_X8_requireQuestion : Cond.instanceMethod m_X8_requireQuestion.1 ∈ am_Gl := am_t5 35 rfl rfl
theorem s_X8_requireQuestion : Cond.selects m_X8_requireQuestion.1.cls m_X8_requireQuestion.1 m_X8_requireQuestion.1 ∈ am_Gl := am_s3 9 rfl rfl
abbrev m_X8_requireType : am_M := (yX8_requireType, cX8_requireType, 2, none, [], none)
theorem k_X8_requireType : am_mk m_X8_requireType 1 := ⟨am_t5 47 rfl rfl, n_X8, by decide +kernel, by decide, rfl⟩
theorem i_X8_requireType : Cond.instanceMethod m_X8_requireType.1 ∈ am_Gl := am_t5 46 rfl rfl
theorem s_X8_requireType : Cond.selects m_X8_requireType.1.cls m_X8_requireType.1 m_X8_requireType.1 ∈ am_Gl := am_s3 10 rfl rfl
abbrev m_X8_requireGate : am_M := (yX8_requireGate, cX8_requireGate, 2, none, [], none)
theorem k_X8_requireGate : am_mk m_X8_requireGate 1 := ⟨am_t4 4 rfl rfl, n_X8, by decide +kernel, by decide, rfl⟩
theorem i_X8_requireGate : Cond.instanceMethod m_X8_requireGate.1 ∈ am_Gl := am_t4 3 rfl rfl
theorem s_X8_requireGate : Cond.selects m_X8_requireGate.1.cls m_X8_requireGate.1 m_X8_requireGate.1 ∈ am_Gl := am_s3 6 rfl rfl
abbrev m_X8_requireNode : am_M := (yX8_requireNode, cX8_requireNode, 3, none, [], none)
theorem k_X8_requireNode : am_mk m_X8_requireNode 2 := ⟨am_t4 229 rfl rfl, n_X8, by decide +kernel, by decide, rfl⟩
theorem i_X8_requireNode : Cond.instanceMethod m_X8_requireNode.1 ∈ am_Gl := am_t4 228 rfl rfl
theorem s_X8_requireNode : Cond.selects m_X8_requireNode.1.cls m_X8_requireNode.1 m_X8_requireNode.1 ∈ am_Gl := am_s3 8 rfl rfl
abbrev m_X8_requireRange : am_M := (yX8_requireRange, cX8_requireRange, 3, none, [], none)
theorem k_X8_requireRange : am_mk m_X8_requireRange 3 := ⟨am_t4 71 rfl rfl, n_X8, by decide +kernel, by decide, rfl⟩
theorem t_X8_requireRange : Cond.static m_X8_requireRange.1 ∈ am_Gl := am_t4 70 rfl rfl
abbrev m_X8_holds : am_M := (yX8_holds, cX8_holds, 2, (some .boolean), [], none)
theorem k_X8_holds : am_mk m_X8_holds 2 := ⟨am_t3 1 rfl rfl, n_X8, by decide +kernel, by decide, rfl⟩
theorem t_X8_holds : Cond.static m_X8_holds.1 ∈ am_Gl := am_t3 0 rfl rfl
abbrev m_X8_errorsOf : am_M := (yX8_errorsOf, cX8_errorsOf, 2, (some .int), [], none)
theorem k_X8_errorsOf : am_mk m_X8_errorsOf 1 := ⟨am_t4 96 rfl rfl, n_X8, by decide +kernel, by decide, rfl⟩
theorem t_X8_errorsOf : Cond.static m_X8_errorsOf.1 ∈ am_Gl := am_t4 95 rfl rfl
abbrev m_X8_workOf : am_M := (yX8_workOf, cX8_workOf, 2, (some .int), [], none)
theorem k_X8_workOf : am_mk m_X8_workOf 1 := ⟨am_t4 108 rfl rfl, n_X8, by decide +kernel, by decide, rfl⟩
theorem t_X8_workOf : Cond.static m_X8_workOf.1 ∈ am_Gl := am_t4 107 rfl rfl
abbrev m_X8_rootOf : am_M := (yX8_rootOf, cX8_rootOf, 2, (some .int), [], none)
theorem k_X8_rootOf : am_mk m_X8_rootOf 1 := ⟨am_t3 74 rfl rfl, n_X8, by decide +kernel, by decide, rfl⟩
theorem t_X8_rootOf : Cond.static m_X8_rootOf.1 ∈ am_Gl := am_t3 73 rfl rfl
abbrev m_J5_init_d00df : am_M := (yJ5_init_d00df, cJ5_init_d00df, 2, none, [], none)
theorem n_J5 : Cond.initialized RJ5 ∈ am_Gl := am_t1 17 rfl rfl
theorem k_J5_init_d00df : am_mk m_J5_init_d00df 1 := ⟨am_t7 4 rfl rfl, n_J5, by decide +kernel, by decide, rfl⟩
theorem i_J5_init_d00df : Cond.instanceMethod m_J5_init_d00df.1 ∈ am_Gl := am_t7 3 rfl rfl
abbrev m_J5_init_a7421 : am_M := (yJ5_init_a7421, cJ5_init_a7421, 5, none, [], none)
theorem k_J5_init_a7421 : am_mk m_J5_init_a7421 1 := ⟨am_t6 38 rfl rfl, n_J5, by decide +kernel, by decide, rfl⟩
theorem i_J5_init_a7421 : Cond.instanceMethod m_J5_init_a7421.1 ∈ am_Gl := am_t6 37 rfl rfl
abbrev m_J5_length_8abf5 : am_M := (yJ5_length_8abf5, cJ5_length_8abf5, 1, (some .int), [], none)
theorem k_J5_length_8abf5 : am_mk m_J5_length_8abf5 0 := ⟨am_t6 226 rfl rfl, n_J5, by decide +kernel, by decide, rfl⟩
theorem i_J5_length_8abf5 : Cond.instanceMethod m_J5_length_8abf5.1 ∈ am_Gl := am_t6 220 rfl rfl
abbrev m_J5_ensureCapacityInternal_d00df : am_M := (yJ5_ensureCapacityInternal_d00df, cJ5_ensureCapacityInternal_d00df, 3, none, [], none)
theorem k_J5_ensureCapacityInternal_d00df : am_mk m_J5_ensureCapacityInternal_d00df 1 := ⟨am_t6 71 rfl rfl, n_J5, by decide +kernel, by decide, rfl⟩
theorem i_J5_ensureCapacityInternal_d00df : Cond.instanceMethod m_J5_ensureCapacityInternal_d00df.1 ∈ am_Gl := am_t6 70 rfl rfl
abbrev m_J5_newCapacity_0f7a4 : am_M := (yJ5_newCapacity_0f7a4, cJ5_newCapacity_0f7a4, 6, (some .int), [], none)
theorem k_J5_newCapacity_0f7a4 : am_mk m_J5_newCapacity_0f7a4 1 := ⟨am_t6 75 rfl rfl, n_J5, by decide +kernel, by decide, rfl⟩
theorem i_J5_newCapacity_0f7a4 : Cond.instanceMethod m_J5_newCapacity_0f7a4.1 ∈ am_Gl := am_t6 74 rfl rfl
abbrev m_J5_inflate_da8c8 : am_M := (yJ5_inflate_da8c8, cJ5_inflate_da8c8, 2, none, [], none)
theorem k_J5_inflate_da8c8 : am_mk m_J5_inflate_da8c8 0 := ⟨am_t6 128 rfl rfl, n_J5, by decide +kernel, by decide, rfl⟩
theorem i_J5_inflate_da8c8 : Cond.instanceMethod m_J5_inflate_da8c8.1 ∈ am_Gl := am_t6 127 rfl rfl
abbrev m_J5_append_cf1ce : am_M := (yJ5_append_cf1ce, cJ5_append_cf1ce, 3, (some (.object "java/lang/AbstractStringBuilder")), [], none)
theorem k_J5_append_cf1ce : am_mk m_J5_append_cf1ce 1 := ⟨am_t6 63 rfl rfl, n_J5, by decide +kernel, by decide, rfl⟩
theorem i_J5_append_cf1ce : Cond.instanceMethod m_J5_append_cf1ce.1 ∈ am_Gl := am_t6 52 rfl rfl
abbrev m_J5_appendNull_278bc : am_M := (yJ5_appendNull_278bc, cJ5_appendNull_278bc, 3, (some (.object "java/lang/AbstractStringBuilder")), [], none)
theorem k_J5_appendNull_278bc : am_mk m_J5_appendNull_278bc 0 := ⟨am_t6 67 rfl rfl, n_J5, by decide +kernel, by decide, rfl⟩
theorem i_J5_appendNull_278bc : Cond.instanceMethod m_J5_appendNull_278bc.1 ∈ am_Gl := am_t6 66 rfl rfl
abbrev m_J5_append_3fe6f : am_M := (yJ5_append_3fe6f, cJ5_append_3fe6f, 2, (some (.object "java/lang/AbstractStringBuilder")), [], none)
theorem k_J5_append_3fe6f : am_mk m_J5_append_3fe6f 1 := ⟨am_t6 169 rfl rfl, n_J5, by decide +kernel, by decide, rfl⟩
theorem i_J5_append_3fe6f : Cond.instanceMethod m_J5_append_3fe6f.1 ∈ am_Gl := am_t6 168 rfl rfl
abbrev m_J5_append_c97b9 : am_M := (yJ5_append_c97b9, cJ5_append_c97b9, 4, (some (.object "java/lang/AbstractStringBuilder")), [], none)
theorem k_J5_append_c97b9 : am_mk m_J5_append_c97b9 1 := ⟨am_t6 182 rfl rfl, n_J5, by decide +kernel, by decide, rfl⟩
theorem i_J5_append_c97b9 : Cond.instanceMethod m_J5_append_c97b9.1 ∈ am_Gl := am_t6 181 rfl rfl
abbrev m_J5_getValue_6d5f1 : am_M := (yJ5_getValue_6d5f1, cJ5_getValue_6d5f1, 1, (some (.array .byte)), [], none)
theorem k_J5_getValue_6d5f1 : am_mk m_J5_getValue_6d5f1 0 := ⟨am_t6 218 rfl rfl, n_J5, by decide +kernel, by decide, rfl⟩
theorem i_J5_getValue_6d5f1 : Cond.instanceMethod m_J5_getValue_6d5f1.1 ∈ am_Gl := am_t6 215 rfl rfl
abbrev m_J5_isLatin1_aae02 : am_M := (yJ5_isLatin1_aae02, cJ5_isLatin1_aae02, 1, (some .boolean), [], none)
theorem k_J5_isLatin1_aae02 : am_mk m_J5_isLatin1_aae02 0 := ⟨am_t6 100 rfl rfl, n_J5, by decide +kernel, by decide, rfl⟩
theorem i_J5_isLatin1_aae02 : Cond.instanceMethod m_J5_isLatin1_aae02.1 ∈ am_Gl := am_t6 97 rfl rfl
abbrev m_J5_inflateIfNeededFor_a7421 : am_M := (yJ5_inflateIfNeededFor_a7421, cJ5_inflateIfNeededFor_a7421, 2, none, [], none)
theorem k_J5_inflateIfNeededFor_a7421 : am_mk m_J5_inflateIfNeededFor_a7421 1 := ⟨am_t6 124 rfl rfl, n_J5, by decide +kernel, by decide, rfl⟩
theorem i_J5_inflateIfNeededFor_a7421 : Cond.instanceMethod m_J5_inflateIfNeededFor_a7421.1 ∈ am_Gl := am_t6 123 rfl rfl
abbrev m_J5_putStringAt_47b60 : am_M := (yJ5_putStringAt_47b60, cJ5_putStringAt_47b60, 3, none, [], none)
theorem k_J5_putStringAt_47b60 : am_mk m_J5_putStringAt_47b60 2 := ⟨am_t6 120 rfl rfl, n_J5, by decide +kernel, by decide, rfl⟩
theorem i_J5_putStringAt_47b60 : Cond.instanceMethod m_J5_putStringAt_47b60.1 ∈ am_Gl := am_t6 119 rfl rfl
abbrev m_J6_getChars_ba4f3 : am_M := (yJ6_getChars_ba4f3, cJ6_getChars_ba4f3, 7, (some .int), [], none)
theorem n_J6 : Cond.initialized RJ6 ∈ am_Gl := am_t1 21 rfl rfl
theorem k_J6_getChars_ba4f3 : am_mk m_J6_getChars_ba4f3 3 := ⟨am_t6 188 rfl rfl, n_J6, by decide +kernel, by decide, rfl⟩
theorem t_J6_getChars_ba4f3 : Cond.static m_J6_getChars_ba4f3.1 ∈ am_Gl := am_t6 187 rfl rfl
abbrev m_J6_stringSize_0f7a4 : am_M := (yJ6_stringSize_0f7a4, cJ6_stringSize_0f7a4, 4, (some .int), [], none)
theorem k_J6_stringSize_0f7a4 : am_mk m_J6_stringSize_0f7a4 1 := ⟨am_t6 185 rfl rfl, n_J6, by decide +kernel, by decide, rfl⟩
theorem t_J6_stringSize_0f7a4 : Cond.static m_J6_stringSize_0f7a4.1 ∈ am_Gl := am_t6 184 rfl rfl
abbrev m_J0_init_81219 : am_M := (yJ0_init_81219, cJ0_init_81219, 2, none, [], none)
theorem n_J0 : Cond.initialized RJ0 ∈ am_Gl := am_t1 10 rfl rfl
theorem k_J0_init_81219 : am_mk m_J0_init_81219 1 := ⟨am_t6 209 rfl rfl, n_J0, by decide +kernel, by decide, rfl⟩
theorem i_J0_init_81219 : Cond.instanceMethod m_J0_init_81219.1 ∈ am_Gl := am_t6 208 rfl rfl
abbrev m_J0_length_8abf5 : am_M := (yJ0_length_8abf5, cJ0_length_8abf5, 1, (some .int), [], none)
theorem k_J0_length_8abf5 : am_mk m_J0_length_8abf5 0 := ⟨am_t2 94 rfl rfl, n_J0, by decide +kernel, by decide, rfl⟩
theorem i_J0_length_8abf5 : Cond.instanceMethod m_J0_length_8abf5.1 ∈ am_Gl := am_t2 92 rfl rfl
theorem s_J0_length_8abf5 : Cond.selects m_J0_length_8abf5.1.cls m_J0_length_8abf5.1 m_J0_length_8abf5.1 ∈ am_Gl := am_t2 93 rfl rfl
abbrev m_J0_charAt_5068e : am_M := (yJ0_charAt_5068e, cJ0_charAt_5068e, 2, (some .char), [], none)
theorem k_J0_charAt_5068e : am_mk m_J0_charAt_5068e 1 := ⟨am_t2 104 rfl rfl, n_J0, by decide +kernel, by decide, rfl⟩
theorem i_J0_charAt_5068e : Cond.instanceMethod m_J0_charAt_5068e.1 ∈ am_Gl := am_t2 102 rfl rfl
theorem s_J0_charAt_5068e : Cond.selects m_J0_charAt_5068e.1.cls m_J0_charAt_5068e.1 m_J0_charAt_5068e.1 ∈ am_Gl := am_t2 103 rfl rfl
abbrev m_J0_getBytes_840e7 : am_M := (yJ0_getBytes_840e7, cJ0_getBytes_840e7, 4, none, [], none)
theorem k_J0_getBytes_840e7 : am_mk m_J0_getBytes_840e7 3 := ⟨am_t6 147 rfl rfl, n_J0, by decide +kernel, by decide, rfl⟩
theorem i_J0_getBytes_840e7 : Cond.instanceMethod m_J0_getBytes_840e7.1 ∈ am_Gl := am_t6 145 rfl rfl
theorem s_J0_getBytes_840e7 : Cond.selects m_J0_getBytes_840e7.1.cls m_J0_getBytes_840e7.1 m_J0_getBytes_840e7.1 ∈ am_Gl := am_t6 146 rfl rfl
abbrev m_J0_init_db425 : am_M := (yJ0_init_db425, cJ0_init_db425, 5, none, [], none)
theorem k_J0_init_db425 : am_mk m_J0_init_db425 2 := ⟨am_t6 212 rfl rfl, n_J0, by decide +kernel, by decide, rfl⟩
theorem i_J0_init_db425 : Cond.instanceMethod m_J0_init_db425.1 ∈ am_Gl := am_t6 211 rfl rfl
abbrev m_J0_coder_7d493 : am_M := (yJ0_coder_7d493, cJ0_coder_7d493, 1, (some .byte), [], none)
theorem k_J0_coder_7d493 : am_mk m_J0_coder_7d493 0 := ⟨am_t2 98 rfl rfl, n_J0, by decide +kernel, by decide, rfl⟩
theorem i_J0_coder_7d493 : Cond.instanceMethod m_J0_coder_7d493.1 ∈ am_Gl := am_t2 96 rfl rfl
theorem s_J0_coder_7d493 : Cond.selects m_J0_coder_7d493.1.cls m_J0_coder_7d493.1 m_J0_coder_7d493.1 ∈ am_Gl := am_t2 97 rfl rfl
abbrev m_J0_isLatin1_aae02 : am_M := (yJ0_isLatin1_aae02, cJ0_isLatin1_aae02, 1, (some .boolean), [], none)
theorem k_J0_isLatin1_aae02 : am_mk m_J0_isLatin1_aae02 0 := ⟨am_t2 108 rfl rfl, n_J0, by decide +kernel, by decide, rfl⟩
theorem i_J0_isLatin1_aae02 : Cond.instanceMethod m_J0_isLatin1_aae02.1 ∈ am_Gl := am_t2 106 rfl rfl
theorem s_J0_isLatin1_aae02 : Cond.selects m_J0_isLatin1_aae02.1.cls m_J0_isLatin1_aae02.1 m_J0_isLatin1_aae02.1 ∈ am_Gl := am_t2 107 rfl rfl
abbrev m_J0_checkIndex_df160 : am_M := (yJ0_checkIndex_df160, cJ0_checkIndex_df160, 2, none, [], none)
theorem k_J0_checkIndex_df160 : am_mk m_J0_checkIndex_df160 2 := ⟨am_t2 114 rfl rfl, n_J0, by decide +kernel, by decide, rfl⟩
theorem t_J0_checkIndex_df160 : Cond.static m_J0_checkIndex_df160.1 ∈ am_Gl := am_t2 113 rfl rfl
abbrev m_J0_checkBoundsOffCount_cabcc : am_M := (yJ0_checkBoundsOffCount_cabcc, cJ0_checkBoundsOffCount_cabcc, 3, (some .int), [], none)
theorem k_J0_checkBoundsOffCount_cabcc : am_mk m_J0_checkBoundsOffCount_cabcc 3 := ⟨am_t6 140 rfl rfl, n_J0, by decide +kernel, by decide, rfl⟩
theorem t_J0_checkBoundsOffCount_cabcc : Cond.static m_J0_checkBoundsOffCount_cabcc.1 ∈ am_Gl := am_t6 139 rfl rfl
abbrev m_J0_checkBoundsBeginEnd_23922 : am_M := (yJ0_checkBoundsBeginEnd_23922, cJ0_checkBoundsBeginEnd_23922, 3, none, [], none)
theorem k_J0_checkBoundsBeginEnd_23922 : am_mk m_J0_checkBoundsBeginEnd_23922 3 := ⟨am_t6 110 rfl rfl, n_J0, by decide +kernel, by decide, rfl⟩
theorem t_J0_checkBoundsBeginEnd_23922 : Cond.static m_J0_checkBoundsBeginEnd_23922.1 ∈ am_Gl := am_t6 109 rfl rfl
abbrev m_J4_init_da8c8 : am_M := (yJ4_init_da8c8, cJ4_init_da8c8, 1, none, [], none)
theorem n_J4 : Cond.initialized RJ4 ∈ am_Gl := am_t1 18 rfl rfl
theorem k_J4_init_da8c8 : am_mk m_J4_init_da8c8 0 := ⟨am_t7 1 rfl rfl, n_J4, by decide +kernel, by decide, rfl⟩
theorem i_J4_init_da8c8 : Cond.instanceMethod m_J4_init_da8c8.1 ∈ am_Gl := am_t7 0 rfl rfl
abbrev m_J4_init_a7421 : am_M := (yJ4_init_a7421, cJ4_init_a7421, 2, none, [], none)
theorem k_J4_init_a7421 : am_mk m_J4_init_a7421 1 := ⟨am_t6 35 rfl rfl, n_J4, by decide +kernel, by decide, rfl⟩
theorem i_J4_init_a7421 : Cond.instanceMethod m_J4_init_a7421.1 ∈ am_Gl := am_t6 34 rfl rfl
abbrev m_J4_append_15ec4 : am_M := (yJ4_append_15ec4, cJ4_append_15ec4, 2, (some (.object "java/lang/StringBuilder")), [], none)
theorem k_J4_append_15ec4 : am_mk m_J4_append_15ec4 1 := ⟨am_t6 60 rfl rfl, n_J4, by decide +kernel, by decide, rfl⟩
theorem i_J4_append_15ec4 : Cond.instanceMethod m_J4_append_15ec4.1 ∈ am_Gl := am_t6 58 rfl rfl
theorem s_J4_append_15ec4 : Cond.selects m_J4_append_15ec4.1.cls m_J4_append_15ec4.1 m_J4_append_15ec4.1 ∈ am_Gl := am_t6 59 rfl rfl
abbrev m_J4_append_cf468 : am_M := (yJ4_append_cf468, cJ4_append_cf468, 2, (some (.object "java/lang/StringBuilder")), [], none)
theorem k_J4_append_cf468 : am_mk m_J4_append_cf468 1 := ⟨am_t6 166 rfl rfl, n_J4, by decide +kernel, by decide, rfl⟩
theorem i_J4_append_cf468 : Cond.instanceMethod m_J4_append_cf468.1 ∈ am_Gl := am_t6 164 rfl rfl
theorem s_J4_append_cf468 : Cond.selects m_J4_append_cf468.1.cls m_J4_append_cf468.1 m_J4_append_cf468.1 ∈ am_Gl := am_t6 165 rfl rfl
abbrev m_J4_append_bf812 : am_M := (yJ4_append_bf812, cJ4_append_bf812, 2, (some (.object "java/lang/StringBuilder")), [], none)
theorem k_J4_append_bf812 : am_mk m_J4_append_bf812 1 := ⟨am_t6 179 rfl rfl, n_J4, by decide +kernel, by decide, rfl⟩
theorem i_J4_append_bf812 : Cond.instanceMethod m_J4_append_bf812.1 ∈ am_Gl := am_t6 177 rfl rfl
theorem s_J4_append_bf812 : Cond.selects m_J4_append_bf812.1.cls m_J4_append_bf812.1 m_J4_append_bf812.1 ∈ am_Gl := am_t6 178 rfl rfl
abbrev m_J4_toString_0e30d : am_M := (yJ4_toString_0e30d, cJ4_toString_0e30d, 1, (some (.object "java/lang/String")), [], none)
theorem k_J4_toString_0e30d : am_mk m_J4_toString_0e30d 0 := ⟨am_t6 204 rfl rfl, n_J4, by decide +kernel, by decide, rfl⟩
theorem i_J4_toString_0e30d : Cond.instanceMethod m_J4_toString_0e30d.1 ∈ am_Gl := am_t6 202 rfl rfl
theorem s_J4_toString_0e30d : Cond.selects m_J4_toString_0e30d.1.cls m_J4_toString_0e30d.1 m_J4_toString_0e30d.1 ∈ am_Gl := am_t6 203 rfl rfl
abbrev m_J4_append_cf1ce : am_M := (yJ4_append_cf1ce, cJ4_append_cf1ce, 2, (some (.object "java/lang/AbstractStringBuilder")), [], none)
theorem k_J4_append_cf1ce : am_mk m_J4_append_cf1ce 1 := ⟨am_t6 56 rfl rfl, n_J4, by decide +kernel, by decide, rfl⟩
theorem i_J4_append_cf1ce : Cond.instanceMethod m_J4_append_cf1ce.1 ∈ am_Gl := am_t6 55 rfl rfl
abbrev m_J4_length_8abf5 : am_M := (yJ4_length_8abf5, cJ4_length_8abf5, 1, (some .int), [], none)
theorem k_J4_length_8abf5 : am_mk m_J4_length_8abf5 0 := ⟨am_t6 224 rfl rfl, n_J4, by decide +kernel, by decide, rfl⟩
theorem i_J4_length_8abf5 : Cond.instanceMethod m_J4_length_8abf5.1 ∈ am_Gl := am_t6 223 rfl rfl
abbrev m_J1_charAt_3b067 : am_M := (yJ1_charAt_3b067, cJ1_charAt_3b067, 2, (some .char), [], none)
theorem n_J1 : Cond.initialized RJ1 ∈ am_Gl := am_t1 11 rfl rfl
theorem k_J1_charAt_3b067 : am_mk m_J1_charAt_3b067 2 := ⟨am_t2 111 rfl rfl, n_J1, by decide +kernel, by decide, rfl⟩
theorem t_J1_charAt_3b067 : Cond.static m_J1_charAt_3b067.1 ∈ am_Gl := am_t2 110 rfl rfl
abbrev m_J1_canEncode_fc78d : am_M := (yJ1_canEncode_fc78d, cJ1_canEncode_fc78d, 1, (some .boolean), [], none)
theorem k_J1_canEncode_fc78d : am_mk m_J1_canEncode_fc78d 1 := ⟨am_t6 172 rfl rfl, n_J1, by decide +kernel, by decide, rfl⟩
theorem t_J1_canEncode_fc78d : Cond.static m_J1_canEncode_fc78d.1 ∈ am_Gl := am_t6 171 rfl rfl
abbrev m_J1_inflate_0e8fd : am_M := (yJ1_inflate_0e8fd, cJ1_inflate_0e8fd, 5, none, [], none)
theorem k_J1_inflate_0e8fd : am_mk m_J1_inflate_0e8fd 5 := ⟨am_t6 131 rfl rfl, n_J1, by decide +kernel, by decide, rfl⟩
theorem t_J1_inflate_0e8fd : Cond.static m_J1_inflate_0e8fd.1 ∈ am_Gl := am_t6 130 rfl rfl
abbrev m_J7_fill_53178 : am_M := (yJ7_fill_53178, cJ7_fill_53178, 4, none, [], none)
theorem n_J7 : Cond.initialized RJ7 ∈ am_Gl := am_t1 14 rfl rfl
theorem k_J7_fill_53178 : am_mk m_J7_fill_53178 2 := ⟨am_t3 41 rfl rfl, n_J7, by decide +kernel, by decide, rfl⟩
theorem t_J7_fill_53178 : Cond.static m_J7_fill_53178.1 ∈ am_Gl := am_t3 40 rfl rfl
abbrev m_J7_copyOf_9075b : am_M := (yJ7_copyOf_9075b, cJ7_copyOf_9075b, 3, (some (.array .byte)), [], none)
theorem k_J7_copyOf_9075b : am_mk m_J7_copyOf_9075b 2 := ⟨am_t6 86 rfl rfl, n_J7, by decide +kernel, by decide, rfl⟩
theorem t_J7_copyOf_9075b : Cond.static m_J7_copyOf_9075b.1 ∈ am_Gl := am_t6 85 rfl rfl
abbrev m_J7_checkLength_df160 : am_M := (yJ7_checkLength_df160, cJ7_checkLength_df160, 2, none, [], none)
theorem k_J7_checkLength_df160 : am_mk m_J7_checkLength_df160 2 := ⟨am_t6 236 rfl rfl, n_J7, by decide +kernel, by decide, rfl⟩
theorem t_J7_checkLength_df160 : Cond.static m_J7_checkLength_df160.1 ∈ am_Gl := am_t6 235 rfl rfl
abbrev m_J7_copyOfRange_39247 : am_M := (yJ7_copyOfRange_39247, cJ7_copyOfRange_39247, 3, (some (.array .byte)), [], none)
theorem k_J7_copyOfRange_39247 : am_mk m_J7_copyOfRange_39247 3 := ⟨am_t6 230 rfl rfl, n_J7, by decide +kernel, by decide, rfl⟩
theorem t_J7_copyOfRange_39247 : Cond.static m_J7_copyOfRange_39247.1 ∈ am_Gl := am_t6 229 rfl rfl
abbrev m_J7_copyOfRangeByte_39247 : am_M := (yJ7_copyOfRangeByte_39247, cJ7_copyOfRangeByte_39247, 5, (some (.array .byte)), [], none)
theorem k_J7_copyOfRangeByte_39247 : am_mk m_J7_copyOfRangeByte_39247 3 := ⟨am_t6 233 rfl rfl, n_J7, by decide +kernel, by decide, rfl⟩
theorem t_J7_copyOfRangeByte_39247 : Cond.static m_J7_copyOfRangeByte_39247.1 ∈ am_Gl := am_t6 232 rfl rfl
abbrev m_J8_newLength_cabcc : am_M := (yJ8_newLength_cabcc, cJ8_newLength_cabcc, 4, (some .int), [], none)
theorem n_J8 : Cond.initialized RJ8 ∈ am_Gl := am_t1 19 rfl rfl
theorem k_J8_newLength_cabcc : am_mk m_J8_newLength_cabcc 3 := ⟨am_t6 78 rfl rfl, n_J8, by decide +kernel, by decide, rfl⟩
theorem t_J8_newLength_cabcc : Cond.static m_J8_newLength_cabcc.1 ∈ am_Gl := am_t6 77 rfl rfl
abbrev m_J8_hugeLength_7cf53 : am_M := (yJ8_hugeLength_7cf53, cJ8_hugeLength_7cf53, 3, (some .int), [], none)
theorem k_J8_hugeLength_7cf53 : am_mk m_J8_hugeLength_7cf53 2 := ⟨am_t6 83 rfl rfl, n_J8, by decide +kernel, by decide, rfl⟩
theorem t_J8_hugeLength_7cf53 : Cond.static m_J8_hugeLength_7cf53.1 ∈ am_Gl := am_t6 82 rfl rfl
abbrev m_J3_checkIndex_8e157 : am_M := (yJ3_checkIndex_8e157, cJ3_checkIndex_8e157, 3, (some .int), [], none)
theorem n_J3 : Cond.initialized RJ3 ∈ am_Gl := am_t1 12 rfl rfl
theorem k_J3_checkIndex_8e157 : am_mk m_J3_checkIndex_8e157 3 := ⟨am_t2 119 rfl rfl, n_J3, by decide +kernel, by decide, rfl⟩
theorem t_J3_checkIndex_8e157 : Cond.static m_J3_checkIndex_8e157.1 ∈ am_Gl := am_t2 118 rfl rfl
abbrev m_J3_checkFromToIndex_8c36e : am_M := (yJ3_checkFromToIndex_8c36e, cJ3_checkFromToIndex_8c36e, 4, (some .int), [], none)
theorem k_J3_checkFromToIndex_8c36e : am_mk m_J3_checkFromToIndex_8c36e 4 := ⟨am_t6 113 rfl rfl, n_J3, by decide +kernel, by decide, rfl⟩
theorem t_J3_checkFromToIndex_8c36e : Cond.static m_J3_checkFromToIndex_8c36e.1 ∈ am_Gl := am_t6 112 rfl rfl
abbrev m_J3_checkFromIndexSize_8c36e : am_M := (yJ3_checkFromIndexSize_8c36e, cJ3_checkFromIndexSize_8c36e, 4, (some .int), [], none)
theorem k_J3_checkFromIndexSize_8c36e : am_mk m_J3_checkFromIndexSize_8c36e 4 := ⟨am_t6 143 rfl rfl, n_J3, by decide +kernel, by decide, rfl⟩
theorem t_J3_checkFromIndexSize_8c36e : Cond.static m_J3_checkFromIndexSize_8c36e.1 ∈ am_Gl := am_t6 142 rfl rfl
abbrev m_L_truncateInput : am_M := (yL_truncateInput, cL_truncateInput, 3, (some .int), [(0, 5, 6, 13)], none)
theorem n_L : Cond.initialized RL ∈ am_Gl := am_t1 0 rfl rfl
theorem kw_L_truncateInput : am_wd m_L_truncateInput ∈ am_Gl ∧ Cond.initialized m_L_truncateInput.1.cls ∈ am_Gl ∧ (m_L_truncateInput.1.cls ≠ "java/lang/invoke/MethodHandle" ∧ m_L_truncateInput.1.cls ≠ "java/lang/invoke/VarHandle" ∧ (parseMethodDescriptor m_L_truncateInput.1.desc).map (fun d => d.parameters.length) = some 2) := ⟨am_t4 186 rfl rfl, n_L, by decide +kernel⟩
theorem t_L_truncateInput : Cond.static m_L_truncateInput.1 ∈ am_Gl := am_t4 185 rfl rfl
abbrev m_L_passCarts : am_M := (yL_passCarts, cL_passCarts, 5, (some .int), [(0, 7, 8, 19), (0, 7, 13, 13), (0, 7, 18, 21)], none)
theorem kw_L_passCarts : am_wd m_L_passCarts ∈ am_Gl ∧ Cond.initialized m_L_passCarts.1.cls ∈ am_Gl ∧ (m_L_passCarts.1.cls ≠ "java/lang/invoke/MethodHandle" ∧ m_L_passCarts.1.cls ≠ "java/lang/invoke/VarHandle" ∧ (parseMethodDescriptor m_L_passCarts.1.desc).map (fun d => d.parameters.length) = some 4) := ⟨am_t5 214 rfl rfl, n_L, by decide +kernel⟩
theorem t_L_passCarts : Cond.static m_L_passCarts.1 ∈ am_Gl := am_t5 213 rfl rfl
abbrev m_L_buildTree : am_M := (yL_buildTree, cL_buildTree, 3, (some .int), [(0, 5, 6, 19)], none)
theorem kw_L_buildTree : am_wd m_L_buildTree ∈ am_Gl ∧ Cond.initialized m_L_buildTree.1.cls ∈ am_Gl ∧ (m_L_buildTree.1.cls ≠ "java/lang/invoke/MethodHandle" ∧ m_L_buildTree.1.cls ≠ "java/lang/invoke/VarHandle" ∧ (parseMethodDescriptor m_L_buildTree.1.desc).map (fun d => d.parameters.length) = some 2) := ⟨am_t5 199 rfl rfl, n_L, by decide +kernel⟩
theorem t_L_buildTree : Cond.static m_L_buildTree.1 ∈ am_Gl := am_t5 198 rfl rfl
abbrev m_L_halveCounts : am_M := (yL_halveCounts, cL_halveCounts, 3, (some .int), [(0, 5, 6, 19)], none)
theorem kw_L_halveCounts : am_wd m_L_halveCounts ∈ am_Gl ∧ Cond.initialized m_L_halveCounts.1.cls ∈ am_Gl ∧ (m_L_halveCounts.1.cls ≠ "java/lang/invoke/MethodHandle" ∧ m_L_halveCounts.1.cls ≠ "java/lang/invoke/VarHandle" ∧ (parseMethodDescriptor m_L_halveCounts.1.desc).map (fun d => d.parameters.length) = some 2) := ⟨am_t5 226 rfl rfl, n_L, by decide +kernel⟩
theorem t_L_halveCounts : Cond.static m_L_halveCounts.1 ∈ am_Gl := am_t5 225 rfl rfl
abbrev m_L_setToll : am_M := (yL_setToll, cL_setToll, 4, (some .int), [(0, 6, 7, 19), (0, 6, 11, 13)], none)
theorem kw_L_setToll : am_wd m_L_setToll ∈ am_Gl ∧ Cond.initialized m_L_setToll.1.cls ∈ am_Gl ∧ (m_L_setToll.1.cls ≠ "java/lang/invoke/MethodHandle" ∧ m_L_setToll.1.cls ≠ "java/lang/invoke/VarHandle" ∧ (parseMethodDescriptor m_L_setToll.1.desc).map (fun d => d.parameters.length) = some 3) := ⟨am_t5 235 rfl rfl, n_L, by decide +kernel⟩
theorem t_L_setToll : Cond.static m_L_setToll.1 ∈ am_Gl := am_t5 234 rfl rfl
abbrev m_L_setCostLimit : am_M := (yL_setCostLimit, cL_setCostLimit, 4, (some .int), [(0, 6, 7, 19), (0, 6, 11, 13)], none)
theorem kw_L_setCostLimit : am_wd m_L_setCostLimit ∈ am_Gl ∧ Cond.initialized m_L_setCostLimit.1.cls ∈ am_Gl ∧ (m_L_setCostLimit.1.cls ≠ "java/lang/invoke/MethodHandle" ∧ m_L_setCostLimit.1.cls ≠ "java/lang/invoke/VarHandle" ∧ (parseMethodDescriptor m_L_setCostLimit.1.desc).map (fun d => d.parameters.length) = some 3) := ⟨am_t6 2 rfl rfl, n_L, by decide +kernel⟩
theorem t_L_setCostLimit : Cond.static m_L_setCostLimit.1 ∈ am_Gl := am_t6 1 rfl rfl
abbrev m_L_advanceClock : am_M := (yL_advanceClock, cL_advanceClock, 3, (some .int), [(0, 5, 6, 13), (0, 5, 10, 21)], none)
theorem kw_L_advanceClock : am_wd m_L_advanceClock ∈ am_Gl ∧ Cond.initialized m_L_advanceClock.1.cls ∈ am_Gl ∧ (m_L_advanceClock.1.cls ≠ "java/lang/invoke/MethodHandle" ∧ m_L_advanceClock.1.cls ≠ "java/lang/invoke/VarHandle" ∧ (parseMethodDescriptor m_L_advanceClock.1.desc).map (fun d => d.parameters.length) = some 2) := ⟨am_t6 13 rfl rfl, n_L, by decide +kernel⟩
theorem t_L_advanceClock : Cond.static m_L_advanceClock.1 ∈ am_Gl := am_t6 12 rfl rfl
abbrev m_L_undo : am_M := (yL_undo, cL_undo, 2, (some .int), [(0, 4, 5, 21)], none)
theorem kw_L_undo : am_wd m_L_undo ∈ am_Gl ∧ Cond.initialized m_L_undo.1.cls ∈ am_Gl ∧ (m_L_undo.1.cls ≠ "java/lang/invoke/MethodHandle" ∧ m_L_undo.1.cls ≠ "java/lang/invoke/VarHandle" ∧ (parseMethodDescriptor m_L_undo.1.desc).map (fun d => d.parameters.length) = some 1) := ⟨am_t4 112 rfl rfl, n_L, by decide +kernel⟩
theorem t_L_undo : Cond.static m_L_undo.1 ∈ am_Gl := am_t4 111 rfl rfl
abbrev m_L_questionCost : am_M := (yL_questionCost, cL_questionCost, 3, (some .int), [(0, 5, 6, 19)], none)
theorem kw_L_questionCost : am_wd m_L_questionCost ∈ am_Gl ∧ Cond.initialized m_L_questionCost.1.cls ∈ am_Gl ∧ (m_L_questionCost.1.cls ≠ "java/lang/invoke/MethodHandle" ∧ m_L_questionCost.1.cls ≠ "java/lang/invoke/VarHandle" ∧ (parseMethodDescriptor m_L_questionCost.1.desc).map (fun d => d.parameters.length) = some 2) := ⟨am_t5 28 rfl rfl, n_L, by decide +kernel⟩
theorem t_L_questionCost : Cond.static m_L_questionCost.1 ∈ am_Gl := am_t5 27 rfl rfl
abbrev m_L_hasTrait : am_M := (yL_hasTrait, cL_hasTrait, 4, (some .int), [(0, 14, 15, 19)], none)
theorem kw_L_hasTrait : am_wd m_L_hasTrait ∈ am_Gl ∧ Cond.initialized m_L_hasTrait.1.cls ∈ am_Gl ∧ (m_L_hasTrait.1.cls ≠ "java/lang/invoke/MethodHandle" ∧ m_L_hasTrait.1.cls ≠ "java/lang/invoke/VarHandle" ∧ (parseMethodDescriptor m_L_hasTrait.1.desc).map (fun d => d.parameters.length) = some 3) := ⟨am_t5 39 rfl rfl, n_L, by decide +kernel⟩
theorem t_L_hasTrait : Cond.static m_L_hasTrait.1 ∈ am_Gl := am_t5 38 rfl rfl
abbrev m_L_toll : am_M := (yL_toll, cL_toll, 3, (some .int), [(0, 5, 6, 19)], none)
theorem kw_L_toll : am_wd m_L_toll ∈ am_Gl ∧ Cond.initialized m_L_toll.1.cls ∈ am_Gl ∧ (m_L_toll.1.cls ≠ "java/lang/invoke/MethodHandle" ∧ m_L_toll.1.cls ≠ "java/lang/invoke/VarHandle" ∧ (parseMethodDescriptor m_L_toll.1.desc).map (fun d => d.parameters.length) = some 2) := ⟨am_t5 75 rfl rfl, n_L, by decide +kernel⟩
theorem t_L_toll : Cond.static m_L_toll.1 ∈ am_Gl := am_t5 74 rfl rfl
abbrev m_L_countAt : am_M := (yL_countAt, cL_countAt, 4, (some .int), [(0, 6, 7, 19)], none)
theorem kw_L_countAt : am_wd m_L_countAt ∈ am_Gl ∧ Cond.initialized m_L_countAt.1.cls ∈ am_Gl ∧ (m_L_countAt.1.cls ≠ "java/lang/invoke/MethodHandle" ∧ m_L_countAt.1.cls ≠ "java/lang/invoke/VarHandle" ∧ (parseMethodDescriptor m_L_countAt.1.desc).map (fun d => d.parameters.length) = some 3) := ⟨am_t5 82 rfl rfl, n_L, by decide +kernel⟩
theorem t_L_countAt : Cond.static m_L_countAt.1 ∈ am_Gl := am_t5 81 rfl rfl
abbrev m_L_costLimit : am_M := (yL_costLimit, cL_costLimit, 3, (some .int), [(0, 5, 6, 19)], none)
theorem kw_L_costLimit : am_wd m_L_costLimit ∈ am_Gl ∧ Cond.initialized m_L_costLimit.1.cls ∈ am_Gl ∧ (m_L_costLimit.1.cls ≠ "java/lang/invoke/MethodHandle" ∧ m_L_costLimit.1.cls ≠ "java/lang/invoke/VarHandle" ∧ (parseMethodDescriptor m_L_costLimit.1.desc).map (fun d => d.parameters.length) = some 2) := ⟨am_t4 139 rfl rfl, n_L, by decide +kernel⟩
theorem t_L_costLimit : Cond.static m_L_costLimit.1 ∈ am_Gl := am_t4 138 rfl rfl
abbrev m_L_isOpen : am_M := (yL_isOpen, cL_isOpen, 3, (some .int), [(0, 13, 14, 19)], none)
theorem kw_L_isOpen : am_wd m_L_isOpen ∈ am_Gl ∧ Cond.initialized m_L_isOpen.1.cls ∈ am_Gl ∧ (m_L_isOpen.1.cls ≠ "java/lang/invoke/MethodHandle" ∧ m_L_isOpen.1.cls ≠ "java/lang/invoke/VarHandle" ∧ (parseMethodDescriptor m_L_isOpen.1.desc).map (fun d => d.parameters.length) = some 2) := ⟨am_t5 118 rfl rfl, n_L, by decide +kernel⟩
theorem t_L_isOpen : Cond.static m_L_isOpen.1 ∈ am_Gl := am_t5 117 rfl rfl
abbrev m_L_hoursUntilOpen : am_M := (yL_hoursUntilOpen, cL_hoursUntilOpen, 3, (some .int), [(0, 5, 6, 19)], none)
theorem kw_L_hoursUntilOpen : am_wd m_L_hoursUntilOpen ∈ am_Gl ∧ Cond.initialized m_L_hoursUntilOpen.1.cls ∈ am_Gl ∧ (m_L_hoursUntilOpen.1.cls ≠ "java/lang/invoke/MethodHandle" ∧ m_L_hoursUntilOpen.1.cls ≠ "java/lang/invoke/VarHandle" ∧ (parseMethodDescriptor m_L_hoursUntilOpen.1.desc).map (fun d => d.parameters.length) = some 2) := ⟨am_t5 105 rfl rfl, n_L, by decide +kernel⟩
theorem t_L_hoursUntilOpen : Cond.static m_L_hoursUntilOpen.1 ∈ am_Gl := am_t5 104 rfl rfl
abbrev m_L_nodeCount : am_M := (yL_nodeCount, cL_nodeCount, 3, (some .int), [(0, 5, 6, 19)], none)
theorem kw_L_nodeCount : am_wd m_L_nodeCount ∈ am_Gl ∧ Cond.initialized m_L_nodeCount.1.cls ∈ am_Gl ∧ (m_L_nodeCount.1.cls ≠ "java/lang/invoke/MethodHandle" ∧ m_L_nodeCount.1.cls ≠ "java/lang/invoke/VarHandle" ∧ (parseMethodDescriptor m_L_nodeCount.1.desc).map (fun d => d.parameters.length) = some 2) := ⟨am_t4 147 rfl rfl, n_L, by decide +kernel⟩
theorem t_L_nodeCount : Cond.static m_L_nodeCount.1 ∈ am_Gl := am_t4 146 rfl rfl
abbrev m_L_nodeQuestion : am_M := (yL_nodeQuestion, cL_nodeQuestion, 4, (some .int), [(0, 6, 7, 19)], none)
theorem kw_L_nodeQuestion : am_wd m_L_nodeQuestion ∈ am_Gl ∧ Cond.initialized m_L_nodeQuestion.1.cls ∈ am_Gl ∧ (m_L_nodeQuestion.1.cls ≠ "java/lang/invoke/MethodHandle" ∧ m_L_nodeQuestion.1.cls ≠ "java/lang/invoke/VarHandle" ∧ (parseMethodDescriptor m_L_nodeQuestion.1.desc).map (fun d => d.parameters.length) = some 3) := ⟨am_t4 221 rfl rfl, n_L, by decide +kernel⟩
theorem t_L_nodeQuestion : Cond.static m_L_nodeQuestion.1 ∈ am_Gl := am_t4 220 rfl rfl
abbrev m_L_leafToll : am_M := (yL_leafToll, cL_leafToll, 4, (some .int), [(0, 6, 7, 19)], none)
theorem kw_L_leafToll : am_wd m_L_leafToll ∈ am_Gl ∧ Cond.initialized m_L_leafToll.1.cls ∈ am_Gl ∧ (m_L_leafToll.1.cls ≠ "java/lang/invoke/MethodHandle" ∧ m_L_leafToll.1.cls ≠ "java/lang/invoke/VarHandle" ∧ (parseMethodDescriptor m_L_leafToll.1.desc).map (fun d => d.parameters.length) = some 3) := ⟨am_t4 239 rfl rfl, n_L, by decide +kernel⟩
theorem t_L_leafToll : Cond.static m_L_leafToll.1 ∈ am_Gl := am_t4 238 rfl rfl
abbrev m_L_yesChild : am_M := (yL_yesChild, cL_yesChild, 4, (some .int), [(0, 6, 7, 19)], none)
theorem kw_L_yesChild : am_wd m_L_yesChild ∈ am_Gl ∧ Cond.initialized m_L_yesChild.1.cls ∈ am_Gl ∧ (m_L_yesChild.1.cls ≠ "java/lang/invoke/MethodHandle" ∧ m_L_yesChild.1.cls ≠ "java/lang/invoke/VarHandle" ∧ (parseMethodDescriptor m_L_yesChild.1.desc).map (fun d => d.parameters.length) = some 3) := ⟨am_t5 6 rfl rfl, n_L, by decide +kernel⟩
theorem t_L_yesChild : Cond.static m_L_yesChild.1 ∈ am_Gl := am_t5 5 rfl rfl
abbrev m_L_noChild : am_M := (yL_noChild, cL_noChild, 4, (some .int), [(0, 6, 7, 19)], none)
theorem kw_L_noChild : am_wd m_L_noChild ∈ am_Gl ∧ Cond.initialized m_L_noChild.1.cls ∈ am_Gl ∧ (m_L_noChild.1.cls ≠ "java/lang/invoke/MethodHandle" ∧ m_L_noChild.1.cls ≠ "java/lang/invoke/VarHandle" ∧ (parseMethodDescriptor m_L_noChild.1.desc).map (fun d => d.parameters.length) = some 3) := ⟨am_t5 17 rfl rfl, n_L, by decide +kernel⟩
theorem t_L_noChild : Cond.static m_L_noChild.1 ∈ am_Gl := am_t5 16 rfl rfl
abbrev m_L_typesAt : am_M := (yL_typesAt, cL_typesAt, 4, (some .int), [(0, 6, 7, 19)], none)
theorem kw_L_typesAt : am_wd m_L_typesAt ∈ am_Gl ∧ Cond.initialized m_L_typesAt.1.cls ∈ am_Gl ∧ (m_L_typesAt.1.cls ≠ "java/lang/invoke/MethodHandle" ∧ m_L_typesAt.1.cls ≠ "java/lang/invoke/VarHandle" ∧ (parseMethodDescriptor m_L_typesAt.1.desc).map (fun d => d.parameters.length) = some 3) := ⟨am_t4 232 rfl rfl, n_L, by decide +kernel⟩
theorem t_L_typesAt : Cond.static m_L_typesAt.1 ∈ am_Gl := am_t4 231 rfl rfl
abbrev m_L_leafOf : am_M := (yL_leafOf, cL_leafOf, 4, (some .int), [(0, 6, 7, 19)], none)
theorem kw_L_leafOf : am_wd m_L_leafOf ∈ am_Gl ∧ Cond.initialized m_L_leafOf.1.cls ∈ am_Gl ∧ (m_L_leafOf.1.cls ≠ "java/lang/invoke/MethodHandle" ∧ m_L_leafOf.1.cls ≠ "java/lang/invoke/VarHandle" ∧ (parseMethodDescriptor m_L_leafOf.1.desc).map (fun d => d.parameters.length) = some 3) := ⟨am_t5 51 rfl rfl, n_L, by decide +kernel⟩
theorem t_L_leafOf : Cond.static m_L_leafOf.1 ∈ am_Gl := am_t5 50 rfl rfl
abbrev m_L_chargedToll : am_M := (yL_chargedToll, cL_chargedToll, 4, (some .int), [(0, 6, 7, 19)], none)
theorem kw_L_chargedToll : am_wd m_L_chargedToll ∈ am_Gl ∧ Cond.initialized m_L_chargedToll.1.cls ∈ am_Gl ∧ (m_L_chargedToll.1.cls ≠ "java/lang/invoke/MethodHandle" ∧ m_L_chargedToll.1.cls ≠ "java/lang/invoke/VarHandle" ∧ (parseMethodDescriptor m_L_chargedToll.1.desc).map (fun d => d.parameters.length) = some 3) := ⟨am_t5 67 rfl rfl, n_L, by decide +kernel⟩
theorem t_L_chargedToll : Cond.static m_L_chargedToll.1 ∈ am_Gl := am_t5 66 rfl rfl
abbrev m_L_pathCost : am_M := (yL_pathCost, cL_pathCost, 4, (some .int), [(0, 6, 7, 19)], none)
theorem kw_L_pathCost : am_wd m_L_pathCost ∈ am_Gl ∧ Cond.initialized m_L_pathCost.1.cls ∈ am_Gl ∧ (m_L_pathCost.1.cls ≠ "java/lang/invoke/MethodHandle" ∧ m_L_pathCost.1.cls ≠ "java/lang/invoke/VarHandle" ∧ (parseMethodDescriptor m_L_pathCost.1.desc).map (fun d => d.parameters.length) = some 3) := ⟨am_t5 59 rfl rfl, n_L, by decide +kernel⟩
theorem t_L_pathCost : Cond.static m_L_pathCost.1 ∈ am_Gl := am_t5 58 rfl rfl
abbrev m_L_errors : am_M := (yL_errors, cL_errors, 3, (some .int), [(0, 5, 6, 19)], none)
theorem kw_L_errors : am_wd m_L_errors ∈ am_Gl ∧ Cond.initialized m_L_errors.1.cls ∈ am_Gl ∧ (m_L_errors.1.cls ≠ "java/lang/invoke/MethodHandle" ∧ m_L_errors.1.cls ≠ "java/lang/invoke/VarHandle" ∧ (parseMethodDescriptor m_L_errors.1.desc).map (fun d => d.parameters.length) = some 2) := ⟨am_t4 154 rfl rfl, n_L, by decide +kernel⟩
theorem t_L_errors : Cond.static m_L_errors.1 ∈ am_Gl := am_t4 153 rfl rfl
abbrev m_L_work : am_M := (yL_work, cL_work, 3, (some .int), [(0, 5, 6, 19)], none)
theorem kw_L_work : am_wd m_L_work ∈ am_Gl ∧ Cond.initialized m_L_work.1.cls ∈ am_Gl ∧ (m_L_work.1.cls ≠ "java/lang/invoke/MethodHandle" ∧ m_L_work.1.cls ≠ "java/lang/invoke/VarHandle" ∧ (parseMethodDescriptor m_L_work.1.desc).map (fun d => d.parameters.length) = some 2) := ⟨am_t4 161 rfl rfl, n_L, by decide +kernel⟩
theorem t_L_work : Cond.static m_L_work.1 ∈ am_Gl := am_t4 160 rfl rfl
abbrev m_L_mischargeReason : am_M := (yL_mischargeReason, cL_mischargeReason, 4, (some .int), [(0, 6, 7, 19)], none)
theorem kw_L_mischargeReason : am_wd m_L_mischargeReason ∈ am_Gl ∧ Cond.initialized m_L_mischargeReason.1.cls ∈ am_Gl ∧ (m_L_mischargeReason.1.cls ≠ "java/lang/invoke/MethodHandle" ∧ m_L_mischargeReason.1.cls ≠ "java/lang/invoke/VarHandle" ∧ (parseMethodDescriptor m_L_mischargeReason.1.desc).map (fun d => d.parameters.length) = some 3) := ⟨am_t5 89 rfl rfl, n_L, by decide +kernel⟩
theorem t_L_mischargeReason : Cond.static m_L_mischargeReason.1 ∈ am_Gl := am_t5 88 rfl rfl
abbrev m_L_bestErrors : am_M := (yL_bestErrors, cL_bestErrors, 4, (some .int), [(0, 6, 7, 19), (0, 6, 11, 13)], none)
theorem kw_L_bestErrors : am_wd m_L_bestErrors ∈ am_Gl ∧ Cond.initialized m_L_bestErrors.1.cls ∈ am_Gl ∧ (m_L_bestErrors.1.cls ≠ "java/lang/invoke/MethodHandle" ∧ m_L_bestErrors.1.cls ≠ "java/lang/invoke/VarHandle" ∧ (parseMethodDescriptor m_L_bestErrors.1.desc).map (fun d => d.parameters.length) = some 3) := ⟨am_t4 168 rfl rfl, n_L, by decide +kernel⟩
theorem t_L_bestErrors : Cond.static m_L_bestErrors.1 ∈ am_Gl := am_t4 167 rfl rfl
abbrev m_L_bestWork : am_M := (yL_bestWork, cL_bestWork, 4, (some .int), [(0, 6, 7, 19), (0, 6, 11, 13)], none)
theorem kw_L_bestWork : am_wd m_L_bestWork ∈ am_Gl ∧ Cond.initialized m_L_bestWork.1.cls ∈ am_Gl ∧ (m_L_bestWork.1.cls ≠ "java/lang/invoke/MethodHandle" ∧ m_L_bestWork.1.cls ≠ "java/lang/invoke/VarHandle" ∧ (parseMethodDescriptor m_L_bestWork.1.desc).map (fun d => d.parameters.length) = some 3) := ⟨am_t4 176 rfl rfl, n_L, by decide +kernel⟩
theorem t_L_bestWork : Cond.static m_L_bestWork.1 ∈ am_Gl := am_t4 175 rfl rfl
abbrev m_L_bestRootQuestion : am_M := (yL_bestRootQuestion, cL_bestRootQuestion, 4, (some .int), [(0, 6, 7, 19), (0, 6, 11, 13)], none)
theorem kw_L_bestRootQuestion : am_wd m_L_bestRootQuestion ∈ am_Gl ∧ Cond.initialized m_L_bestRootQuestion.1.cls ∈ am_Gl ∧ (m_L_bestRootQuestion.1.cls ≠ "java/lang/invoke/MethodHandle" ∧ m_L_bestRootQuestion.1.cls ≠ "java/lang/invoke/VarHandle" ∧ (parseMethodDescriptor m_L_bestRootQuestion.1.desc).map (fun d => d.parameters.length) = some 3) := ⟨am_t5 145 rfl rfl, n_L, by decide +kernel⟩
theorem t_L_bestRootQuestion : Cond.static m_L_bestRootQuestion.1 ∈ am_Gl := am_t5 144 rfl rfl
abbrev m_L_errorsWithout : am_M := (yL_errorsWithout, cL_errorsWithout, 4, (some .int), [(0, 6, 7, 19)], none)
theorem kw_L_errorsWithout : am_wd m_L_errorsWithout ∈ am_Gl ∧ Cond.initialized m_L_errorsWithout.1.cls ∈ am_Gl ∧ (m_L_errorsWithout.1.cls ≠ "java/lang/invoke/MethodHandle" ∧ m_L_errorsWithout.1.cls ≠ "java/lang/invoke/VarHandle" ∧ (parseMethodDescriptor m_L_errorsWithout.1.desc).map (fun d => d.parameters.length) = some 3) := ⟨am_t5 138 rfl rfl, n_L, by decide +kernel⟩
theorem t_L_errorsWithout : Cond.static m_L_errorsWithout.1 ∈ am_Gl := am_t5 137 rfl rfl
abbrev m_L_sufficientLimit : am_M := (yL_sufficientLimit, cL_sufficientLimit, 3, (some .int), [(0, 5, 6, 19)], none)
theorem kw_L_sufficientLimit : am_wd m_L_sufficientLimit ∈ am_Gl ∧ Cond.initialized m_L_sufficientLimit.1.cls ∈ am_Gl ∧ (m_L_sufficientLimit.1.cls ≠ "java/lang/invoke/MethodHandle" ∧ m_L_sufficientLimit.1.cls ≠ "java/lang/invoke/VarHandle" ∧ (parseMethodDescriptor m_L_sufficientLimit.1.desc).map (fun d => d.parameters.length) = some 2) := ⟨am_t5 126 rfl rfl, n_L, by decide +kernel⟩
theorem t_L_sufficientLimit : Cond.static m_L_sufficientLimit.1 ∈ am_Gl := am_t5 125 rfl rfl
abbrev m_L_quickestGate : am_M := (yL_quickestGate, cL_quickestGate, 3, (some .int), [(0, 5, 6, 19)], none)
theorem kw_L_quickestGate : am_wd m_L_quickestGate ∈ am_Gl ∧ Cond.initialized m_L_quickestGate.1.cls ∈ am_Gl ∧ (m_L_quickestGate.1.cls ≠ "java/lang/invoke/MethodHandle" ∧ m_L_quickestGate.1.cls ≠ "java/lang/invoke/VarHandle" ∧ (parseMethodDescriptor m_L_quickestGate.1.desc).map (fun d => d.parameters.length) = some 2) := ⟨am_t6 26 rfl rfl, n_L, by decide +kernel⟩
theorem t_L_quickestGate : Cond.static m_L_quickestGate.1 ∈ am_Gl := am_t6 25 rfl rfl
abbrev m_L_word : am_M := (yL_word, cL_word, 4, (some .int), [], none)
theorem k_L_word : am_mk m_L_word 2 := ⟨am_t4 194 rfl rfl, n_L, by decide +kernel, by decide, rfl⟩
theorem t_L_word : Cond.static m_L_word.1 ∈ am_Gl := am_t4 193 rfl rfl
abbrev m_L_write : am_M := (yL_write, cL_write, 3, (some .boolean), [], none)
theorem k_L_write : am_mk m_L_write 2 := ⟨am_t4 183 rfl rfl, n_L, by decide +kernel, by decide, rfl⟩
theorem t_L_write : Cond.static m_L_write.1 ∈ am_Gl := am_t4 182 rfl rfl
abbrev m_L_draw : am_M := (yL_draw, cL_draw, 2, (some .int), [], none)
theorem k_L_draw : am_mk m_L_draw 2 := ⟨am_t4 207 rfl rfl, n_L, by decide +kernel, by decide, rfl⟩
theorem t_L_draw : Cond.static m_L_draw.1 ∈ am_Gl := am_t4 206 rfl rfl
abbrev m_L_weight : am_M := (yL_weight, cL_weight, 4, (some .int), [], none)
theorem k_L_weight : am_mk m_L_weight 2 := ⟨am_t5 223 rfl rfl, n_L, by decide +kernel, by decide, rfl⟩
theorem t_L_weight : Cond.static m_L_weight.1 ∈ am_Gl := am_t5 222 rfl rfl
abbrev m_L_isTree : am_M := (yL_isTree, cL_isTree, 11, (some .boolean), [], none)
theorem k_L_isTree : am_mk m_L_isTree 2 := ⟨am_t4 218 rfl rfl, n_L, by decide +kernel, by decide, rfl⟩
theorem t_L_isTree : Cond.static m_L_isTree.1 ∈ am_Gl := am_t4 217 rfl rfl
abbrev m_L_isSound : am_M := (yL_isSound, cL_isSound, 5, (some .boolean), [], none)
theorem k_L_isSound : am_mk m_L_isSound 1 := ⟨am_t4 211 rfl rfl, n_L, by decide +kernel, by decide, rfl⟩
theorem t_L_isSound : Cond.static m_L_isSound.1 ∈ am_Gl := am_t4 210 rfl rfl
abbrev m_L_builds : am_M := (yL_builds, cL_builds, 7, (some .boolean), [], none)
theorem k_L_builds : am_mk m_L_builds 2 := ⟨am_t5 196 rfl rfl, n_L, by decide +kernel, by decide, rfl⟩
theorem t_L_builds : Cond.static m_L_builds.1 ∈ am_Gl := am_t5 195 rfl rfl
abbrev m_L_acts : am_M := (yL_acts, cL_acts, 10, (some .boolean), [], none)
theorem k_L_acts : am_mk m_L_acts 2 := ⟨am_t5 207 rfl rfl, n_L, by decide +kernel, by decide, rfl⟩
theorem t_L_acts : Cond.static m_L_acts.1 ∈ am_Gl := am_t5 206 rfl rfl
theorem cl_L_8 : Cond.classLink RL 8 "TollTrees" ∈ am_Gl := am_t1 28 rfl rfl
theorem l_L_268 : Cond.methodLink RL 268 m_X8_init.1 ∈ am_Gl := am_t1 30 rfl rfl
theorem cl_X8_9 : Cond.classLink RX8 9 "TollTrees$Solver" ∈ am_Gl := am_t1 36 rfl rfl
theorem ln_X8_11 : Cond.methodLinkNest RX8 11 m_X4_init.1 "TollTrees" ∈ am_Nl := an_t1 38 rfl rfl
theorem f_X4_9 : am_lk RX4 9 4 0 := ⟨_, rfl, by decide, am_t1 42 rfl rfl⟩
theorem p_X4_9 : am_lp RX4 9 4 0 true (tyX4 0) := ⟨_, rfl, by decide, am_t1 42 rfl rfl, rfl, tyX4_ok 0 (by decide), fun _ => rfl⟩
theorem f_X4_15 : am_lk RX4 15 4 1 := ⟨_, rfl, by decide, am_t1 43 rfl rfl⟩
theorem p_X4_15 : am_lp RX4 15 4 1 true (tyX4 1) := ⟨_, rfl, by decide, am_t1 43 rfl rfl, rfl, tyX4_ok 1 (by decide), fun _ => rfl⟩
theorem f_X4_19 : am_lk RX4 19 4 2 := ⟨_, rfl, by decide, am_t1 44 rfl rfl⟩
theorem p_X4_19 : am_lp RX4 19 4 2 true (tyX4 2) := ⟨_, rfl, by decide, am_t1 44 rfl rfl, rfl, tyX4_ok 2 (by decide), fun _ => rfl⟩
theorem f_X4_22 : am_lk RX4 22 4 3 := ⟨_, rfl, by decide, am_t1 45 rfl rfl⟩
theorem p_X4_22 : am_lp RX4 22 4 3 true (tyX4 3) := ⟨_, rfl, by decide, am_t1 45 rfl rfl, rfl, tyX4_ok 3 (by decide), fun _ => rfl⟩
theorem f_X4_25 : am_lk RX4 25 4 4 := ⟨_, rfl, by decide, am_t1 46 rfl rfl⟩
theorem p_X4_25 : am_lp RX4 25 4 4 true (tyX4 4) := ⟨_, rfl, by decide, am_t1 46 rfl rfl, rfl, tyX4_ok 4 (by decide), fun _ => rfl⟩
theorem f_X4_28 : am_lk RX4 28 4 5 := ⟨_, rfl, by decide, am_t1 47 rfl rfl⟩
theorem p_X4_28 : am_lp RX4 28 4 5 true (tyX4 5) := ⟨_, rfl, by decide, am_t1 47 rfl rfl, rfl, tyX4_ok 5 (by decide), fun _ => rfl⟩
theorem f_X4_31 : am_lk RX4 31 4 6 := ⟨_, rfl, by decide, am_t1 48 rfl rfl⟩
theorem p_X4_31 : am_lp RX4 31 4 6 true (tyX4 6) := ⟨_, rfl, by decide, am_t1 48 rfl rfl, rfl, tyX4_ok 6 (by decide), fun _ => rfl⟩
theorem f_X4_88 : am_lk RX4 88 4 7 := ⟨_, rfl, by decide, am_t1 49 rfl rfl⟩
theorem p_X4_88 : am_lp RX4 88 4 7 false (tyX4 7) := ⟨_, rfl, by decide, am_t1 49 rfl rfl, rfl, tyX4_ok 7 (by decide), fun _ => rfl⟩
theorem cl_X8_16 : Cond.classLink RX8 16 "TollTrees$Station" ∈ am_Gl := am_t1 69 rfl rfl
theorem l_X8_18 : Cond.methodLink RX8 18 m_X5_init.1 ∈ am_Gl := am_t1 71 rfl rfl
theorem cl_X5_28 : Cond.classLink RX5 28 "TollTrees$Gate" ∈ am_Gl := am_t1 75 rfl rfl
theorem cl_X5_34 : Cond.classLink RX5 34 "TollTrees$Totals" ∈ am_Gl := am_t1 77 rfl rfl
theorem ln_X5_36 : Cond.methodLinkNest RX5 36 m_X6_init.1 "TollTrees" ∈ am_Nl := an_t1 79 rfl rfl
theorem f_X6_7 : am_lk RX6 7 6 0 := ⟨_, rfl, by decide, am_t1 83 rfl rfl⟩
theorem p_X6_7 : am_lp RX6 7 6 0 false (tyX6 0) := ⟨_, rfl, by decide, am_t1 83 rfl rfl, rfl, tyX6_ok 0 (by decide), fun _ => rfl⟩
theorem f_X8_228 : am_lk RX8 228 6 0 := ⟨_, rfl, by decide, am_t1 84 rfl rfl⟩
theorem pf_X8_228 : am_lp RX8 228 6 0 false (tyX6 0) := ⟨_, rfl, by decide, am_t1 84 rfl rfl, rfl, tyX6_ok 0 (by decide), fun h => by cases h⟩
theorem f_X6_13 : am_lk RX6 13 6 1 := ⟨_, rfl, by decide, am_t1 85 rfl rfl⟩
theorem p_X6_13 : am_lp RX6 13 6 1 false (tyX6 1) := ⟨_, rfl, by decide, am_t1 85 rfl rfl, rfl, tyX6_ok 1 (by decide), fun _ => rfl⟩
theorem f_X8_233 : am_lk RX8 233 6 1 := ⟨_, rfl, by decide, am_t1 86 rfl rfl⟩
theorem pf_X8_233 : am_lp RX8 233 6 1 false (tyX6 1) := ⟨_, rfl, by decide, am_t1 86 rfl rfl, rfl, tyX6_ok 1 (by decide), fun h => by cases h⟩
theorem f_X6_16 : am_lk RX6 16 6 2 := ⟨_, rfl, by decide, am_t1 87 rfl rfl⟩
theorem p_X6_16 : am_lp RX6 16 6 2 false (tyX6 2) := ⟨_, rfl, by decide, am_t1 87 rfl rfl, rfl, tyX6_ok 2 (by decide), fun _ => rfl⟩
theorem f_X8_236 : am_lk RX8 236 6 2 := ⟨_, rfl, by decide, am_t1 88 rfl rfl⟩
theorem pf_X8_236 : am_lp RX8 236 6 2 false (tyX6 2) := ⟨_, rfl, by decide, am_t1 88 rfl rfl, rfl, tyX6_ok 2 (by decide), fun h => by cases h⟩
theorem f_X6_19 : am_lk RX6 19 6 3 := ⟨_, rfl, by decide, am_t1 89 rfl rfl⟩
theorem p_X6_19 : am_lp RX6 19 6 3 false (tyX6 3) := ⟨_, rfl, by decide, am_t1 89 rfl rfl, rfl, tyX6_ok 3 (by decide), fun _ => rfl⟩
theorem f_X8_239 : am_lk RX8 239 6 3 := ⟨_, rfl, by decide, am_t1 90 rfl rfl⟩
theorem pf_X8_239 : am_lp RX8 239 6 3 false (tyX6 3) := ⟨_, rfl, by decide, am_t1 90 rfl rfl, rfl, tyX6_ok 3 (by decide), fun h => by cases h⟩
theorem f_X6_22 : am_lk RX6 22 6 4 := ⟨_, rfl, by decide, am_t1 91 rfl rfl⟩
theorem p_X6_22 : am_lp RX6 22 6 4 false (tyX6 4) := ⟨_, rfl, by decide, am_t1 91 rfl rfl, rfl, tyX6_ok 4 (by decide), fun _ => rfl⟩
theorem f_X8_242 : am_lk RX8 242 6 4 := ⟨_, rfl, by decide, am_t1 92 rfl rfl⟩
theorem pf_X8_242 : am_lp RX8 242 6 4 false (tyX6 4) := ⟨_, rfl, by decide, am_t1 92 rfl rfl, rfl, tyX6_ok 4 (by decide), fun h => by cases h⟩
theorem f_X6_25 : am_lk RX6 25 6 5 := ⟨_, rfl, by decide, am_t1 93 rfl rfl⟩
theorem p_X6_25 : am_lp RX6 25 6 5 false (tyX6 5) := ⟨_, rfl, by decide, am_t1 93 rfl rfl, rfl, tyX6_ok 5 (by decide), fun _ => rfl⟩
theorem f_X8_245 : am_lk RX8 245 6 5 := ⟨_, rfl, by decide, am_t1 94 rfl rfl⟩
theorem pf_X8_245 : am_lp RX8 245 6 5 false (tyX6 5) := ⟨_, rfl, by decide, am_t1 94 rfl rfl, rfl, tyX6_ok 5 (by decide), fun h => by cases h⟩
theorem f_X6_28 : am_lk RX6 28 6 6 := ⟨_, rfl, by decide, am_t1 95 rfl rfl⟩
theorem p_X6_28 : am_lp RX6 28 6 6 false (tyX6 6) := ⟨_, rfl, by decide, am_t1 95 rfl rfl, rfl, tyX6_ok 6 (by decide), fun _ => rfl⟩
theorem f_X8_248 : am_lk RX8 248 6 6 := ⟨_, rfl, by decide, am_t1 96 rfl rfl⟩
theorem pf_X8_248 : am_lp RX8 248 6 6 false (tyX6 6) := ⟨_, rfl, by decide, am_t1 96 rfl rfl, rfl, tyX6_ok 6 (by decide), fun h => by cases h⟩
theorem f_X6_31 : am_lk RX6 31 6 7 := ⟨_, rfl, by decide, am_t1 97 rfl rfl⟩
theorem p_X6_31 : am_lp RX6 31 6 7 false (tyX6 7) := ⟨_, rfl, by decide, am_t1 97 rfl rfl, rfl, tyX6_ok 7 (by decide), fun _ => rfl⟩
theorem f_X8_251 : am_lk RX8 251 6 7 := ⟨_, rfl, by decide, am_t1 98 rfl rfl⟩
theorem pf_X8_251 : am_lp RX8 251 6 7 false (tyX6 7) := ⟨_, rfl, by decide, am_t1 98 rfl rfl, rfl, tyX6_ok 7 (by decide), fun h => by cases h⟩
theorem ln_X5_41 : Cond.methodLinkNest RX5 41 m_X0_init.1 "TollTrees" ∈ am_Nl := an_t1 117 rfl rfl
theorem cl_X0_15 : Cond.classLink RX0 15 "TollTrees$Tree" ∈ am_Gl := am_t1 121 rfl rfl
theorem ln_X0_17 : Cond.methodLinkNest RX0 17 m_X7_init.1 "TollTrees" ∈ am_Nl := an_t1 123 rfl rfl
theorem f_X7_24 : am_lk RX7 24 7 0 := ⟨_, rfl, by decide, am_t1 127 rfl rfl⟩
theorem p_X7_24 : am_lp RX7 24 7 0 false (tyX7 0) := ⟨_, rfl, by decide, am_t1 127 rfl rfl, rfl, tyX7_ok 0 (by decide), fun _ => rfl⟩
theorem f_X4_83 : am_lk RX4 83 7 0 := ⟨_, rfl, by decide, am_t1 128 rfl rfl⟩
theorem pf_X4_83 : am_lp RX4 83 7 0 false (tyX7 0) := ⟨_, rfl, by decide, am_t1 128 rfl rfl, rfl, tyX7_ok 0 (by decide), fun h => by cases h⟩
theorem f_X8_152 : am_lk RX8 152 7 0 := ⟨_, rfl, by decide, am_t1 129 rfl rfl⟩
theorem pf_X8_152 : am_lp RX8 152 7 0 false (tyX7 0) := ⟨_, rfl, by decide, am_t1 129 rfl rfl, rfl, tyX7_ok 0 (by decide), fun h => by cases h⟩
theorem f_X5_109 : am_lk RX5 109 7 0 := ⟨_, rfl, by decide, am_t1 130 rfl rfl⟩
theorem pf_X5_109 : am_lp RX5 109 7 0 false (tyX7 0) := ⟨_, rfl, by decide, am_t1 130 rfl rfl, rfl, tyX7_ok 0 (by decide), fun h => by cases h⟩
theorem f_X7_9 : am_lk RX7 9 7 1 := ⟨_, rfl, by decide, am_t1 131 rfl rfl⟩
theorem p_X7_9 : am_lp RX7 9 7 1 true (tyX7 1) := ⟨_, rfl, by decide, am_t1 131 rfl rfl, rfl, tyX7_ok 1 (by decide), fun _ => rfl⟩
theorem f_X4_110 : am_lk RX4 110 7 1 := ⟨_, rfl, by decide, am_t1 132 rfl rfl⟩
theorem f_X5_112 : am_lk RX5 112 7 1 := ⟨_, rfl, by decide, am_t1 133 rfl rfl⟩
theorem f_X8_258 : am_lk RX8 258 7 1 := ⟨_, rfl, by decide, am_t1 134 rfl rfl⟩
theorem f_X7_15 : am_lk RX7 15 7 2 := ⟨_, rfl, by decide, am_t1 135 rfl rfl⟩
theorem p_X7_15 : am_lp RX7 15 7 2 true (tyX7 2) := ⟨_, rfl, by decide, am_t1 135 rfl rfl, rfl, tyX7_ok 2 (by decide), fun _ => rfl⟩
theorem f_X4_116 : am_lk RX4 116 7 2 := ⟨_, rfl, by decide, am_t1 136 rfl rfl⟩
theorem f_X8_261 : am_lk RX8 261 7 2 := ⟨_, rfl, by decide, am_t1 137 rfl rfl⟩
theorem f_X7_18 : am_lk RX7 18 7 3 := ⟨_, rfl, by decide, am_t1 138 rfl rfl⟩
theorem p_X7_18 : am_lp RX7 18 7 3 true (tyX7 3) := ⟨_, rfl, by decide, am_t1 138 rfl rfl, rfl, tyX7_ok 3 (by decide), fun _ => rfl⟩
theorem f_X4_99 : am_lk RX4 99 7 3 := ⟨_, rfl, by decide, am_t1 139 rfl rfl⟩
theorem f_X8_265 : am_lk RX8 265 7 3 := ⟨_, rfl, by decide, am_t1 140 rfl rfl⟩
theorem f_X7_21 : am_lk RX7 21 7 4 := ⟨_, rfl, by decide, am_t1 141 rfl rfl⟩
theorem p_X7_21 : am_lp RX7 21 7 4 true (tyX7 4) := ⟨_, rfl, by decide, am_t1 141 rfl rfl, rfl, tyX7_ok 4 (by decide), fun _ => rfl⟩
theorem f_X4_113 : am_lk RX4 113 7 4 := ⟨_, rfl, by decide, am_t1 142 rfl rfl⟩
theorem f_X5_115 : am_lk RX5 115 7 4 := ⟨_, rfl, by decide, am_t1 143 rfl rfl⟩
theorem f_X8_268 : am_lk RX8 268 7 4 := ⟨_, rfl, by decide, am_t1 144 rfl rfl⟩
theorem f_X0_22 : am_lk RX0 22 0 0 := ⟨_, rfl, by decide, am_t1 156 rfl rfl⟩
theorem p_X0_22 : am_lp RX0 22 0 0 false (tyX0 0) := ⟨_, rfl, by decide, am_t1 156 rfl rfl, rfl, tyX0_ok 0 (by decide), fun _ => rfl⟩
theorem f_X5_83 : am_lk RX5 83 0 0 := ⟨_, rfl, by decide, am_t1 157 rfl rfl⟩
theorem pf_X5_83 : am_lp RX5 83 0 0 false (tyX0 0) := ⟨_, rfl, by decide, am_t1 157 rfl rfl, rfl, tyX0_ok 0 (by decide), fun h => by cases h⟩
theorem f_X3_191 : am_lk RX3 191 0 0 := ⟨_, rfl, by decide, am_t1 158 rfl rfl⟩
theorem pf_X3_191 : am_lp RX3 191 0 0 false (tyX0 0) := ⟨_, rfl, by decide, am_t1 158 rfl rfl, rfl, tyX0_ok 0 (by decide), fun h => by cases h⟩
theorem f_X0_26 : am_lk RX0 26 0 1 := ⟨_, rfl, by decide, am_t1 159 rfl rfl⟩
theorem p_X0_26 : am_lp RX0 26 0 1 false (tyX0 1) := ⟨_, rfl, by decide, am_t1 159 rfl rfl, rfl, tyX0_ok 1 (by decide), fun _ => rfl⟩
theorem f_X3_194 : am_lk RX3 194 0 1 := ⟨_, rfl, by decide, am_t1 160 rfl rfl⟩
theorem pf_X3_194 : am_lp RX3 194 0 1 false (tyX0 1) := ⟨_, rfl, by decide, am_t1 160 rfl rfl, rfl, tyX0_ok 1 (by decide), fun h => by cases h⟩
theorem f_X0_30 : am_lk RX0 30 0 2 := ⟨_, rfl, by decide, am_t1 161 rfl rfl⟩
theorem p_X0_30 : am_lp RX0 30 0 2 false (tyX0 2) := ⟨_, rfl, by decide, am_t1 161 rfl rfl, rfl, tyX0_ok 2 (by decide), fun _ => rfl⟩
theorem f_X3_197 : am_lk RX3 197 0 2 := ⟨_, rfl, by decide, am_t1 162 rfl rfl⟩
theorem pf_X3_197 : am_lp RX3 197 0 2 false (tyX0 2) := ⟨_, rfl, by decide, am_t1 162 rfl rfl, rfl, tyX0_ok 2 (by decide), fun h => by cases h⟩
theorem f_X0_33 : am_lk RX0 33 0 3 := ⟨_, rfl, by decide, am_t1 163 rfl rfl⟩
theorem p_X0_33 : am_lp RX0 33 0 3 false (tyX0 3) := ⟨_, rfl, by decide, am_t1 163 rfl rfl, rfl, tyX0_ok 3 (by decide), fun _ => rfl⟩
theorem f_X4_70 : am_lk RX4 70 0 3 := ⟨_, rfl, by decide, am_t1 164 rfl rfl⟩
theorem pf_X4_70 : am_lp RX4 70 0 3 false (tyX0 3) := ⟨_, rfl, by decide, am_t1 164 rfl rfl, rfl, tyX0_ok 3 (by decide), fun h => by cases h⟩
theorem f_X8_171 : am_lk RX8 171 0 3 := ⟨_, rfl, by decide, am_t1 165 rfl rfl⟩
theorem pf_X8_171 : am_lp RX8 171 0 3 false (tyX0 3) := ⟨_, rfl, by decide, am_t1 165 rfl rfl, rfl, tyX0_ok 3 (by decide), fun h => by cases h⟩
theorem f_X3_200 : am_lk RX3 200 0 3 := ⟨_, rfl, by decide, am_t1 166 rfl rfl⟩
theorem pf_X3_200 : am_lp RX3 200 0 3 false (tyX0 3) := ⟨_, rfl, by decide, am_t1 166 rfl rfl, rfl, tyX0_ok 3 (by decide), fun h => by cases h⟩
theorem f_X0_9 : am_lk RX0 9 0 4 := ⟨_, rfl, by decide, am_t1 167 rfl rfl⟩
theorem p_X0_9 : am_lp RX0 9 0 4 true (tyX0 4) := ⟨_, rfl, by decide, am_t1 167 rfl rfl, rfl, tyX0_ok 4 (by decide), fun _ => rfl⟩
theorem f_X4_128 : am_lk RX4 128 0 4 := ⟨_, rfl, by decide, am_t1 168 rfl rfl⟩
theorem f_X5_122 : am_lk RX5 122 0 4 := ⟨_, rfl, by decide, am_t1 169 rfl rfl⟩
theorem f_X8_203 : am_lk RX8 203 0 4 := ⟨_, rfl, by decide, am_t1 170 rfl rfl⟩
theorem f_X3_206 : am_lk RX3 206 0 4 := ⟨_, rfl, by decide, am_t1 171 rfl rfl⟩
theorem f_X0_18 : am_lk RX0 18 0 5 := ⟨_, rfl, by decide, am_t1 172 rfl rfl⟩
theorem p_X0_18 : am_lp RX0 18 0 5 true (tyX0 5) := ⟨_, rfl, by decide, am_t1 172 rfl rfl, rfl, tyX0_ok 5 (by decide), fun _ => rfl⟩
theorem f_X4_79 : am_lk RX4 79 0 5 := ⟨_, rfl, by decide, am_t1 173 rfl rfl⟩
theorem f_X8_148 : am_lk RX8 148 0 5 := ⟨_, rfl, by decide, am_t1 174 rfl rfl⟩
theorem f_X5_87 : am_lk RX5 87 0 5 := ⟨_, rfl, by decide, am_t1 175 rfl rfl⟩
theorem f_X5_42 : am_lk RX5 42 5 0 := ⟨_, rfl, by decide, am_t1 189 rfl rfl⟩
theorem p_X5_42 : am_lp RX5 42 5 0 false (tyX5 0) := ⟨_, rfl, by decide, am_t1 189 rfl rfl, rfl, tyX5_ok 0 (by decide), fun _ => rfl⟩
theorem f_X4_132 : am_lk RX4 132 5 0 := ⟨_, rfl, by decide, am_t1 190 rfl rfl⟩
theorem pf_X4_132 : am_lp RX4 132 5 0 false (tyX5 0) := ⟨_, rfl, by decide, am_t1 190 rfl rfl, rfl, tyX5_ok 0 (by decide), fun h => by cases h⟩
theorem f_X8_184 : am_lk RX8 184 5 0 := ⟨_, rfl, by decide, am_t1 191 rfl rfl⟩
theorem pf_X8_184 : am_lp RX8 184 5 0 false (tyX5 0) := ⟨_, rfl, by decide, am_t1 191 rfl rfl, rfl, tyX5_ok 0 (by decide), fun h => by cases h⟩
theorem f_X3_144 : am_lk RX3 144 5 0 := ⟨_, rfl, by decide, am_t1 192 rfl rfl⟩
theorem pf_X3_144 : am_lp RX3 144 5 0 false (tyX5 0) := ⟨_, rfl, by decide, am_t1 192 rfl rfl, rfl, tyX5_ok 0 (by decide), fun h => by cases h⟩
theorem f_X5_46 : am_lk RX5 46 5 1 := ⟨_, rfl, by decide, am_t1 193 rfl rfl⟩
theorem p_X5_46 : am_lp RX5 46 5 1 false (tyX5 1) := ⟨_, rfl, by decide, am_t1 193 rfl rfl, rfl, tyX5_ok 1 (by decide), fun _ => rfl⟩
theorem f_X4_40 : am_lk RX4 40 5 1 := ⟨_, rfl, by decide, am_t1 194 rfl rfl⟩
theorem pf_X4_40 : am_lp RX4 40 5 1 false (tyX5 1) := ⟨_, rfl, by decide, am_t1 194 rfl rfl, rfl, tyX5_ok 1 (by decide), fun h => by cases h⟩
theorem f_X8_103 : am_lk RX8 103 5 1 := ⟨_, rfl, by decide, am_t1 195 rfl rfl⟩
theorem pf_X8_103 : am_lp RX8 103 5 1 false (tyX5 1) := ⟨_, rfl, by decide, am_t1 195 rfl rfl, rfl, tyX5_ok 1 (by decide), fun h => by cases h⟩
theorem f_X3_160 : am_lk RX3 160 5 1 := ⟨_, rfl, by decide, am_t1 196 rfl rfl⟩
theorem pf_X3_160 : am_lp RX3 160 5 1 false (tyX5 1) := ⟨_, rfl, by decide, am_t1 196 rfl rfl, rfl, tyX5_ok 1 (by decide), fun h => by cases h⟩
theorem f_X5_49 : am_lk RX5 49 5 2 := ⟨_, rfl, by decide, am_t1 197 rfl rfl⟩
theorem p_X5_49 : am_lp RX5 49 5 2 false (tyX5 2) := ⟨_, rfl, by decide, am_t1 197 rfl rfl, rfl, tyX5_ok 2 (by decide), fun _ => rfl⟩
theorem f_X8_187 : am_lk RX8 187 5 2 := ⟨_, rfl, by decide, am_t1 198 rfl rfl⟩
theorem pf_X8_187 : am_lp RX8 187 5 2 false (tyX5 2) := ⟨_, rfl, by decide, am_t1 198 rfl rfl, rfl, tyX5_ok 2 (by decide), fun h => by cases h⟩
theorem f_X3_203 : am_lk RX3 203 5 2 := ⟨_, rfl, by decide, am_t1 199 rfl rfl⟩
theorem pf_X3_203 : am_lp RX3 203 5 2 false (tyX5 2) := ⟨_, rfl, by decide, am_t1 199 rfl rfl, rfl, tyX5_ok 2 (by decide), fun h => by cases h⟩
theorem f_X5_52 : am_lk RX5 52 5 3 := ⟨_, rfl, by decide, am_t1 200 rfl rfl⟩
theorem p_X5_52 : am_lp RX5 52 5 3 false (tyX5 3) := ⟨_, rfl, by decide, am_t1 200 rfl rfl, rfl, tyX5_ok 3 (by decide), fun _ => rfl⟩
theorem f_X8_174 : am_lk RX8 174 5 3 := ⟨_, rfl, by decide, am_t1 201 rfl rfl⟩
theorem pf_X8_174 : am_lp RX8 174 5 3 false (tyX5 3) := ⟨_, rfl, by decide, am_t1 201 rfl rfl, rfl, tyX5_ok 3 (by decide), fun h => by cases h⟩
theorem f_X3_256 : am_lk RX3 256 5 3 := ⟨_, rfl, by decide, am_t1 202 rfl rfl⟩
theorem pf_X3_256 : am_lp RX3 256 5 3 false (tyX5 3) := ⟨_, rfl, by decide, am_t1 202 rfl rfl, rfl, tyX5_ok 3 (by decide), fun h => by cases h⟩
theorem f_X5_9 : am_lk RX5 9 5 4 := ⟨_, rfl, by decide, am_t1 203 rfl rfl⟩
theorem p_X5_9 : am_lp RX5 9 5 4 true (tyX5 4) := ⟨_, rfl, by decide, am_t1 203 rfl rfl, rfl, tyX5_ok 4 (by decide), fun _ => rfl⟩
theorem f_X3_129 : am_lk RX3 129 5 4 := ⟨_, rfl, by decide, am_t1 204 rfl rfl⟩
theorem f_X5_15 : am_lk RX5 15 5 5 := ⟨_, rfl, by decide, am_t1 205 rfl rfl⟩
theorem p_X5_15 : am_lp RX5 15 5 5 true (tyX5 5) := ⟨_, rfl, by decide, am_t1 205 rfl rfl, rfl, tyX5_ok 5 (by decide), fun _ => rfl⟩
theorem f_X4_122 : am_lk RX4 122 5 5 := ⟨_, rfl, by decide, am_t1 206 rfl rfl⟩
theorem f_X3_137 : am_lk RX3 137 5 5 := ⟨_, rfl, by decide, am_t1 207 rfl rfl⟩
theorem f_X8_193 : am_lk RX8 193 5 5 := ⟨_, rfl, by decide, am_t1 208 rfl rfl⟩
theorem f_X5_19 : am_lk RX5 19 5 6 := ⟨_, rfl, by decide, am_t1 209 rfl rfl⟩
theorem p_X5_19 : am_lp RX5 19 5 6 true (tyX5 6) := ⟨_, rfl, by decide, am_t1 209 rfl rfl, rfl, tyX5_ok 6 (by decide), fun _ => rfl⟩
theorem f_X4_125 : am_lk RX4 125 5 6 := ⟨_, rfl, by decide, am_t1 210 rfl rfl⟩
theorem f_X3_133 : am_lk RX3 133 5 6 := ⟨_, rfl, by decide, am_t1 211 rfl rfl⟩
theorem f_X8_196 : am_lk RX8 196 5 6 := ⟨_, rfl, by decide, am_t1 212 rfl rfl⟩
theorem f_X5_22 : am_lk RX5 22 5 7 := ⟨_, rfl, by decide, am_t1 213 rfl rfl⟩
theorem p_X5_22 : am_lp RX5 22 5 7 true (tyX5 7) := ⟨_, rfl, by decide, am_t1 213 rfl rfl, rfl, tyX5_ok 7 (by decide), fun _ => rfl⟩
theorem f_X3_155 : am_lk RX3 155 5 7 := ⟨_, rfl, by decide, am_t1 214 rfl rfl⟩
theorem f_X5_25 : am_lk RX5 25 5 8 := ⟨_, rfl, by decide, am_t1 215 rfl rfl⟩
theorem p_X5_25 : am_lp RX5 25 5 8 true (tyX5 8) := ⟨_, rfl, by decide, am_t1 215 rfl rfl, rfl, tyX5_ok 8 (by decide), fun _ => rfl⟩
theorem f_X4_131 : am_lk RX4 131 5 8 := ⟨_, rfl, by decide, am_t1 216 rfl rfl⟩
theorem f_X8_167 : am_lk RX8 167 5 8 := ⟨_, rfl, by decide, am_t1 217 rfl rfl⟩
theorem f_X3_158 : am_lk RX3 158 5 8 := ⟨_, rfl, by decide, am_t1 218 rfl rfl⟩
theorem f_X5_30 : am_lk RX5 30 5 9 := ⟨_, rfl, by decide, am_t1 219 rfl rfl⟩
theorem p_X5_30 : am_lp RX5 30 5 9 true (tyX5 9) := ⟨_, rfl, by decide, am_t1 219 rfl rfl, rfl, tyX5_ok 9 (by decide), fun _ => rfl⟩
theorem f_X8_121 : am_lk RX8 121 5 9 := ⟨_, rfl, by decide, am_t1 220 rfl rfl⟩
theorem f_X3_174 : am_lk RX3 174 5 9 := ⟨_, rfl, by decide, am_t1 221 rfl rfl⟩
theorem f_X5_37 : am_lk RX5 37 5 10 := ⟨_, rfl, by decide, am_t1 222 rfl rfl⟩
theorem p_X5_37 : am_lp RX5 37 5 10 true (tyX5 10) := ⟨_, rfl, by decide, am_t1 222 rfl rfl, rfl, tyX5_ok 10 (by decide), fun _ => rfl⟩
theorem f_X8_224 : am_lk RX8 224 5 10 := ⟨_, rfl, by decide, am_t1 223 rfl rfl⟩
theorem cl_X8_26 : Cond.classLink RX8 26 "TollTrees$Reader" ∈ am_Gl := am_t2 7 rfl rfl
theorem l_X8_28 : Cond.methodLink RX8 28 m_X3_init.1 ∈ am_Gl := am_t2 9 rfl rfl
theorem f_X3_9 : am_lk RX3 9 3 0 := ⟨_, rfl, by decide, am_t2 13 rfl rfl⟩
theorem p_X3_9 : am_lp RX3 9 3 0 true (tyX3 0) := ⟨_, rfl, by decide, am_t2 13 rfl rfl, rfl, tyX3_ok 0 (by decide), fun _ => rfl⟩
theorem f_X8_80 : am_lk RX8 80 3 1 := ⟨_, rfl, by decide, am_t2 14 rfl rfl⟩
theorem pf_X8_80 : am_lp RX8 80 3 1 false (tyX3 1) := ⟨_, rfl, by decide, am_t2 14 rfl rfl, rfl, tyX3_ok 1 (by decide), fun h => by cases h⟩
theorem f_X3_27 : am_lk RX3 27 3 1 := ⟨_, rfl, by decide, am_t2 15 rfl rfl⟩
theorem p_X3_27 : am_lp RX3 27 3 1 false (tyX3 1) := ⟨_, rfl, by decide, am_t2 15 rfl rfl, rfl, tyX3_ok 1 (by decide), fun _ => rfl⟩
theorem f_X3_34 : am_lk RX3 34 3 2 := ⟨_, rfl, by decide, am_t2 16 rfl rfl⟩
theorem p_X3_34 : am_lp RX3 34 3 2 false (tyX3 2) := ⟨_, rfl, by decide, am_t2 16 rfl rfl, rfl, tyX3_ok 2 (by decide), fun _ => rfl⟩
theorem f_X3_15 : am_lk RX3 15 3 3 := ⟨_, rfl, by decide, am_t2 17 rfl rfl⟩
theorem p_X3_15 : am_lp RX3 15 3 3 false (tyX3 3) := ⟨_, rfl, by decide, am_t2 17 rfl rfl, rfl, tyX3_ok 3 (by decide), fun _ => rfl⟩
theorem f_X3_37 : am_lk RX3 37 3 4 := ⟨_, rfl, by decide, am_t2 18 rfl rfl⟩
theorem p_X3_37 : am_lp RX3 37 3 4 false (tyX3 4) := ⟨_, rfl, by decide, am_t2 18 rfl rfl, rfl, tyX3_ok 4 (by decide), fun _ => rfl⟩
theorem f_X3_19 : am_lk RX3 19 3 5 := ⟨_, rfl, by decide, am_t2 19 rfl rfl⟩
theorem p_X3_19 : am_lp RX3 19 3 5 true (tyX3 5) := ⟨_, rfl, by decide, am_t2 19 rfl rfl, rfl, tyX3_ok 5 (by decide), fun _ => rfl⟩
theorem f_X3_23 : am_lk RX3 23 3 6 := ⟨_, rfl, by decide, am_t2 20 rfl rfl⟩
theorem p_X3_23 : am_lp RX3 23 3 6 true (tyX3 6) := ⟨_, rfl, by decide, am_t2 20 rfl rfl, rfl, tyX3_ok 6 (by decide), fun _ => rfl⟩
theorem f_X3_49 : am_lk RX3 49 3 7 := ⟨_, rfl, by decide, am_t2 21 rfl rfl⟩
theorem p_X3_49 : am_lp RX3 49 3 7 false (tyX3 7) := ⟨_, rfl, by decide, am_t2 21 rfl rfl, rfl, tyX3_ok 7 (by decide), fun _ => rfl⟩
theorem f_X3_46 : am_lk RX3 46 3 8 := ⟨_, rfl, by decide, am_t2 22 rfl rfl⟩
theorem p_X3_46 : am_lp RX3 46 3 8 false (tyX3 8) := ⟨_, rfl, by decide, am_t2 22 rfl rfl, rfl, tyX3_ok 8 (by decide), fun _ => rfl⟩
theorem f_X3_40 : am_lk RX3 40 3 9 := ⟨_, rfl, by decide, am_t2 23 rfl rfl⟩
theorem p_X3_40 : am_lp RX3 40 3 9 false (tyX3 9) := ⟨_, rfl, by decide, am_t2 23 rfl rfl, rfl, tyX3_ok 9 (by decide), fun _ => rfl⟩
theorem f_X3_62 : am_lk RX3 62 3 10 := ⟨_, rfl, by decide, am_t2 24 rfl rfl⟩
theorem p_X3_62 : am_lp RX3 62 3 10 false (tyX3 10) := ⟨_, rfl, by decide, am_t2 24 rfl rfl, rfl, tyX3_ok 10 (by decide), fun _ => rfl⟩
theorem f_X3_66 : am_lk RX3 66 3 11 := ⟨_, rfl, by decide, am_t2 25 rfl rfl⟩
theorem p_X3_66 : am_lp RX3 66 3 11 false (tyX3 11) := ⟨_, rfl, by decide, am_t2 25 rfl rfl, rfl, tyX3_ok 11 (by decide), fun _ => rfl⟩
theorem cl_X8_35 : Cond.classLink RX8 35 "TollTrees$History" ∈ am_Gl := am_t2 52 rfl rfl
theorem l_X8_37 : Cond.methodLink RX8 37 m_X1_init.1 ∈ am_Gl := am_t2 54 rfl rfl
theorem cl_X1_9 : Cond.classLink RX1 9 "TollTrees$Station" ∈ am_Gl := am_t2 58 rfl rfl
theorem l_X1_17 : Cond.methodLink RX1 17 m_X5_init.1 ∈ am_Gl := am_t2 60 rfl rfl
theorem f_X1_11 : am_lk RX1 11 1 0 := ⟨_, rfl, by decide, am_t2 61 rfl rfl⟩
theorem p_X1_11 : am_lp RX1 11 1 0 true (tyX1 0) := ⟨_, rfl, by decide, am_t2 61 rfl rfl, rfl, tyX1_ok 0 (by decide), fun _ => rfl⟩
theorem f_X1_22 : am_lk RX1 22 1 1 := ⟨_, rfl, by decide, am_t2 62 rfl rfl⟩
theorem p_X1_22 : am_lp RX1 22 1 1 false (tyX1 1) := ⟨_, rfl, by decide, am_t2 62 rfl rfl, rfl, tyX1_ok 1 (by decide), fun _ => rfl⟩
theorem f_X1_18 : am_lk RX1 18 1 2 := ⟨_, rfl, by decide, am_t2 63 rfl rfl⟩
theorem p_X1_18 : am_lp RX1 18 1 2 false (tyX1 2) := ⟨_, rfl, by decide, am_t2 63 rfl rfl, rfl, tyX1_ok 2 (by decide), fun _ => rfl⟩
theorem f_X8_180 : am_lk RX8 180 1 2 := ⟨_, rfl, by decide, am_t2 64 rfl rfl⟩
theorem pf_X8_180 : am_lp RX8 180 1 2 false (tyX1 2) := ⟨_, rfl, by decide, am_t2 64 rfl rfl, rfl, tyX1_ok 2 (by decide), fun h => by cases h⟩
theorem cl_X8_50 : Cond.classLink RX8 50 "TollTrees$Output" ∈ am_Gl := am_t2 72 rfl rfl
theorem ln_X8_52 : Cond.methodLinkNest RX8 52 m_X2_init.1 "TollTrees" ∈ am_Nl := an_t2 74 rfl rfl
theorem f_X2_9 : am_lk RX2 9 2 0 := ⟨_, rfl, by decide, am_t2 78 rfl rfl⟩
theorem p_X2_9 : am_lp RX2 9 2 0 true (tyX2 0) := ⟨_, rfl, by decide, am_t2 78 rfl rfl, rfl, tyX2_ok 0 (by decide), fun _ => rfl⟩
theorem f_X2_15 : am_lk RX2 15 2 2 := ⟨_, rfl, by decide, am_t2 79 rfl rfl⟩
theorem p_X2_15 : am_lp RX2 15 2 2 true (tyX2 2) := ⟨_, rfl, by decide, am_t2 79 rfl rfl, rfl, tyX2_ok 2 (by decide), fun _ => rfl⟩
theorem l_X8_59 : Cond.methodLink RX8 59 m_J0_length_8abf5.1 ∈ am_Gl := am_t2 91 rfl rfl
theorem l_J0_335 : Cond.methodLink RJ0 335 m_J0_coder_7d493.1 ∈ am_Gl := am_t2 95 rfl rfl
theorem l_X8_65 : Cond.methodLink RX8 65 m_J0_charAt_5068e.1 ∈ am_Gl := am_t2 101 rfl rfl
theorem l_J0_492 : Cond.methodLink RJ0 492 m_J0_isLatin1_aae02.1 ∈ am_Gl := am_t2 105 rfl rfl
theorem l_J0_495 : Cond.methodLink RJ0 495 m_J1_charAt_3b067.1 ∈ am_Gl := am_t2 109 rfl rfl
theorem l_J1_9 : Cond.methodLink RJ1 9 m_J0_checkIndex_df160.1 ∈ am_Gl := am_t2 112 rfl rfl
theorem l_J0_1059 : Cond.methodLink RJ0 1059 m_J3_checkIndex_8e157.1 ∈ am_Gl := am_t2 117 rfl rfl
theorem l_J2_414 : Cond.methodLink RJ2 414 m_J0_checkIndex_df160.1 ∈ am_Gl := am_t2 129 rfl rfl
theorem l_X8_69 : Cond.methodLink RX8 69 m_X3_putByte.1 ∈ am_Gl := am_t2 139 rfl rfl
theorem l_X8_73 : Cond.methodLink RX8 73 m_X3_begin.1 ∈ am_Gl := am_t2 143 rfl rfl
theorem l_X3_43 : Cond.methodLink RX3 43 m_X3_advance.1 ∈ am_Gl := am_t2 147 rfl rfl
theorem l_X3_52 : Cond.methodLink RX3 52 m_X3_kindOf.1 ∈ am_Gl := am_t2 151 rfl rfl
theorem l_X3_56 : Cond.methodLink RX3 56 m_X3_readLetters.1 ∈ am_Gl := am_t2 154 rfl rfl
theorem l_X3_59 : Cond.methodLink RX3 59 m_X3_readDigits.1 ∈ am_Gl := am_t2 158 rfl rfl
theorem kc_X3_69 : Cond.constant RX3 69 100000 ∈ am_Gl := am_t2 162 rfl rfl
theorem l_X8_76 : Cond.methodLink RX8 76 m_X3_readSetup.1 ∈ am_Gl := am_t2 163 rfl rfl
theorem l_X3_100 : Cond.methodLink RX3 100 m_X3_takeWord.1 ∈ am_Gl := am_t2 168 rfl rfl
theorem l_X3_79 : Cond.methodLink RX3 79 m_X3_isWord.1 ∈ am_Gl := am_t2 172 rfl rfl
theorem l_X3_70 : Cond.methodLink RX3 70 m_J0_length_8abf5.1 ∈ am_Gl := am_t2 176 rfl rfl
theorem l_X3_75 : Cond.methodLink RX3 75 m_J0_charAt_5068e.1 ∈ am_Gl := am_t2 177 rfl rfl
theorem l_X3_83 : Cond.methodLink RX3 83 m_X3_fail.1 ∈ am_Gl := am_t2 178 rfl rfl
theorem l_X3_103 : Cond.methodLink RX3 103 m_X3_takeSemicolon.1 ∈ am_Gl := am_t2 182 rfl rfl
theorem l_X3_106 : Cond.methodLink RX3 106 m_X3_readQuestions.1 ∈ am_Gl := am_t2 186 rfl rfl
theorem l_X3_117 : Cond.methodLink RX3 117 m_X3_readQuestion.1 ∈ am_Gl := am_t2 191 rfl rfl
theorem l_X3_120 : Cond.methodLink RX3 120 m_X5_questionNamed.1 ∈ am_Gl := am_t2 195 rfl rfl
theorem l_X5_79 : Cond.methodLink RX5 79 m_X5_indexOfName.1 ∈ am_Gl := am_t2 199 rfl rfl
theorem l_X3_126 : Cond.methodLink RX3 126 m_X3_isNewName.1 ∈ am_Gl := am_t2 202 rfl rfl
theorem l_X3_91 : Cond.methodLink RX3 91 m_X3_isName.1 ∈ am_Gl := am_t2 206 rfl rfl
theorem l_X3_140 : Cond.methodLink RX3 140 m_X3_takeNumber.1 ∈ am_Gl := am_t2 210 rfl rfl
theorem l_X3_87 : Cond.methodLink RX3 87 m_X3_isNumberIn.1 ∈ am_Gl := am_t2 214 rfl rfl
theorem l_X3_109 : Cond.methodLink RX3 109 m_X3_readCarts.1 ∈ am_Gl := am_t2 218 rfl rfl
theorem l_X3_149 : Cond.methodLink RX3 149 m_X3_readCart.1 ∈ am_Gl := am_t2 223 rfl rfl
theorem l_X3_152 : Cond.methodLink RX3 152 m_X5_typeNamed.1 ∈ am_Gl := am_t2 227 rfl rfl
theorem l_X3_163 : Cond.methodLink RX3 163 m_X3_readTraits.1 ∈ am_Gl := am_t2 231 rfl rfl
theorem l_X3_95 : Cond.methodLink RX3 95 m_X3_isKnownName.1 ∈ am_Gl := am_t2 235 rfl rfl
theorem ln_X3_166 : Cond.methodLinkNest RX3 166 m_X8_holds.1 "TollTrees" ∈ am_Nl := an_t2 239 rfl rfl
theorem l_X3_112 : Cond.methodLink RX3 112 m_X3_readGates.1 ∈ am_Gl := am_t3 2 rfl rfl
theorem l_X3_171 : Cond.methodLink RX3 171 m_X3_readGate.1 ∈ am_Gl := am_t3 7 rfl rfl
theorem l_X3_188 : Cond.methodLink RX3 188 m_X5_gateNamed.1 ∈ am_Gl := am_t3 11 rfl rfl
theorem l_X3_178 : Cond.methodLink RX3 178 m_X3_readCounts.1 ∈ am_Gl := am_t3 15 rfl rfl
theorem l_X3_182 : Cond.methodLink RX3 182 m_X4_plant.1 ∈ am_Gl := am_t3 19 rfl rfl
theorem l_X4_75 : Cond.methodLink RX4 75 m_X4_solve.1 ∈ am_Gl := am_t3 23 rfl rfl
theorem l_X4_34 : Cond.methodLink RX4 34 m_X5_allTypes.1 ∈ am_Gl := am_t3 27 rfl rfl
theorem l_X4_44 : Cond.methodLink RX4 44 m_X4_weighSets.1 ∈ am_Gl := am_t3 31 rfl rfl
theorem l_X4_48 : Cond.methodLink RX4 48 m_X4_groupTolls.1 ∈ am_Gl := am_t3 35 rfl rfl
theorem l_X4_52 : Cond.methodLink RX4 52 m_J7_fill_53178.1 ∈ am_Gl := am_t3 39 rfl rfl
theorem l_X4_58 : Cond.methodLink RX4 58 m_X4_needChildren.1 ∈ am_Gl := am_t3 42 rfl rfl
theorem l_X4_62 : Cond.methodLink RX4 62 m_X4_fewestLeafErrors.1 ∈ am_Gl := am_t3 46 rfl rfl
theorem l_X4_66 : Cond.methodLink RX4 66 m_X4_rankSet.1 ∈ am_Gl := am_t3 53 rfl rfl
theorem l_X4_91 : Cond.methodLink RX4 91 m_X4_await.1 ∈ am_Gl := am_t3 60 rfl rfl
theorem l_X4_95 : Cond.methodLink RX4 95 m_X4_plantNode.1 ∈ am_Gl := am_t3 64 rfl rfl
theorem l_X4_102 : Cond.methodLink RX4 102 m_X4_rankOf.1 ∈ am_Gl := am_t3 68 rfl rfl
theorem ln_X4_106 : Cond.methodLinkNest RX4 106 m_X8_rootOf.1 "TollTrees" ∈ am_Nl := an_t3 72 rfl rfl
theorem l_X4_119 : Cond.methodLink RX4 119 m_X4_bestToll.1 ∈ am_Gl := am_t3 75 rfl rfl
theorem l_X8_83 : Cond.methodLink RX8 83 m_X5_copyFrom.1 ∈ am_Gl := am_t3 79 rfl rfl
theorem l_X5_64 : Cond.methodLink RX5 64 m_X0_copyFrom.1 ∈ am_Gl := am_t3 86 rfl rfl
theorem l_X0_42 : Cond.methodLink RX0 42 m_X7_copyFrom.1 ∈ am_Gl := am_t3 91 rfl rfl
theorem l_X5_68 : Cond.methodLink RX5 68 m_X6_copyFrom.1 ∈ am_Gl := am_t3 96 rfl rfl
theorem f_X8_12 : am_lk RX8 12 8 0 := ⟨_, rfl, by decide, am_t3 100 rfl rfl⟩
theorem p_X8_12 : am_lp RX8 12 8 0 true (tyX8 0) := ⟨_, rfl, by decide, am_t3 100 rfl rfl, rfl, tyX8_ok 0 (by decide), fun _ => rfl⟩
theorem f_X8_19 : am_lk RX8 19 8 1 := ⟨_, rfl, by decide, am_t3 101 rfl rfl⟩
theorem p_X8_19 : am_lp RX8 19 8 1 true (tyX8 1) := ⟨_, rfl, by decide, am_t3 101 rfl rfl, rfl, tyX8_ok 1 (by decide), fun _ => rfl⟩
theorem f_X8_23 : am_lk RX8 23 8 2 := ⟨_, rfl, by decide, am_t3 102 rfl rfl⟩
theorem p_X8_23 : am_lp RX8 23 8 2 true (tyX8 2) := ⟨_, rfl, by decide, am_t3 102 rfl rfl, rfl, tyX8_ok 2 (by decide), fun _ => rfl⟩
theorem f_X8_31 : am_lk RX8 31 8 3 := ⟨_, rfl, by decide, am_t3 103 rfl rfl⟩
theorem p_X8_31 : am_lp RX8 31 8 3 true (tyX8 3) := ⟨_, rfl, by decide, am_t3 103 rfl rfl, rfl, tyX8_ok 3 (by decide), fun _ => rfl⟩
theorem f_X8_38 : am_lk RX8 38 8 4 := ⟨_, rfl, by decide, am_t3 104 rfl rfl⟩
theorem p_X8_38 : am_lp RX8 38 8 4 true (tyX8 4) := ⟨_, rfl, by decide, am_t3 104 rfl rfl, rfl, tyX8_ok 4 (by decide), fun _ => rfl⟩
theorem f_X8_42 : am_lk RX8 42 8 5 := ⟨_, rfl, by decide, am_t3 105 rfl rfl⟩
theorem p_X8_42 : am_lp RX8 42 8 5 true (tyX8 5) := ⟨_, rfl, by decide, am_t3 105 rfl rfl, rfl, tyX8_ok 5 (by decide), fun _ => rfl⟩
theorem f_X8_46 : am_lk RX8 46 8 6 := ⟨_, rfl, by decide, am_t3 106 rfl rfl⟩
theorem p_X8_46 : am_lp RX8 46 8 6 true (tyX8 6) := ⟨_, rfl, by decide, am_t3 106 rfl rfl, rfl, tyX8_ok 6 (by decide), fun _ => rfl⟩
theorem f_X8_53 : am_lk RX8 53 8 7 := ⟨_, rfl, by decide, am_t3 107 rfl rfl⟩
theorem p_X8_53 : am_lp RX8 53 8 7 true (tyX8 7) := ⟨_, rfl, by decide, am_t3 107 rfl rfl, rfl, tyX8_ok 7 (by decide), fun _ => rfl⟩
theorem l_L_301 : Cond.methodLink RL 301 m_X8_load.1 ∈ am_Gl := am_t3 125 rfl rfl
theorem l_X8_94 : Cond.methodLink RX8 94 m_X5_empty.1 ∈ am_Gl := am_t3 129 rfl rfl
theorem l_X5_55 : Cond.methodLink RX5 55 m_X6_reset.1 ∈ am_Gl := am_t3 133 rfl rfl
theorem l_X8_97 : Cond.methodLink RX8 97 m_X3_readCommands.1 ∈ am_Gl := am_t3 137 rfl rfl
theorem l_X3_209 : Cond.methodLink RX3 209 m_X3_readCommand.1 ∈ am_Gl := am_t3 141 rfl rfl
theorem l_X3_214 : Cond.methodLink RX3 214 m_X3_readPass.1 ∈ am_Gl := am_t3 146 rfl rfl
theorem l_X3_241 : Cond.methodLink RX3 241 m_X3_takeKnown.1 ∈ am_Gl := am_t3 150 rfl rfl
theorem l_X3_244 : Cond.methodLink RX3 244 m_X5_hourOfDay.1 ∈ am_Gl := am_t3 154 rfl rfl
theorem l_X3_247 : Cond.methodLink RX3 247 m_X0_opensAt.1 ∈ am_Gl := am_t3 158 rfl rfl
theorem l_X3_250 : Cond.methodLink RX3 250 m_X5_letPass.1 ∈ am_Gl := am_t3 162 rfl rfl
theorem l_X5_91 : Cond.methodLink RX5 91 m_X7_tollFor.1 ∈ am_Gl := am_t3 166 rfl rfl
theorem l_X7_34 : Cond.methodLink RX7 34 m_X7_leafHolding.1 ∈ am_Gl := am_t3 170 rfl rfl
theorem l_X5_97 : Cond.methodLink RX5 97 m_X5_costOfPath.1 ∈ am_Gl := am_t3 174 rfl rfl
theorem ln_X5_118 : Cond.methodLinkNest RX5 118 m_X8_holds.1 "TollTrees" ∈ am_Nl := an_t3 178 rfl rfl
theorem l_X5_101 : Cond.methodLink RX5 101 m_X6_add.1 ∈ am_Gl := am_t3 179 rfl rfl
theorem l_X5_105 : Cond.methodLink RX5 105 m_X0_addCarts.1 ∈ am_Gl := am_t3 183 rfl rfl
theorem l_X3_219 : Cond.methodLink RX3 219 m_X3_readBuild.1 ∈ am_Gl := am_t3 191 rfl rfl
theorem l_X3_224 : Cond.methodLink RX3 224 m_X3_readHalve.1 ∈ am_Gl := am_t3 196 rfl rfl
theorem l_X3_254 : Cond.methodLink RX3 254 m_X0_halve.1 ∈ am_Gl := am_t3 200 rfl rfl
theorem l_X3_229 : Cond.methodLink RX3 229 m_X3_readToll.1 ∈ am_Gl := am_t3 205 rfl rfl
theorem l_X3_233 : Cond.methodLink RX3 233 m_X3_readLimit.1 ∈ am_Gl := am_t3 210 rfl rfl
theorem l_X3_238 : Cond.methodLink RX3 238 m_X3_readHours.1 ∈ am_Gl := am_t3 215 rfl rfl
theorem l_X8_100 : Cond.methodLink RX8 100 m_X8_acceptDraft.1 ∈ am_Gl := am_t3 220 rfl rfl
theorem l_X8_137 : Cond.methodLink RX8 137 m_X1_remember.1 ∈ am_Gl := am_t3 224 rfl rfl
theorem l_X1_25 : Cond.methodLink RX1 25 m_X5_copyFrom.1 ∈ am_Gl := am_t3 228 rfl rfl
theorem l_L_312 : Cond.methodLink RL 312 m_X8_undoableChanges.1 ∈ am_Gl := am_t3 229 rfl rfl
theorem l_L_231 : Cond.methodLink RL 231 m_X8_stalestGate.1 ∈ am_Gl := am_t3 233 rfl rfl
theorem l_X8_293 : Cond.methodLink RX8 293 m_X8_bestRank.1 ∈ am_Gl := am_t3 237 rfl rfl
theorem l_X8_115 : Cond.methodLink RX8 115 m_X8_requireGate.1 ∈ am_Gl := am_t4 1 rfl rfl
theorem cl_X8_335 : Cond.classLink RX8 335 "java/lang/IndexOutOfBoundsException" ∈ am_Gl := am_t4 5 rfl rfl
theorem l_X8_90 : Cond.methodLink RX8 90 m_X8_requireRange.1 ∈ am_Gl := am_t4 69 rfl rfl
theorem cl_X8_338 : Cond.classLink RX8 338 "java/lang/IllegalArgumentException" ∈ am_Gl := am_t4 72 rfl rfl
theorem l_X8_307 : Cond.methodLink RX8 307 m_X4_solve.1 ∈ am_Gl := am_t4 87 rfl rfl
theorem l_X8_160 : Cond.methodLink RX8 160 m_X5_allTypes.1 ∈ am_Gl := am_t4 88 rfl rfl
theorem l_X8_311 : Cond.methodLink RX8 311 m_X4_rankOf.1 ∈ am_Gl := am_t4 89 rfl rfl
theorem l_X8_281 : Cond.methodLink RX8 281 m_X5_errorsNow.1 ∈ am_Gl := am_t4 90 rfl rfl
theorem l_X8_297 : Cond.methodLink RX8 297 m_X8_errorsOf.1 ∈ am_Gl := am_t4 94 rfl rfl
theorem l_X8_284 : Cond.methodLink RX8 284 m_X5_workNow.1 ∈ am_Gl := am_t4 97 rfl rfl
theorem l_X5_125 : Cond.methodLink RX5 125 m_X0_weight.1 ∈ am_Gl := am_t4 101 rfl rfl
theorem ln_X0_50 : Cond.methodLinkNest RX0 50 m_X8_holds.1 "TollTrees" ∈ am_Nl := an_t4 105 rfl rfl
theorem l_X8_301 : Cond.methodLink RX8 301 m_X8_workOf.1 ∈ am_Gl := am_t4 106 rfl rfl
theorem kc_X8_341 : Cond.constant RX8 341 4194303 ∈ am_Gl := am_t4 109 rfl rfl
theorem l_L_315 : Cond.methodLink RL 315 m_L_undo.1 ∈ am_Gl := am_t4 110 rfl rfl
theorem cl_L_21 : Cond.classLink RL 21 "java/lang/IllegalStateException" ∈ am_Gl := am_t4 113 rfl rfl
theorem l_L_39 : Cond.methodLink RL 39 m_X8_undo.1 ∈ am_Gl := am_t4 114 rfl rfl
theorem cl_X8_134 : Cond.classLink RX8 134 "java/lang/IllegalStateException" ∈ am_Gl := am_t4 118 rfl rfl
theorem l_X8_181 : Cond.methodLink RX8 181 m_X1_recallInto.1 ∈ am_Gl := am_t4 133 rfl rfl
theorem l_L_194 : Cond.methodLink RL 194 m_L_costLimit.1 ∈ am_Gl := am_t4 137 rfl rfl
theorem cl_L_19 : Cond.classLink RL 19 "java/lang/IndexOutOfBoundsException" ∈ am_Gl := am_t4 140 rfl rfl
theorem l_L_56 : Cond.methodLink RL 56 m_X8_costLimit.1 ∈ am_Gl := am_t4 141 rfl rfl
theorem l_L_149 : Cond.methodLink RL 149 m_L_nodeCount.1 ∈ am_Gl := am_t4 145 rfl rfl
theorem l_L_66 : Cond.methodLink RL 66 m_X8_nodeCount.1 ∈ am_Gl := am_t4 148 rfl rfl
theorem l_L_175 : Cond.methodLink RL 175 m_L_errors.1 ∈ am_Gl := am_t4 152 rfl rfl
theorem l_L_93 : Cond.methodLink RL 93 m_X8_errors.1 ∈ am_Gl := am_t4 155 rfl rfl
theorem l_L_177 : Cond.methodLink RL 177 m_L_work.1 ∈ am_Gl := am_t4 159 rfl rfl
theorem l_L_96 : Cond.methodLink RL 96 m_X8_work.1 ∈ am_Gl := am_t4 162 rfl rfl
theorem l_L_192 : Cond.methodLink RL 192 m_L_bestErrors.1 ∈ am_Gl := am_t4 166 rfl rfl
theorem cl_L_13 : Cond.classLink RL 13 "java/lang/IllegalArgumentException" ∈ am_Gl := am_t4 169 rfl rfl
theorem l_L_102 : Cond.methodLink RL 102 m_X8_bestErrors.1 ∈ am_Gl := am_t4 170 rfl rfl
theorem l_L_201 : Cond.methodLink RL 201 m_L_bestWork.1 ∈ am_Gl := am_t4 174 rfl rfl
theorem l_L_105 : Cond.methodLink RL 105 m_X8_bestWork.1 ∈ am_Gl := am_t4 177 rfl rfl
theorem l_L_297 : Cond.methodLink RL 297 m_L_write.1 ∈ am_Gl := am_t4 181 rfl rfl
theorem l_L_129 : Cond.methodLink RL 129 m_L_truncateInput.1 ∈ am_Gl := am_t4 184 rfl rfl
theorem l_L_7 : Cond.methodLink RL 7 m_X8_truncateInput.1 ∈ am_Gl := am_t4 187 rfl rfl
theorem l_L_120 : Cond.methodLink RL 120 m_J0_length_8abf5.1 ∈ am_Gl := am_t4 191 rfl rfl
theorem l_L_134 : Cond.methodLink RL 134 m_L_word.1 ∈ am_Gl := am_t4 192 rfl rfl
theorem l_L_125 : Cond.methodLink RL 125 m_J0_charAt_5068e.1 ∈ am_Gl := am_t4 195 rfl rfl
theorem l_L_138 : Cond.methodLink RL 138 m_X8_append.1 ∈ am_Gl := am_t4 196 rfl rfl
theorem l_X8_87 : Cond.methodLink RX8 87 m_X3_putInt.1 ∈ am_Gl := am_t4 200 rfl rfl
theorem l_X3_30 : Cond.methodLink RX3 30 m_X3_putByte.1 ∈ am_Gl := am_t4 204 rfl rfl
theorem l_L_234 : Cond.methodLink RL 234 m_L_draw.1 ∈ am_Gl := am_t4 205 rfl rfl
theorem kc_L_142 : Cond.constant RL 142 1103515245 ∈ am_Gl := am_t4 208 rfl rfl
theorem l_L_308 : Cond.methodLink RL 308 m_L_isSound.1 ∈ am_Gl := am_t4 209 rfl rfl
theorem l_L_179 : Cond.methodLink RL 179 m_X8_gateCount.1 ∈ am_Gl := am_t4 212 rfl rfl
theorem l_L_182 : Cond.methodLink RL 182 m_L_isTree.1 ∈ am_Gl := am_t4 216 rfl rfl
theorem l_L_151 : Cond.methodLink RL 151 m_L_nodeQuestion.1 ∈ am_Gl := am_t4 219 rfl rfl
theorem l_L_69 : Cond.methodLink RL 69 m_X8_nodeQuestion.1 ∈ am_Gl := am_t4 222 rfl rfl
theorem l_X8_254 : Cond.methodLink RX8 254 m_X8_requireNode.1 ∈ am_Gl := am_t4 226 rfl rfl
theorem l_L_153 : Cond.methodLink RL 153 m_L_typesAt.1 ∈ am_Gl := am_t4 230 rfl rfl
theorem l_L_81 : Cond.methodLink RL 81 m_X8_typesAt.1 ∈ am_Gl := am_t4 233 rfl rfl
theorem l_L_155 : Cond.methodLink RL 155 m_L_leafToll.1 ∈ am_Gl := am_t4 237 rfl rfl
theorem l_L_72 : Cond.methodLink RL 72 m_X8_leafToll.1 ∈ am_Gl := am_t5 0 rfl rfl
theorem l_L_157 : Cond.methodLink RL 157 m_L_yesChild.1 ∈ am_Gl := am_t5 4 rfl rfl
theorem l_L_75 : Cond.methodLink RL 75 m_X8_yesChild.1 ∈ am_Gl := am_t5 7 rfl rfl
theorem l_X8_262 : Cond.methodLink RX8 262 m_X7_firstChild.1 ∈ am_Gl := am_t5 11 rfl rfl
theorem l_L_159 : Cond.methodLink RL 159 m_L_noChild.1 ∈ am_Gl := am_t5 15 rfl rfl
theorem l_L_78 : Cond.methodLink RL 78 m_X8_noChild.1 ∈ am_Gl := am_t5 18 rfl rfl
theorem l_L_143 : Cond.methodLink RL 143 m_X8_typeCount.1 ∈ am_Gl := am_t5 22 rfl rfl
theorem l_L_161 : Cond.methodLink RL 161 m_L_questionCost.1 ∈ am_Gl := am_t5 26 rfl rfl
theorem l_L_43 : Cond.methodLink RL 43 m_X8_questionCost.1 ∈ am_Gl := am_t5 29 rfl rfl
theorem l_X8_190 : Cond.methodLink RX8 190 m_X8_requireQuestion.1 ∈ am_Gl := am_t5 33 rfl rfl
theorem l_L_163 : Cond.methodLink RL 163 m_L_hasTrait.1 ∈ am_Gl := am_t5 37 rfl rfl
theorem l_L_46 : Cond.methodLink RL 46 m_X8_hasTrait.1 ∈ am_Gl := am_t5 40 rfl rfl
theorem l_X8_118 : Cond.methodLink RX8 118 m_X8_requireType.1 ∈ am_Gl := am_t5 44 rfl rfl
theorem l_X8_199 : Cond.methodLink RX8 199 m_X8_holds.1 ∈ am_Gl := am_t5 48 rfl rfl
theorem l_L_165 : Cond.methodLink RL 165 m_L_leafOf.1 ∈ am_Gl := am_t5 49 rfl rfl
theorem l_L_84 : Cond.methodLink RL 84 m_X8_leafOf.1 ∈ am_Gl := am_t5 52 rfl rfl
theorem l_X8_271 : Cond.methodLink RX8 271 m_X7_leafHolding.1 ∈ am_Gl := am_t5 56 rfl rfl
theorem l_L_167 : Cond.methodLink RL 167 m_L_pathCost.1 ∈ am_Gl := am_t5 57 rfl rfl
theorem l_L_90 : Cond.methodLink RL 90 m_X8_pathCost.1 ∈ am_Gl := am_t5 60 rfl rfl
theorem l_X8_277 : Cond.methodLink RX8 277 m_X5_costOfPath.1 ∈ am_Gl := am_t5 64 rfl rfl
theorem l_L_169 : Cond.methodLink RL 169 m_L_chargedToll.1 ∈ am_Gl := am_t5 65 rfl rfl
theorem l_L_87 : Cond.methodLink RL 87 m_X8_chargedToll.1 ∈ am_Gl := am_t5 68 rfl rfl
theorem l_X8_274 : Cond.methodLink RX8 274 m_X7_tollFor.1 ∈ am_Gl := am_t5 72 rfl rfl
theorem l_L_171 : Cond.methodLink RL 171 m_L_toll.1 ∈ am_Gl := am_t5 73 rfl rfl
theorem l_L_50 : Cond.methodLink RL 50 m_X8_toll.1 ∈ am_Gl := am_t5 76 rfl rfl
theorem l_L_146 : Cond.methodLink RL 146 m_L_countAt.1 ∈ am_Gl := am_t5 80 rfl rfl
theorem l_L_53 : Cond.methodLink RL 53 m_X8_countAt.1 ∈ am_Gl := am_t5 83 rfl rfl
theorem l_L_173 : Cond.methodLink RL 173 m_L_mischargeReason.1 ∈ am_Gl := am_t5 87 rfl rfl
theorem l_L_99 : Cond.methodLink RL 99 m_X8_mischargeReason.1 ∈ am_Gl := am_t5 90 rfl rfl
theorem l_X8_287 : Cond.methodLink RX8 287 m_X5_hasTwinWithToll.1 ∈ am_Gl := am_t5 94 rfl rfl
theorem l_X5_128 : Cond.methodLink RX5 128 m_X5_isSplittable.1 ∈ am_Gl := am_t5 98 rfl rfl
theorem l_X8_290 : Cond.methodLink RX8 290 m_X5_isSplittable.1 ∈ am_Gl := am_t5 102 rfl rfl
theorem l_L_186 : Cond.methodLink RL 186 m_L_hoursUntilOpen.1 ∈ am_Gl := am_t5 103 rfl rfl
theorem l_L_63 : Cond.methodLink RL 63 m_X8_hoursUntilOpen.1 ∈ am_Gl := am_t5 106 rfl rfl
theorem l_X8_125 : Cond.methodLink RX8 125 m_X5_hourOfDay.1 ∈ am_Gl := am_t5 110 rfl rfl
theorem l_X8_206 : Cond.methodLink RX8 206 m_X0_waitFrom.1 ∈ am_Gl := am_t5 111 rfl rfl
theorem l_X0_46 : Cond.methodLink RX0 46 m_X0_opensAt.1 ∈ am_Gl := am_t5 115 rfl rfl
theorem l_L_188 : Cond.methodLink RL 188 m_L_isOpen.1 ∈ am_Gl := am_t5 116 rfl rfl
theorem l_L_59 : Cond.methodLink RL 59 m_X8_isOpen.1 ∈ am_Gl := am_t5 119 rfl rfl
theorem l_X8_128 : Cond.methodLink RX8 128 m_X0_opensAt.1 ∈ am_Gl := am_t5 123 rfl rfl
theorem l_L_190 : Cond.methodLink RL 190 m_L_sufficientLimit.1 ∈ am_Gl := am_t5 124 rfl rfl
theorem l_L_114 : Cond.methodLink RL 114 m_X8_sufficientLimit.1 ∈ am_Gl := am_t5 127 rfl rfl
theorem kc_X8_314 : Cond.constant RX8 314 2147483647 ∈ am_Gl := am_t5 131 rfl rfl
theorem l_L_196 : Cond.methodLink RL 196 m_X8_questionCount.1 ∈ am_Gl := am_t5 132 rfl rfl
theorem l_L_199 : Cond.methodLink RL 199 m_L_errorsWithout.1 ∈ am_Gl := am_t5 136 rfl rfl
theorem l_L_111 : Cond.methodLink RL 111 m_X8_errorsWithout.1 ∈ am_Gl := am_t5 139 rfl rfl
theorem l_L_203 : Cond.methodLink RL 203 m_L_bestRootQuestion.1 ∈ am_Gl := am_t5 143 rfl rfl
theorem l_L_108 : Cond.methodLink RL 108 m_X8_bestRootQuestion.1 ∈ am_Gl := am_t5 146 rfl rfl
theorem l_X8_304 : Cond.methodLink RX8 304 m_X8_rootOf.1 ∈ am_Gl := am_t5 150 rfl rfl
theorem l_L_205 : Cond.methodLink RL 205 m_X8_inconsistencies.1 ∈ am_Gl := am_t5 151 rfl rfl
theorem l_X8_320 : Cond.methodLink RX8 320 m_X5_workByTypes.1 ∈ am_Gl := am_t5 158 rfl rfl
theorem l_X8_323 : Cond.methodLink RX8 323 m_X7_emptyLeaves.1 ∈ am_Gl := am_t5 162 rfl rfl
theorem l_L_208 : Cond.methodLink RL 208 m_X8_tollsPaid.1 ∈ am_Gl := am_t5 166 rfl rfl
theorem l_L_211 : Cond.methodLink RL 211 m_X8_tollsDue.1 ∈ am_Gl := am_t5 170 rfl rfl
theorem l_L_214 : Cond.methodLink RL 214 m_X8_overcharge.1 ∈ am_Gl := am_t5 174 rfl rfl
theorem l_L_217 : Cond.methodLink RL 217 m_X8_undercharge.1 ∈ am_Gl := am_t5 178 rfl rfl
theorem l_L_220 : Cond.methodLink RL 220 m_X8_cartsOvercharged.1 ∈ am_Gl := am_t5 182 rfl rfl
theorem l_L_223 : Cond.methodLink RL 223 m_X8_cartsUndercharged.1 ∈ am_Gl := am_t5 186 rfl rfl
theorem l_L_226 : Cond.methodLink RL 226 m_X8_cartsPassed.1 ∈ am_Gl := am_t5 190 rfl rfl
theorem l_L_249 : Cond.methodLink RL 249 m_L_builds.1 ∈ am_Gl := am_t5 194 rfl rfl
theorem l_L_229 : Cond.methodLink RL 229 m_L_buildTree.1 ∈ am_Gl := am_t5 197 rfl rfl
theorem l_L_23 : Cond.methodLink RL 23 m_X8_buildTree.1 ∈ am_Gl := am_t5 200 rfl rfl
theorem l_X8_144 : Cond.methodLink RX8 144 m_X4_plant.1 ∈ am_Gl := am_t5 204 rfl rfl
theorem l_L_304 : Cond.methodLink RL 304 m_L_acts.1 ∈ am_Gl := am_t5 205 rfl rfl
theorem l_L_238 : Cond.methodLink RL 238 m_X8_costAsked.1 ∈ am_Gl := am_t5 208 rfl rfl
theorem l_L_241 : Cond.methodLink RL 241 m_L_passCarts.1 ∈ am_Gl := am_t5 212 rfl rfl
theorem l_L_15 : Cond.methodLink RL 15 m_X8_passCarts.1 ∈ am_Gl := am_t5 215 rfl rfl
theorem l_X8_140 : Cond.methodLink RX8 140 m_X5_letPass.1 ∈ am_Gl := am_t5 219 rfl rfl
theorem l_L_252 : Cond.methodLink RL 252 m_L_weight.1 ∈ am_Gl := am_t5 221 rfl rfl
theorem l_L_255 : Cond.methodLink RL 255 m_L_halveCounts.1 ∈ am_Gl := am_t5 224 rfl rfl
theorem l_L_26 : Cond.methodLink RL 26 m_X8_halveCounts.1 ∈ am_Gl := am_t5 227 rfl rfl
theorem l_X8_157 : Cond.methodLink RX8 157 m_X0_halve.1 ∈ am_Gl := am_t5 231 rfl rfl
theorem l_X8_163 : Cond.methodLink RX8 163 m_X0_weight.1 ∈ am_Gl := am_t5 232 rfl rfl
theorem l_L_257 : Cond.methodLink RL 257 m_L_setToll.1 ∈ am_Gl := am_t5 233 rfl rfl
theorem l_L_29 : Cond.methodLink RL 29 m_X8_setToll.1 ∈ am_Gl := am_t5 236 rfl rfl
theorem l_L_259 : Cond.methodLink RL 259 m_L_setCostLimit.1 ∈ am_Gl := am_t6 0 rfl rfl
theorem l_L_33 : Cond.methodLink RL 33 m_X8_setCostLimit.1 ∈ am_Gl := am_t6 3 rfl rfl
theorem l_L_261 : Cond.methodLink RL 261 m_X8_clock.1 ∈ am_Gl := am_t6 7 rfl rfl
theorem l_L_264 : Cond.methodLink RL 264 m_L_advanceClock.1 ∈ am_Gl := am_t6 11 rfl rfl
theorem l_L_36 : Cond.methodLink RL 36 m_X8_advanceClock.1 ∈ am_Gl := am_t6 14 rfl rfl
theorem l_X8_177 : Cond.methodLink RX8 177 m_X5_openGates.1 ∈ am_Gl := am_t6 18 rfl rfl
theorem l_X5_71 : Cond.methodLink RX5 71 m_X5_hourOfDay.1 ∈ am_Gl := am_t6 22 rfl rfl
theorem l_X5_75 : Cond.methodLink RX5 75 m_X0_opensAt.1 ∈ am_Gl := am_t6 23 rfl rfl
theorem l_L_266 : Cond.methodLink RL 266 m_L_quickestGate.1 ∈ am_Gl := am_t6 24 rfl rfl
theorem l_L_117 : Cond.methodLink RL 117 m_X8_quickestGate.1 ∈ am_Gl := am_t6 27 rfl rfl
theorem cl_L_269 : Cond.classLink RL 269 "java/lang/StringBuilder" ∈ am_Gl := am_t6 31 rfl rfl
theorem l_L_273 : Cond.methodLink RL 273 m_J4_init_a7421.1 ∈ am_Gl := am_t6 33 rfl rfl
theorem l_J4_7 : Cond.methodLink RJ4 7 m_J5_init_a7421.1 ∈ am_Gl := am_t6 36 rfl rfl
theorem l_J5_32 : Cond.methodLink RJ5 32 m_J0_length_8abf5.1 ∈ am_Gl := am_t6 40 rfl rfl
theorem kc_J5_38 : Cond.constant RJ5 38 2147483631 ∈ am_Gl := am_t6 41 rfl rfl
theorem kc_J5_39 : Cond.constant RJ5 39 2147483647 ∈ am_Gl := am_t6 42 rfl rfl
theorem l_J5_40 : Cond.methodLink RJ5 40 m_J0_coder_7d493.1 ∈ am_Gl := am_t6 43 rfl rfl
theorem kc_J2_20 : Cond.constant RJ2 20 1073741823 ∈ am_Gl := am_t6 50 rfl rfl
theorem l_J5_43 : Cond.methodLink RJ5 43 m_J5_append_cf1ce.1 ∈ am_Gl := am_t6 51 rfl rfl
theorem l_J4_23 : Cond.methodLink RJ4 23 m_J4_append_15ec4.1 ∈ am_Gl := am_t6 57 rfl rfl
theorem l_J4_29 : Cond.methodLink RJ4 29 m_J5_append_cf1ce.1 ∈ am_Gl := am_t6 61 rfl rfl
theorem l_J5_204 : Cond.methodLink RJ5 204 m_J5_appendNull_278bc.1 ∈ am_Gl := am_t6 64 rfl rfl
theorem l_J5_100 : Cond.methodLink RJ5 100 m_J5_ensureCapacityInternal_d00df.1 ∈ am_Gl := am_t6 68 rfl rfl
theorem l_J5_104 : Cond.methodLink RJ5 104 m_J5_newCapacity_0f7a4.1 ∈ am_Gl := am_t6 72 rfl rfl
theorem l_J5_114 : Cond.methodLink RJ5 114 m_J8_newLength_cabcc.1 ∈ am_Gl := am_t6 76 rfl rfl
theorem kc_J8_200 : Cond.constant RJ8 200 2147483639 ∈ am_Gl := am_t6 80 rfl rfl
theorem l_J8_201 : Cond.methodLink RJ8 201 m_J8_hugeLength_7cf53.1 ∈ am_Gl := am_t6 81 rfl rfl
theorem l_J5_108 : Cond.methodLink RJ5 108 m_J7_copyOf_9075b.1 ∈ am_Gl := am_t6 84 rfl rfl
theorem cl_J7_311 : Cond.classLink RJ7 311 "[B" ∈ am_Gl := am_t6 93 rfl rfl
theorem l_J5_83 : Cond.methodLink RJ5 83 m_J5_isLatin1_aae02.1 ∈ am_Gl := am_t6 96 rfl rfl
theorem l_J2_241 : Cond.methodLink RJ2 241 m_J0_checkBoundsBeginEnd_23922.1 ∈ am_Gl := am_t6 108 rfl rfl
theorem l_J0_1062 : Cond.methodLink RJ0 1062 m_J3_checkFromToIndex_8c36e.1 ∈ am_Gl := am_t6 111 rfl rfl
theorem l_J5_208 : Cond.methodLink RJ5 208 m_J5_putStringAt_47b60.1 ∈ am_Gl := am_t6 117 rfl rfl
theorem l_J5_397 : Cond.methodLink RJ5 397 m_J5_inflateIfNeededFor_a7421.1 ∈ am_Gl := am_t6 121 rfl rfl
theorem l_J5_195 : Cond.methodLink RJ5 195 m_J5_inflate_da8c8.1 ∈ am_Gl := am_t6 125 rfl rfl
theorem l_J5_125 : Cond.methodLink RJ5 125 m_J1_inflate_0e8fd.1 ∈ am_Gl := am_t6 129 rfl rfl
theorem l_J2_419 : Cond.methodLink RJ2 419 m_J0_checkBoundsOffCount_cabcc.1 ∈ am_Gl := am_t6 138 rfl rfl
theorem l_J0_1065 : Cond.methodLink RJ0 1065 m_J3_checkFromIndexSize_8c36e.1 ∈ am_Gl := am_t6 141 rfl rfl
theorem l_J5_399 : Cond.methodLink RJ5 399 m_J0_getBytes_840e7.1 ∈ am_Gl := am_t6 144 rfl rfl
theorem l_J0_106 : Cond.methodLink RJ0 106 m_J1_inflate_0e8fd.1 ∈ am_Gl := am_t6 149 rfl rfl
theorem f_J5_15 : am_lk RJ5 15 10 0 := ⟨_, rfl, by decide, am_t6 150 rfl rfl⟩
theorem p_J5_15 : am_lp RJ5 15 10 0 false (tyJ4 0) := ⟨_, rfl, by decide, am_t6 150 rfl rfl, rfl, tyJ4_ok 0 (by decide), fun _ => rfl⟩
theorem f_J5_22 : am_lk RJ5 22 10 1 := ⟨_, rfl, by decide, am_t6 151 rfl rfl⟩
theorem p_J5_22 : am_lp RJ5 22 10 1 false (tyJ4 1) := ⟨_, rfl, by decide, am_t6 151 rfl rfl, rfl, tyJ4_ok 1 (by decide), fun _ => rfl⟩
theorem f_J0_1048 : am_lk RJ0 1048 10 2 := ⟨_, rfl, by decide, am_t6 152 rfl rfl⟩
theorem pf_J0_1048 : am_lp RJ0 1048 10 2 false (tyJ4 2) := ⟨_, rfl, by decide, am_t6 152 rfl rfl, rfl, tyJ4_ok 2 (by decide), fun h => by cases h⟩
theorem f_J5_79 : am_lk RJ5 79 10 3 := ⟨_, rfl, by decide, am_t6 153 rfl rfl⟩
theorem p_J5_79 : am_lp RJ5 79 10 3 false (tyJ4 3) := ⟨_, rfl, by decide, am_t6 153 rfl rfl, rfl, tyJ4_ok 3 (by decide), fun _ => rfl⟩
theorem l_L_278 : Cond.methodLink RL 278 m_J4_append_15ec4.1 ∈ am_Gl := am_t6 162 rfl rfl
theorem l_L_281 : Cond.methodLink RL 281 m_J4_append_cf468.1 ∈ am_Gl := am_t6 163 rfl rfl
theorem l_J4_50 : Cond.methodLink RJ4 50 m_J5_append_3fe6f.1 ∈ am_Gl := am_t6 167 rfl rfl
theorem l_J5_191 : Cond.methodLink RJ5 191 m_J1_canEncode_fc78d.1 ∈ am_Gl := am_t6 170 rfl rfl
theorem l_L_284 : Cond.methodLink RL 284 m_J4_append_bf812.1 ∈ am_Gl := am_t6 176 rfl rfl
theorem l_J4_53 : Cond.methodLink RJ4 53 m_J5_append_c97b9.1 ∈ am_Gl := am_t6 180 rfl rfl
theorem l_J5_245 : Cond.methodLink RJ5 245 m_J6_stringSize_0f7a4.1 ∈ am_Gl := am_t6 183 rfl rfl
theorem l_J5_248 : Cond.methodLink RJ5 248 m_J6_getChars_ba4f3.1 ∈ am_Gl := am_t6 186 rfl rfl
theorem l_L_293 : Cond.methodLink RL 293 m_J4_toString_0e30d.1 ∈ am_Gl := am_t6 201 rfl rfl
theorem cl_J4_18 : Cond.classLink RJ4 18 "java/lang/String" ∈ am_Gl := am_t6 205 rfl rfl
theorem l_J4_137 : Cond.methodLink RJ4 137 m_J0_init_81219.1 ∈ am_Gl := am_t6 207 rfl rfl
theorem l_J0_489 : Cond.methodLink RJ0 489 m_J0_init_db425.1 ∈ am_Gl := am_t6 210 rfl rfl
theorem l_J0_552 : Cond.methodLink RJ0 552 m_J5_getValue_6d5f1.1 ∈ am_Gl := am_t6 214 rfl rfl
theorem l_J0_549 : Cond.methodLink RJ0 549 m_J5_length_8abf5.1 ∈ am_Gl := am_t6 219 rfl rfl
theorem l_J4_343 : Cond.methodLink RJ4 343 m_J5_length_8abf5.1 ∈ am_Gl := am_t6 225 rfl rfl
theorem l_J0_1047 : Cond.methodLink RJ0 1047 m_J5_isLatin1_aae02.1 ∈ am_Gl := am_t6 227 rfl rfl
theorem l_J0_54 : Cond.methodLink RJ0 54 m_J7_copyOfRange_39247.1 ∈ am_Gl := am_t6 228 rfl rfl
theorem l_J7_339 : Cond.methodLink RJ7 339 m_J7_copyOfRangeByte_39247.1 ∈ am_Gl := am_t6 231 rfl rfl
theorem l_J7_343 : Cond.methodLink RJ7 343 m_J7_checkLength_df160.1 ∈ am_Gl := am_t6 234 rfl rfl
theorem cl_J7_43 : Cond.classLink RJ7 43 "java/lang/IllegalArgumentException" ∈ am_Gl := am_t6 237 rfl rfl
theorem cl_J7_45 : Cond.classLink RJ7 45 "java/lang/StringBuilder" ∈ am_Gl := am_t6 238 rfl rfl
theorem l_J7_47 : Cond.methodLink RJ7 47 m_J4_init_da8c8.1 ∈ am_Gl := am_t6 239 rfl rfl
theorem l_J4_1 : Cond.methodLink RJ4 1 m_J5_init_d00df.1 ∈ am_Gl := am_t7 2 rfl rfl
theorem l_J7_54 : Cond.methodLink RJ7 54 m_J4_append_bf812.1 ∈ am_Gl := am_t7 5 rfl rfl
theorem l_J7_50 : Cond.methodLink RJ7 50 m_J4_append_15ec4.1 ∈ am_Gl := am_t7 7 rfl rfl
theorem l_J7_61 : Cond.methodLink RJ7 61 m_J4_toString_0e30d.1 ∈ am_Gl := am_t7 8 rfl rfl
theorem l_J2_126 : Cond.methodLink RJ2 126 m_J7_copyOfRange_39247.1 ∈ am_Gl := am_t7 27 rfl rfl
theorem f_J0_9 : am_lk RJ0 9 9 0 := ⟨_, rfl, by decide, am_t7 31 rfl rfl⟩
theorem p_J0_9 : am_lp RJ0 9 9 0 true (tyJ0 0) := ⟨_, rfl, by decide, am_t7 31 rfl rfl, rfl, tyJ0_ok 0 (by decide), fun _ => rfl⟩
theorem f_J0_15 : am_lk RJ0 15 9 1 := ⟨_, rfl, by decide, am_t7 32 rfl rfl⟩
theorem p_J0_15 : am_lp RJ0 15 9 1 true (tyJ0 1) := ⟨_, rfl, by decide, am_t7 32 rfl rfl, rfl, tyJ0_ok 1 (by decide), fun _ => rfl⟩
theorem ow_i : Cond.instanceMethod Lib.objectInit ∈ am_Gl := am_t1 34 rfl rfl
theorem ow_c : Cond.code Lib.objectInit ⟨#[0xb1]⟩ 1 none ∈ am_Gl := am_t1 35 rfl rfl
theorem sy_n : Cond.native arraycopyName ∈ am_Gl := am_t3 85 rfl rfl
theorem sy_s : Cond.static arraycopyName ∈ am_Gl := am_t3 84 rfl rfl
theorem sy_i : Cond.initialized "java/lang/System" ∈ am_Gl := am_t1 16 rfl rfl
theorem mf_X4_135 : am_mf RX4 135 Lib.Math.max.name Lib.Math.max.code 2 .int := ⟨am_t3 50 rfl rfl, am_t3 51 rfl rfl, am_t1 15 rfl rfl, am_t3 52 rfl rfl⟩
theorem mf_X4_141 : am_mf RX4 141 Lib.MathLoose.min_long.x Lib.MathLoose.min_long.code 4 .long := ⟨am_t3 57 rfl rfl, am_t3 58 rfl rfl, am_t1 15 rfl rfl, am_t3 59 rfl rfl⟩
theorem sk_X5_58 : am_sk RX5 58 := ⟨am_t3 83 rfl rfl, sy_n, sy_s, sy_i⟩
theorem sk_X0_36 : am_sk RX0 36 := ⟨am_t3 90 rfl rfl, sy_n, sy_s, sy_i⟩
theorem sk_X7_28 : am_sk RX7 28 := ⟨am_t3 95 rfl rfl, sy_n, sy_s, sy_i⟩
theorem mf_X0_54 : am_mf RX0 54 Lib.Math.min.name Lib.Math.min.code 2 .int := ⟨am_t3 187 rfl rfl, am_t3 188 rfl rfl, am_t1 15 rfl rfl, am_t3 189 rfl rfl⟩
theorem mf_X3_258 : am_mf RX3 258 Lib.Math.min.name Lib.Math.min.code 2 .int := ⟨am_t3 219 rfl rfl, am_t3 188 rfl rfl, am_t1 15 rfl rfl, am_t3 189 rfl rfl⟩
theorem mf_X8_315 : am_mf RX8 315 Lib.Math.abs.name Lib.Math.abs.code 1 .int := ⟨am_t5 155 rfl rfl, am_t5 156 rfl rfl, am_t1 15 rfl rfl, am_t5 157 rfl rfl⟩
theorem mf_L_244 : am_mf RL 244 Lib.Math.min.name Lib.Math.min.code 2 .int := ⟨am_t5 220 rfl rfl, am_t3 188 rfl rfl, am_t1 15 rfl rfl, am_t3 189 rfl rfl⟩
theorem mf_J8_194 : am_mf RJ8 194 Lib.Math.max.name Lib.Math.max.code 2 .int := ⟨am_t6 79 rfl rfl, am_t3 51 rfl rfl, am_t1 15 rfl rfl, am_t3 52 rfl rfl⟩
theorem mf_J7_304 : am_mf RJ7 304 Lib.Math.min.name Lib.Math.min.code 2 .int := ⟨am_t6 94 rfl rfl, am_t3 188 rfl rfl, am_t1 15 rfl rfl, am_t3 189 rfl rfl⟩
theorem sk_J7_150 : am_sk RJ7 150 := ⟨am_t6 95 rfl rfl, sy_n, sy_s, sy_i⟩
theorem sk_J0_212 : am_sk RJ0 212 := ⟨am_t6 148 rfl rfl, sy_n, sy_s, sy_i⟩
theorem mk_X8 : Cond.instantiable RX8 8 ∈ am_Gl := am_t1 29 rfl rfl
theorem mk_X4 : Cond.instantiable RX4 8 ∈ am_Gl := am_t1 37 rfl rfl
theorem mk_X5 : Cond.instantiable RX5 11 ∈ am_Gl := am_t1 70 rfl rfl
theorem mk_X6 : Cond.instantiable RX6 8 ∈ am_Gl := am_t1 78 rfl rfl
theorem mk_X0 : Cond.instantiable RX0 6 ∈ am_Gl := am_t1 116 rfl rfl
theorem mk_X7 : Cond.instantiable RX7 5 ∈ am_Gl := am_t1 122 rfl rfl
theorem mk_X3 : Cond.instantiable RX3 12 ∈ am_Gl := am_t2 8 rfl rfl
theorem mk_X1 : Cond.instantiable RX1 3 ∈ am_Gl := am_t2 53 rfl rfl
theorem mk_X2 : Cond.instantiable RX2 4 ∈ am_Gl := am_t2 73 rfl rfl
theorem mk_J4 : Cond.instantiable RJ4 4 ∈ am_Gl := am_t6 32 rfl rfl
theorem mk_J0 : Cond.instantiable RJ0 4 ∈ am_Gl := am_t6 206 rfl rfl
theorem ac_long : Cond.arrayClass .long ∈ am_Gl := am_t1 67 rfl rfl
theorem ac_int : Cond.arrayClass .int ∈ am_Gl := am_t1 68 rfl rfl
theorem ac_byte : Cond.arrayClass .byte ∈ am_Gl := am_t2 51 rfl rfl
theorem ac_boolean : Cond.arrayClass .boolean ∈ am_Gl := am_t2 89 rfl rfl
theorem tk_X8_134_136 : am_tk RX8 134 136 "java/lang/IllegalStateException" := ⟨⟨by decide +kernel, by decide +kernel⟩, cl_X8_134, am_t1 27 rfl rfl, by decide +kernel, by decide +kernel⟩
theorem tk_X8_335_337 : am_tk RX8 335 337 "java/lang/IndexOutOfBoundsException" := ⟨⟨by decide +kernel, by decide +kernel⟩, cl_X8_335, am_t1 26 rfl rfl, by decide +kernel, by decide +kernel⟩
theorem tk_X8_338_340 : am_tk RX8 338 340 "java/lang/IllegalArgumentException" := ⟨⟨by decide +kernel, by decide +kernel⟩, cl_X8_338, am_t1 25 rfl rfl, by decide +kernel, by decide +kernel⟩
theorem ca_IndexOutOfBoundsException : Cond.castable "java/lang/IndexOutOfBoundsException" "java/lang/IndexOutOfBoundsException" ∈ am_Nl := an_t4 7 rfl rfl
theorem ca_IllegalArgumentException : Cond.castable "java/lang/IllegalArgumentException" "java/lang/IllegalArgumentException" ∈ am_Nl := an_t4 74 rfl rfl
theorem ca_IllegalStateException : Cond.castable "java/lang/IllegalStateException" "java/lang/IllegalStateException" ∈ am_Nl := an_t4 120 rfl rfl
theorem tx_X8_57 : (RX8, 57, "tolls; ask wheels 1; ask load 2; ask beast 1; cart barrow 2; cart dray 5 wheels load; cart coach 7 wheels beast; cart wagon 9 wheels load beast; cart mule 3 beast; gate north 6 20 9 40 25 10 15 10; gate south 0 23 2 5 50 5 30 10;", 0) ∈ am_sr := List.mem_of_getElem? (i := 0) rfl
theorem tx_X3_98 : (RX3, 98, "tolls", 1) ∈ am_sr := List.mem_of_getElem? (i := 1) rfl
theorem tx_X3_115 : (RX3, 115, "ask", 2) ∈ am_sr := List.mem_of_getElem? (i := 2) rfl
theorem tx_X3_147 : (RX3, 147, "cart", 3) ∈ am_sr := List.mem_of_getElem? (i := 3) rfl
theorem tx_X3_169 : (RX3, 169, "gate", 4) ∈ am_sr := List.mem_of_getElem? (i := 4) rfl
theorem tx_X3_212 : (RX3, 212, "pass", 5) ∈ am_sr := List.mem_of_getElem? (i := 5) rfl
theorem tx_X3_217 : (RX3, 217, "build", 6) ∈ am_sr := List.mem_of_getElem? (i := 6) rfl
theorem tx_X3_222 : (RX3, 222, "halve", 7) ∈ am_sr := List.mem_of_getElem? (i := 7) rfl
theorem tx_X3_227 : (RX3, 227, "toll", 8) ∈ am_sr := List.mem_of_getElem? (i := 8) rfl
theorem tx_X3_232 : (RX3, 232, "limit", 9) ∈ am_sr := List.mem_of_getElem? (i := 9) rfl
theorem tx_X3_236 : (RX3, 236, "hours", 10) ∈ am_sr := List.mem_of_getElem? (i := 10) rfl
theorem tx_L_271 : (RL, 271, "tolls;", 11) ∈ am_sr := List.mem_of_getElem? (i := 11) rfl
theorem tx_L_276 : (RL, 276, "ask q", 12) ∈ am_sr := List.mem_of_getElem? (i := 12) rfl
theorem tx_L_287 : (RL, 287, "cart t", 13) ∈ am_sr := List.mem_of_getElem? (i := 13) rfl
theorem tx_L_289 : (RL, 289, " q", 14) ∈ am_sr := List.mem_of_getElem? (i := 14) rfl
theorem tx_L_291 : (RL, 291, "gate g", 15) ∈ am_sr := List.mem_of_getElem? (i := 15) rfl
