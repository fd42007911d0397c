/-! links: the words as members of wsL_law, by their places; bundles for calls -/
theorem m_r1 : ∀ w ∈ wsL_law0_r1, w ∈ wsL_law := fun _ h => List.mem_append_left _ (List.mem_append_left _ (List.mem_append_left _ (List.mem_append_left _ (List.mem_append_left _ (List.mem_append_left _ (List.mem_append_left _ (List.mem_append_left _ (List.mem_append_left _ h))))))))
theorem m_r2 : ∀ w ∈ wsL_law0_r2, w ∈ wsL_law := fun _ h => List.mem_append_left _ (List.mem_append_left _ (List.mem_append_left _ (List.mem_append_left _ (List.mem_append_left _ (List.mem_append_left _ (List.mem_append_left _ (List.mem_append_left _ (List.mem_append_right _ (List.mem_append_left _ h)))))))))
theorem m_r3 : ∀ w ∈ wsL_law0_r3, w ∈ wsL_law := fun _ h => List.mem_append_left _ (List.mem_append_left _ (List.mem_append_left _ (List.mem_append_left _ (List.mem_append_left _ (List.mem_append_left _ (List.mem_append_left _ (List.mem_append_left _ (List.mem_append_right _ (List.mem_append_right _ (List.mem_append_left _ h))))))))))
theorem m_r4 : ∀ w ∈ wsL_law0_r4, w ∈ wsL_law := fun _ h => List.mem_append_left _ (List.mem_append_left _ (List.mem_append_left _ (List.mem_append_left _ (List.mem_append_left _ (List.mem_append_left _ (List.mem_append_left _ (List.mem_append_left _ (List.mem_append_right _ (List.mem_append_right _ (List.mem_append_right _ (List.mem_append_left _ h)))))))))))
theorem m_r5 : ∀ w ∈ wsL_law0_r5, w ∈ wsL_law := fun _ h => List.mem_append_left _ (List.mem_append_left _ (List.mem_append_left _ (List.mem_append_left _ (List.mem_append_left _ (List.mem_append_left _ (List.mem_append_left _ (List.mem_append_left _ (List.mem_append_right _ (List.mem_append_right _ (List.mem_append_right _ (List.mem_append_right _ (List.mem_append_left _ h))))))))))))
theorem m_r6 : ∀ w ∈ wsL_law0_r6, w ∈ wsL_law := fun _ h => List.mem_append_left _ (List.mem_append_left _ (List.mem_append_left _ (List.mem_append_left _ (List.mem_append_left _ (List.mem_append_left _ (List.mem_append_left _ (List.mem_append_left _ (List.mem_append_right _ (List.mem_append_right _ (List.mem_append_right _ (List.mem_append_right _ (List.mem_append_right _ (List.mem_append_left _ h)))))))))))))
theorem m_r7 : ∀ w ∈ wsL_law0_r7, w ∈ wsL_law := fun _ h => List.mem_append_left _ (List.mem_append_left _ (List.mem_append_left _ (List.mem_append_left _ (List.mem_append_left _ (List.mem_append_left _ (List.mem_append_left _ (List.mem_append_left _ (List.mem_append_right _ (List.mem_append_right _ (List.mem_append_right _ (List.mem_append_right _ (List.mem_append_right _ (List.mem_append_right _ (List.mem_append_left _ h))))))))))))))
theorem m_r8 : ∀ w ∈ wsL_law0_r8, w ∈ wsL_law := fun _ h => List.mem_append_left _ (List.mem_append_left _ (List.mem_append_left _ (List.mem_append_left _ (List.mem_append_left _ (List.mem_append_left _ (List.mem_append_left _ (List.mem_append_left _ (List.mem_append_right _ (List.mem_append_right _ (List.mem_append_right _ (List.mem_append_right _ (List.mem_append_right _ (List.mem_append_right _ (List.mem_append_right _ (List.mem_append_left _ h)))))))))))))))
theorem m_r9 : ∀ w ∈ wsL_law0_r9, w ∈ wsL_law := fun _ h => List.mem_append_left _ (List.mem_append_left _ (List.mem_append_left _ (List.mem_append_left _ (List.mem_append_left _ (List.mem_append_left _ (List.mem_append_left _ (List.mem_append_left _ (List.mem_append_right _ (List.mem_append_right _ (List.mem_append_right _ (List.mem_append_right _ (List.mem_append_right _ (List.mem_append_right _ (List.mem_append_right _ (List.mem_append_right _ (List.mem_append_left _ h))))))))))))))))
theorem m_r10 : ∀ w ∈ wsL_law0_r10, w ∈ wsL_law := fun _ h => List.mem_append_left _ (List.mem_append_left _ (List.mem_append_left _ (List.mem_append_left _ (List.mem_append_left _ (List.mem_append_left _ (List.mem_append_left _ (List.mem_append_left _ (List.mem_append_right _ (List.mem_append_right _ (List.mem_append_right _ (List.mem_append_right _ (List.mem_append_right _ (List.mem_append_right _ (List.mem_append_right _ (List.mem_append_right _ (List.mem_append_right _ (List.mem_append_left _ h)))))))))))))))))
theorem m_r11 : ∀ w ∈ wsL_law0_r11, w ∈ wsL_law := fun _ h => List.mem_append_left _ (List.mem_append_left _ (List.mem_append_left _ (List.mem_append_left _ (List.mem_append_left _ (List.mem_append_left _ (List.mem_append_left _ (List.mem_append_left _ (List.mem_append_right _ (List.mem_append_right _ (List.mem_append_right _ (List.mem_append_right _ (List.mem_append_right _ (List.mem_append_right _ (List.mem_append_right _ (List.mem_append_right _ (List.mem_append_right _ (List.mem_append_right _ (List.mem_append_left _ h))))))))))))))))))
theorem m_r12 : ∀ w ∈ wsL_law0_r12, w ∈ wsL_law := fun _ h => List.mem_append_left _ (List.mem_append_left _ (List.mem_append_left _ (List.mem_append_left _ (List.mem_append_left _ (List.mem_append_left _ (List.mem_append_left _ (List.mem_append_left _ (List.mem_append_right _ (List.mem_append_right _ (List.mem_append_right _ (List.mem_append_right _ (List.mem_append_right _ (List.mem_append_right _ (List.mem_append_right _ (List.mem_append_right _ (List.mem_append_right _ (List.mem_append_right _ (List.mem_append_right _ (List.mem_append_left _ h)))))))))))))))))))
theorem m_r13 : ∀ w ∈ wsL_law0_r13, w ∈ wsL_law := fun _ h => List.mem_append_left _ (List.mem_append_left _ (List.mem_append_left _ (List.mem_append_left _ (List.mem_append_left _ (List.mem_append_left _ (List.mem_append_left _ (List.mem_append_left _ (List.mem_append_right _ (List.mem_append_right _ (List.mem_append_right _ (List.mem_append_right _ (List.mem_append_right _ (List.mem_append_right _ (List.mem_append_right _ (List.mem_append_right _ (List.mem_append_right _ (List.mem_append_right _ (List.mem_append_right _ (List.mem_append_right _ (List.mem_append_left _ h))))))))))))))))))))
theorem m_r14 : ∀ w ∈ wsL_law0_r14, w ∈ wsL_law := fun _ h => List.mem_append_left _ (List.mem_append_left _ (List.mem_append_left _ (List.mem_append_left _ (List.mem_append_left _ (List.mem_append_left _ (List.mem_append_left _ (List.mem_append_left _ (List.mem_append_right _ (List.mem_append_right _ (List.mem_append_right _ (List.mem_append_right _ (List.mem_append_right _ (List.mem_append_right _ (List.mem_append_right _ (List.mem_append_right _ (List.mem_append_right _ (List.mem_append_right _ (List.mem_append_right _ (List.mem_append_right _ (List.mem_append_right _ (List.mem_append_left _ h)))))))))))))))))))))
theorem m_r15 : ∀ w ∈ wsL_law0_r15, w ∈ wsL_law := fun _ h => List.mem_append_left _ (List.mem_append_left _ (List.mem_append_left _ (List.mem_append_left _ (List.mem_append_left _ (List.mem_append_left _ (List.mem_append_left _ (List.mem_append_left _ (List.mem_append_right _ (List.mem_append_right _ (List.mem_append_right _ (List.mem_append_right _ (List.mem_append_right _ (List.mem_append_right _ (List.mem_append_right _ (List.mem_append_right _ (List.mem_append_right _ (List.mem_append_right _ (List.mem_append_right _ (List.mem_append_right _ (List.mem_append_right _ (List.mem_append_right _ (List.mem_append_left _ h))))))))))))))))))))))
theorem m_r16 : ∀ w ∈ wsL_law0_r16, w ∈ wsL_law := fun _ h => List.mem_append_left _ (List.mem_append_left _ (List.mem_append_left _ (List.mem_append_left _ (List.mem_append_left _ (List.mem_append_left _ (List.mem_append_left _ (List.mem_append_left _ (List.mem_append_right _ (List.mem_append_right _ (List.mem_append_right _ (List.mem_append_right _ (List.mem_append_right _ (List.mem_append_right _ (List.mem_append_right _ (List.mem_append_right _ (List.mem_append_right _ (List.mem_append_right _ (List.mem_append_right _ (List.mem_append_right _ (List.mem_append_right _ (List.mem_append_right _ (List.mem_append_right _ (h)))))))))))))))))))))))
theorem wl_good : wsL_law.all goodWord = true := by decide +kernel
theorem wl_pay {args : Array Value} {s : State} (hts : ∀ w ∈ wsL_law, w.before args s = true) : ∀ w ∈ wsL_law, ∀ (a' : Array Value) (U : State), s.WarmedH U.vm → w.before a' U = true := fun w h _ _ hW => word_at hW (good_of_word (List.all_eq_true.mp wl_good w h)) (hts w h)
abbrev wy_ (y : MethodName) (bytes : ByteArray) (maxL : Nat) (ret : Option FieldType) : List Cond := .code y bytes maxL ret :: wsL_law
abbrev wyW_ (y : MethodName) (bytes : ByteArray) (maxL : Nat) (ret : Option FieldType) (hh : List (Nat × Nat × Nat × Nat)) : List Cond := .codeWith y bytes maxL ret hh :: wsL_law
def KY (y : MethodName) (n : Nat) : Prop := y.cls ≠ "java/lang/invoke/MethodHandle" ∧ y.cls ≠ "java/lang/invoke/VarHandle" ∧ (parseMethodDescriptor y.desc).map (fun d => d.parameters.length) = some n
def KV (own : String) (index : Nat) (C : String) (y : MethodName) (bytes : ByteArray) (maxL : Nat) (ret : Option FieldType) (n : Nat) : Prop := (Cond.methodLink own index y ∈ wsL_law ∧ Cond.instanceMethod y ∈ wsL_law ∧ Cond.selects C y y ∈ wsL_law ∧ Cond.initialized y.cls ∈ wsL_law ∧ Cond.code y bytes maxL ret ∈ wsL_law) ∧ KY y n
def KS (own : String) (index : Nat) (y : MethodName) (bytes : ByteArray) (maxL : Nat) (ret : Option FieldType) (n : Nat) : Prop := (Cond.methodLink own index y ∈ wsL_law ∧ Cond.static y ∈ wsL_law ∧ Cond.initialized y.cls ∈ wsL_law ∧ Cond.code y bytes maxL ret ∈ wsL_law) ∧ KY y n
def KI (own : String) (index : Nat) (y : MethodName) (bytes : ByteArray) (maxL : Nat) (n : Nat) : Prop := (Cond.methodLink own index y ∈ wsL_law ∧ Cond.instanceMethod y ∈ wsL_law ∧ Cond.initialized y.cls ∈ wsL_law ∧ Cond.code y bytes maxL none ∈ wsL_law) ∧ KY y n ∧ y.name = "<init>"
def KSW (own : String) (index : Nat) (y : MethodName) (bytes : ByteArray) (maxL : Nat) (ret : Option FieldType) (hh : List (Nat × Nat × Nat × Nat)) (n : Nat) : Prop := (Cond.methodLink own index y ∈ wsL_law ∧ Cond.static y ∈ wsL_law ∧ Cond.initialized y.cls ∈ wsL_law ∧ Cond.codeWith y bytes maxL ret hh ∈ wsL_law) ∧ KY y n
theorem k_cB {R : Room} {s : State} {args : Array Value} {own : String} {index maxL n mc ms : Nat} {y : MethodName} {bytes : ByteArray} {ret : Option FieldType} {rm : Room} (hts : ∀ w ∈ wsL_law, w.before args s = true) (h1 : Cond.methodLink own index y ∈ wsL_law) (h2 : Cond.initialized y.cls ∈ wsL_law) (h3 : Cond.code y bytes maxL ret ∈ wsL_law) (hy : KY y n) (hrc : rm.cells = mc) (hrs : rm.slots = ms) (hR : rm.frames + 1 ≤ R.frames ∧ 8 + (maxL + 11) + rm.locals ≤ R.locals) :
    CallB R s args own index y bytes maxL ret (wy_ y bytes maxL ret) rm mc ms n := by
  refine ⟨hrc, hrs, hR.1, hR.2, fun w hw a' U hW => ?_, List.mem_cons_self, hts _ h3, hts _ h2, ⟨hy.1, hy.2.1⟩, fun sig h => ?_, hts _ h1⟩
  · rcases List.mem_cons.mp hw with rfl | hw
    · exact wl_pay hts _ h3 a' U hW
    · exact wl_pay hts _ hw a' U hW
  · have h2 := hy.2.2
    rw [h] at h2
    exact (Option.some.inj h2).symm
theorem k_cV {R : Room} {s : State} {args : Array Value} {own C : String} {index maxL n mc ms : Nat} {y : MethodName} {bytes : ByteArray} {ret : Option FieldType} {rm : Room} (hts : ∀ w ∈ wsL_law, w.before args s = true) (h : KV own index C y bytes maxL ret n) (hrc : rm.cells = mc) (hrs : rm.slots = ms) (hR : rm.frames + 1 ≤ R.frames ∧ 8 + (maxL + 11) + rm.locals ≤ R.locals) :
    CallW R s args own C index y bytes maxL ret (wy_ y bytes maxL ret) rm mc ms n := ⟨k_cB hts h.1.1 h.1.2.2.2.1 h.1.2.2.2.2 h.2 hrc hrs hR, hts _ h.1.2.1, hts _ h.1.2.2.1⟩
theorem k_cS {R : Room} {s : State} {args : Array Value} {own : String} {index maxL n mc ms : Nat} {y : MethodName} {bytes : ByteArray} {ret : Option FieldType} {rm : Room} (hts : ∀ w ∈ wsL_law, w.before args s = true) (h : KS own index y bytes maxL ret n) (hrc : rm.cells = mc) (hrs : rm.slots = ms) (hR : rm.frames + 1 ≤ R.frames ∧ 8 + (maxL + 11) + rm.locals ≤ R.locals) :
    CallB R s args own index y bytes maxL ret (wy_ y bytes maxL ret) rm mc ms n ∧ (Cond.static y).before args s = true := ⟨k_cB hts h.1.1 h.1.2.2.1 h.1.2.2.2 h.2 hrc hrs hR, hts _ h.1.2.1⟩
theorem k_cI {R : Room} {s : State} {args : Array Value} {own : String} {index maxL n mc ms : Nat} {y : MethodName} {bytes : ByteArray} {rm : Room} (hts : ∀ w ∈ wsL_law, w.before args s = true) (h : KI own index y bytes maxL n) (hrc : rm.cells = mc) (hrs : rm.slots = ms) (hR : rm.frames + 1 ≤ R.frames ∧ 8 + (maxL + 11) + rm.locals ≤ R.locals) :
    CallB R s args own index y bytes maxL none (wy_ y bytes maxL none) rm mc ms n ∧ y.name = "<init>" ∧ (Cond.instanceMethod y).before args s = true := ⟨k_cB hts h.1.1 h.1.2.2.1 h.1.2.2.2 h.2.1 hrc hrs hR, h.2.2, hts _ h.1.2.1⟩
theorem k_cSW {R : Room} {s : State} {args : Array Value} {own : String} {index maxL n mc ms : Nat} {y : MethodName} {bytes : ByteArray} {ret : Option FieldType} {hh : List (Nat × Nat × Nat × Nat)} {rm : Room} (hts : ∀ w ∈ wsL_law, w.before args s = true) (h : KSW own index y bytes maxL ret hh n) (hrc : rm.cells = mc) (hrs : rm.slots = ms) (hR : rm.frames + 1 ≤ R.frames ∧ 8 + (maxL + 11) + rm.locals ≤ R.locals) :
    vx_CSW R s args own index y bytes maxL ret hh (wyW_ y bytes maxL ret hh) rm mc ms n := by
  refine ⟨⟨hrc, hrs, hR.1, hR.2, fun w hw a' U hW => ?_, List.mem_cons_self⟩, hts _ h.1.2.2.2, hts _ h.1.2.2.1, ⟨h.2.1, h.2.2.1⟩, fun sig hh => ?_, hts _ h.1.1, hts _ h.1.2.1⟩
  · rcases List.mem_cons.mp hw with rfl | hw
    · exact wl_pay hts _ h.1.2.2.2 a' U hW
    · exact wl_pay hts _ hw a' U hW
  · have h2 := h.2.2.2
    rw [hh] at h2
    exact (Option.some.inj h2).symm
theorem ky_L_act : KY yL_act 3 := ⟨by decide +kernel, by decide +kernel, by decide +kernel⟩
theorem ky_L_buy : KY yL_buy 4 := ⟨by decide +kernel, by decide +kernel, by decide +kernel⟩
theorem ky_L_cell : KY yL_cell 2 := ⟨by decide +kernel, by decide +kernel, by decide +kernel⟩
theorem ky_L_lend : KY yL_lend 3 := ⟨by decide +kernel, by decide +kernel, by decide +kernel⟩
theorem ky_L_low : KY yL_low 2 := ⟨by decide +kernel, by decide +kernel, by decide +kernel⟩
theorem ky_L_put : KY yL_put 3 := ⟨by decide +kernel, by decide +kernel, by decide +kernel⟩
theorem ky_L_renew : KY yL_renew 2 := ⟨by decide +kernel, by decide +kernel, by decide +kernel⟩
theorem ky_L_station : KY yL_station 1 := ⟨by decide +kernel, by decide +kernel, by decide +kernel⟩
theorem ky_L_test : KY yL_test 3 := ⟨by decide +kernel, by decide +kernel, by decide +kernel⟩
theorem ky_L_undo : KY yL_undo 1 := ⟨by decide +kernel, by decide +kernel, by decide +kernel⟩
theorem ky_X0_init : KY yX0_init 0 := ⟨by decide +kernel, by decide +kernel, by decide +kernel⟩
theorem ky_X1_costOf : KY yX1_costOf 2 := ⟨by decide +kernel, by decide +kernel, by decide +kernel⟩
theorem ky_X1_daysInForce : KY yX1_daysInForce 1 := ⟨by decide +kernel, by decide +kernel, by decide +kernel⟩
theorem ky_X1_lifeOf : KY yX1_lifeOf 1 := ⟨by decide +kernel, by decide +kernel, by decide +kernel⟩
theorem ky_X1_strengthOf : KY yX1_strengthOf 3 := ⟨by decide +kernel, by decide +kernel, by decide +kernel⟩
theorem ky_X2_begin : KY yX2_begin 0 := ⟨by decide +kernel, by decide +kernel, by decide +kernel⟩
theorem ky_X2_init : KY yX2_init 0 := ⟨by decide +kernel, by decide +kernel, by decide +kernel⟩
theorem ky_X2_join : KY yX2_join 4 := ⟨by decide +kernel, by decide +kernel, by decide +kernel⟩
theorem ky_X3_addHose : KY yX3_addHose 4 := ⟨by decide +kernel, by decide +kernel, by decide +kernel⟩
theorem ky_X3_canBuy : KY yX3_canBuy 2 := ⟨by decide +kernel, by decide +kernel, by decide +kernel⟩
theorem ky_X3_cheapestHelp : KY yX3_cheapestHelp 1 := ⟨by decide +kernel, by decide +kernel, by decide +kernel⟩
theorem ky_X3_copyFrom : KY yX3_copyFrom 1 := ⟨by decide +kernel, by decide +kernel, by decide +kernel⟩
theorem ky_X3_daysToFirstLapse : KY yX3_daysToFirstLapse 0 := ⟨by decide +kernel, by decide +kernel, by decide +kernel⟩
theorem ky_X3_greatestSafePressure : KY yX3_greatestSafePressure 1 := ⟨by decide +kernel, by decide +kernel, by decide +kernel⟩
theorem ky_X3_hosesAt : KY yX3_hosesAt 1 := ⟨by decide +kernel, by decide +kernel, by decide +kernel⟩
theorem ky_X3_init : KY yX3_init 0 := ⟨by decide +kernel, by decide +kernel, by decide +kernel⟩
theorem ky_X3_isGone : KY yX3_isGone 1 := ⟨by decide +kernel, by decide +kernel, by decide +kernel⟩
theorem ky_X3_isLent : KY yX3_isLent 1 := ⟨by decide +kernel, by decide +kernel, by decide +kernel⟩
theorem ky_X3_isOnTruck : KY yX3_isOnTruck 1 := ⟨by decide +kernel, by decide +kernel, by decide +kernel⟩
theorem ky_X3_isReady : KY yX3_isReady 1 := ⟨by decide +kernel, by decide +kernel, by decide +kernel⟩
theorem ky_X3_layLine : KY yX3_layLine 2 := ⟨by decide +kernel, by decide +kernel, by decide +kernel⟩
theorem ky_X3_lendOut : KY yX3_lendOut 2 := ⟨by decide +kernel, by decide +kernel, by decide +kernel⟩
theorem ky_X3_outcomeOf : KY yX3_outcomeOf 2 := ⟨by decide +kernel, by decide +kernel, by decide +kernel⟩
theorem ky_X3_passDay : KY yX3_passDay 0 := ⟨by decide +kernel, by decide +kernel, by decide +kernel⟩
theorem ky_X3_priceOf : KY yX3_priceOf 1 := ⟨by decide +kernel, by decide +kernel, by decide +kernel⟩
theorem ky_X3_readyHoses : KY yX3_readyHoses 0 := ⟨by decide +kernel, by decide +kernel, by decide +kernel⟩
theorem ky_X3_readyHosesAt : KY yX3_readyHosesAt 1 := ⟨by decide +kernel, by decide +kernel, by decide +kernel⟩
theorem ky_X3_reasonOf : KY yX3_reasonOf 1 := ⟨by decide +kernel, by decide +kernel, by decide +kernel⟩
theorem ky_X3_replaceHose : KY yX3_replaceHose 1 := ⟨by decide +kernel, by decide +kernel, by decide +kernel⟩
theorem ky_X3_runTest : KY yX3_runTest 2 := ⟨by decide +kernel, by decide +kernel, by decide +kernel⟩
theorem ky_X3_stepsHeld : KY yX3_stepsHeld 2 := ⟨by decide +kernel, by decide +kernel, by decide +kernel⟩
theorem ky_X3_stepsUpTo : KY yX3_stepsUpTo 1 := ⟨by decide +kernel, by decide +kernel, by decide +kernel⟩
theorem ky_X3_strengthAt : KY yX3_strengthAt 2 := ⟨by decide +kernel, by decide +kernel, by decide +kernel⟩
theorem ky_X3_takeBackLent : KY yX3_takeBackLent 0 := ⟨by decide +kernel, by decide +kernel, by decide +kernel⟩
theorem ky_X3_wearOnTrucks : KY yX3_wearOnTrucks 0 := ⟨by decide +kernel, by decide +kernel, by decide +kernel⟩
theorem ky_X3_wholeTrucks : KY yX3_wholeTrucks 0 := ⟨by decide +kernel, by decide +kernel, by decide +kernel⟩
theorem ky_X4_buy : KY yX4_buy 3 := ⟨by decide +kernel, by decide +kernel, by decide +kernel⟩
theorem ky_X4_count : KY yX4_count 1 := ⟨by decide +kernel, by decide +kernel, by decide +kernel⟩
theorem ky_X4_greatestOfSetting : KY yX4_greatestOfSetting 1 := ⟨by decide +kernel, by decide +kernel, by decide +kernel⟩
theorem ky_X4_helps : KY yX4_helps 1 := ⟨by decide +kernel, by decide +kernel, by decide +kernel⟩
theorem ky_X4_hose : KY yX4_hose 2 := ⟨by decide +kernel, by decide +kernel, by decide +kernel⟩
theorem ky_X4_ifTested : KY yX4_ifTested 2 := ⟨by decide +kernel, by decide +kernel, by decide +kernel⟩
theorem ky_X4_init : KY yX4_init 0 := ⟨by decide +kernel, by decide +kernel, by decide +kernel⟩
theorem ky_X4_isWithin : KY yX4_isWithin 3 := ⟨by decide +kernel, by decide +kernel, by decide +kernel⟩
theorem ky_X4_leastOfSetting : KY yX4_leastOfSetting 1 := ⟨by decide +kernel, by decide +kernel, by decide +kernel⟩
theorem ky_X4_lend : KY yX4_lend 2 := ⟨by decide +kernel, by decide +kernel, by decide +kernel⟩
theorem ky_X4_nextLapse : KY yX4_nextLapse 0 := ⟨by decide +kernel, by decide +kernel, by decide +kernel⟩
theorem ky_X4_pass : KY yX4_pass 1 := ⟨by decide +kernel, by decide +kernel, by decide +kernel⟩
theorem ky_X4_put : KY yX4_put 2 := ⟨by decide +kernel, by decide +kernel, by decide +kernel⟩
theorem ky_X4_readyShare : KY yX4_readyShare 0 := ⟨by decide +kernel, by decide +kernel, by decide +kernel⟩
theorem ky_X4_renew : KY yX4_renew 1 := ⟨by decide +kernel, by decide +kernel, by decide +kernel⟩
theorem ky_X4_requireAtHand : KY yX4_requireAtHand 1 := ⟨by decide +kernel, by decide +kernel, by decide +kernel⟩
theorem ky_X4_requireHose : KY yX4_requireHose 1 := ⟨by decide +kernel, by decide +kernel, by decide +kernel⟩
theorem ky_X4_requirePressure : KY yX4_requirePressure 1 := ⟨by decide +kernel, by decide +kernel, by decide +kernel⟩
theorem ky_X4_requireSetting : KY yX4_requireSetting 1 := ⟨by decide +kernel, by decide +kernel, by decide +kernel⟩
theorem ky_X4_requireTruck : KY yX4_requireTruck 1 := ⟨by decide +kernel, by decide +kernel, by decide +kernel⟩
theorem ky_X4_safe : KY yX4_safe 1 := ⟨by decide +kernel, by decide +kernel, by decide +kernel⟩
theorem ky_X4_saveState : KY yX4_saveState 0 := ⟨by decide +kernel, by decide +kernel, by decide +kernel⟩
theorem ky_X4_set : KY yX4_set 2 := ⟨by decide +kernel, by decide +kernel, by decide +kernel⟩
theorem ky_X4_setting : KY yX4_setting 1 := ⟨by decide +kernel, by decide +kernel, by decide +kernel⟩
theorem ky_X4_test : KY yX4_test 2 := ⟨by decide +kernel, by decide +kernel, by decide +kernel⟩
theorem ky_X4_truck : KY yX4_truck 2 := ⟨by decide +kernel, by decide +kernel, by decide +kernel⟩
theorem ky_X4_undo : KY yX4_undo 0 := ⟨by decide +kernel, by decide +kernel, by decide +kernel⟩
theorem ky_X4_want : KY yX4_want 2 := ⟨by decide +kernel, by decide +kernel, by decide +kernel⟩
theorem flX4_10 : Cond.fieldLink RX4 10 "HoseTests" "now" "LHoseTests$Station;" ∈ wsL_law := (m_r1 _ (List.mem_of_getElem? (i := 12) rfl))
theorem flX4_16 : Cond.fieldLink RX4 16 "HoseTests" "saved" "[LHoseTests$Station;" ∈ wsL_law := (m_r1 _ (List.mem_of_getElem? (i := 13) rfl))
theorem flX4_20 : Cond.fieldLink RX4 20 "HoseTests" "latestSaved" "I" ∈ wsL_law := (m_r1 _ (List.mem_of_getElem? (i := 14) rfl))
theorem flX4_24 : Cond.fieldLink RX4 24 "HoseTests" "savedStates" "I" ∈ wsL_law := (m_r1 _ (List.mem_of_getElem? (i := 15) rfl))
theorem flX4_30 : Cond.fieldLink RX4 30 "HoseTests" "text" "LHoseTests$HoseText;" ∈ wsL_law := (m_r1 _ (List.mem_of_getElem? (i := 19) rfl))
theorem flX3_9 : Cond.fieldLink RX3 9 "HoseTests$Station" "day" "I" ∈ wsL_law := (m_r2 _ (List.mem_of_getElem? (i := 0) rfl))
theorem flX3_15 : Cond.fieldLink RX3 15 "HoseTests$Station" "money" "I" ∈ wsL_law := (m_r2 _ (List.mem_of_getElem? (i := 1) rfl))
theorem flX3_18 : Cond.fieldLink RX3 18 "HoseTests$Station" "wanted" "[I" ∈ wsL_law := (m_r2 _ (List.mem_of_getElem? (i := 3) rfl))
theorem flX3_22 : Cond.fieldLink RX3 22 "HoseTests$Station" "settings" "[I" ∈ wsL_law := (m_r2 _ (List.mem_of_getElem? (i := 4) rfl))
theorem flX3_25 : Cond.fieldLink RX3 25 "HoseTests$Station" "kind" "[I" ∈ wsL_law := (m_r2 _ (List.mem_of_getElem? (i := 5) rfl))
theorem flX3_28 : Cond.fieldLink RX3 28 "HoseTests$Station" "length" "[I" ∈ wsL_law := (m_r2 _ (List.mem_of_getElem? (i := 6) rfl))
theorem flX3_31 : Cond.fieldLink RX3 31 "HoseTests$Station" "coupling" "[I" ∈ wsL_law := (m_r2 _ (List.mem_of_getElem? (i := 7) rfl))
theorem flX3_34 : Cond.fieldLink RX3 34 "HoseTests$Station" "made" "[I" ∈ wsL_law := (m_r2 _ (List.mem_of_getElem? (i := 8) rfl))
theorem flX3_37 : Cond.fieldLink RX3 37 "HoseTests$Station" "wear" "[I" ∈ wsL_law := (m_r2 _ (List.mem_of_getElem? (i := 9) rfl))
theorem flX3_40 : Cond.fieldLink RX3 40 "HoseTests$Station" "lastTestDay" "[I" ∈ wsL_law := (m_r2 _ (List.mem_of_getElem? (i := 10) rfl))
theorem flX3_43 : Cond.fieldLink RX3 43 "HoseTests$Station" "place" "[I" ∈ wsL_law := (m_r2 _ (List.mem_of_getElem? (i := 11) rfl))
theorem flX3_46 : Cond.fieldLink RX3 46 "HoseTests$Station" "backDay" "[I" ∈ wsL_law := (m_r2 _ (List.mem_of_getElem? (i := 12) rfl))
theorem flX3_52 : Cond.fieldLink RX3 52 "HoseTests$Station" "line" "LHoseTests$Line;" ∈ wsL_law := (m_r2 _ (List.mem_of_getElem? (i := 16) rfl))
theorem flX0_11 : Cond.fieldLink RX0 11 "HoseTests$HoseText" "codes" "[I" ∈ wsL_law := (m_r3 _ (List.mem_of_getElem? (i := 0) rfl))
theorem flX0_15 : Cond.fieldLink RX0 15 "HoseTests$HoseText" "size" "I" ∈ wsL_law := (m_r3 _ (List.mem_of_getElem? (i := 1) rfl))
theorem flX4_127 : Cond.fieldLink RX4 127 "HoseTests$Station" "day" "I" ∈ wsL_law := (m_r3 _ (List.mem_of_getElem? (i := 8) rfl))
theorem flX4_213 : Cond.fieldLink RX4 213 "HoseTests$Station" "money" "I" ∈ wsL_law := (m_r3 _ (List.mem_of_getElem? (i := 9) rfl))
theorem flX4_216 : Cond.fieldLink RX4 216 "HoseTests$Station" "hoses" "I" ∈ wsL_law := (m_r3 _ (List.mem_of_getElem? (i := 10) rfl))
theorem flX4_225 : Cond.fieldLink RX4 225 "HoseTests$Station" "tests" "I" ∈ wsL_law := (m_r3 _ (List.mem_of_getElem? (i := 11) rfl))
theorem flX4_228 : Cond.fieldLink RX4 228 "HoseTests$Station" "bursts" "I" ∈ wsL_law := (m_r3 _ (List.mem_of_getElem? (i := 12) rfl))
theorem flX4_231 : Cond.fieldLink RX4 231 "HoseTests$Station" "paid" "I" ∈ wsL_law := (m_r3 _ (List.mem_of_getElem? (i := 13) rfl))
theorem flX3_56 : Cond.fieldLink RX3 56 "HoseTests$Station" "hoses" "I" ∈ wsL_law := (m_r3 _ (List.mem_of_getElem? (i := 21) rfl))
theorem flX3_148 : Cond.fieldLink RX3 148 "HoseTests$Line" "metres" "I" ∈ wsL_law := (m_r5 _ (List.mem_of_getElem? (i := 6) rfl))
theorem flX2_9 : Cond.fieldLink RX2 9 "HoseTests$Line" "metres" "I" ∈ wsL_law := (m_r5 _ (List.mem_of_getElem? (i := 11) rfl))
theorem flX2_15 : Cond.fieldLink RX2 15 "HoseTests$Line" "adaptersUsed" "I" ∈ wsL_law := (m_r5 _ (List.mem_of_getElem? (i := 12) rfl))
theorem flX2_18 : Cond.fieldLink RX2 18 "HoseTests$Line" "mask" "I" ∈ wsL_law := (m_r5 _ (List.mem_of_getElem? (i := 13) rfl))
theorem flX2_21 : Cond.fieldLink RX2 21 "HoseTests$Line" "lastCoupling" "I" ∈ wsL_law := (m_r5 _ (List.mem_of_getElem? (i := 14) rfl))
theorem flX4_68 : Cond.fieldLink RX4 68 "HoseTests$Station" "kind" "[I" ∈ wsL_law := (m_r7 _ (List.mem_of_getElem? (i := 23) rfl))
theorem flX4_72 : Cond.fieldLink RX4 72 "HoseTests$Station" "length" "[I" ∈ wsL_law := (m_r8 _ (List.mem_of_getElem? (i := 0) rfl))
theorem flX4_164 : Cond.fieldLink RX4 164 "HoseTests$Station" "coupling" "[I" ∈ wsL_law := (m_r8 _ (List.mem_of_getElem? (i := 1) rfl))
theorem flX4_167 : Cond.fieldLink RX4 167 "HoseTests$Station" "made" "[I" ∈ wsL_law := (m_r8 _ (List.mem_of_getElem? (i := 2) rfl))
theorem flX4_170 : Cond.fieldLink RX4 170 "HoseTests$Station" "wear" "[I" ∈ wsL_law := (m_r8 _ (List.mem_of_getElem? (i := 3) rfl))
theorem flX4_176 : Cond.fieldLink RX4 176 "HoseTests$Station" "lastTestDay" "[I" ∈ wsL_law := (m_r8 _ (List.mem_of_getElem? (i := 4) rfl))
theorem flX4_81 : Cond.fieldLink RX4 81 "HoseTests$Station" "place" "[I" ∈ wsL_law := (m_r8 _ (List.mem_of_getElem? (i := 5) rfl))
theorem flX4_179 : Cond.fieldLink RX4 179 "HoseTests$Station" "backDay" "[I" ∈ wsL_law := (m_r8 _ (List.mem_of_getElem? (i := 6) rfl))
theorem flX3_59 : Cond.fieldLink RX3 59 "HoseTests$Station" "tests" "I" ∈ wsL_law := (m_r9 _ (List.mem_of_getElem? (i := 13) rfl))
theorem flX3_62 : Cond.fieldLink RX3 62 "HoseTests$Station" "bursts" "I" ∈ wsL_law := (m_r9 _ (List.mem_of_getElem? (i := 14) rfl))
theorem flX3_65 : Cond.fieldLink RX3 65 "HoseTests$Station" "paid" "I" ∈ wsL_law := (m_r9 _ (List.mem_of_getElem? (i := 15) rfl))
theorem flX4_107 : Cond.fieldLink RX4 107 "HoseTests$Station" "wanted" "[I" ∈ wsL_law := (m_r12 _ (List.mem_of_getElem? (i := 11) rfl))
theorem flX4_121 : Cond.fieldLink RX4 121 "HoseTests$Station" "settings" "[I" ∈ wsL_law := (m_r12 _ (List.mem_of_getElem? (i := 19) rfl))
theorem flX4_190 : Cond.fieldLink RX4 190 "HoseTests$Station" "line" "LHoseTests$Line;" ∈ wsL_law := (m_r15 _ (List.mem_of_getElem? (i := 3) rfl))
theorem flX4_194 : Cond.fieldLink RX4 194 "HoseTests$Line" "metres" "I" ∈ wsL_law := (m_r15 _ (List.mem_of_getElem? (i := 4) rfl))
theorem flX4_205 : Cond.fieldLink RX4 205 "HoseTests$Line" "adaptersUsed" "I" ∈ wsL_law := (m_r15 _ (List.mem_of_getElem? (i := 5) rfl))
theorem flX4_208 : Cond.fieldLink RX4 208 "HoseTests$Line" "mask" "I" ∈ wsL_law := (m_r15 _ (List.mem_of_getElem? (i := 6) rfl))
theorem lkL_97 : KI RL 97 yX4_init cX4_init 2 0 := ⟨⟨(m_r1 _ (List.mem_of_getElem? (i := 3) rfl)), (m_r1 _ (List.mem_of_getElem? (i := 4) rfl)), (m_r1 _ (List.mem_of_getElem? (i := 2) rfl)), (m_r1 _ (List.mem_of_getElem? (i := 5) rfl))⟩, ky_X4_init, by decide +kernel⟩
theorem lkX4_9 : KI RX4 9 yX3_init cX3_init 1 0 := ⟨⟨(m_r1 _ (List.mem_of_getElem? (i := 20) rfl)), (m_r1 _ (List.mem_of_getElem? (i := 21) rfl)), (m_r1 _ (List.mem_of_getElem? (i := 11) rfl)), (m_r1 _ (List.mem_of_getElem? (i := 22) rfl))⟩, ky_X3_init, by decide +kernel⟩
theorem lkX4_29 : KI RX4 29 yX0_init cX0_init 1 0 := ⟨⟨(m_r2 _ (List.mem_of_getElem? (i := 20) rfl)), (m_r2 _ (List.mem_of_getElem? (i := 21) rfl)), (m_r1 _ (List.mem_of_getElem? (i := 18) rfl)), (m_r2 _ (List.mem_of_getElem? (i := 22) rfl))⟩, ky_X0_init, by decide +kernel⟩
theorem lkL_35 : KV RL 35 RX4 yX4_count cX4_count 2 (some .int) 1 := ⟨⟨(m_r3 _ (List.mem_of_getElem? (i := 2) rfl)), (m_r3 _ (List.mem_of_getElem? (i := 3) rfl)), (m_r3 _ (List.mem_of_getElem? (i := 4) rfl)), (m_r1 _ (List.mem_of_getElem? (i := 2) rfl)), (m_r3 _ (List.mem_of_getElem? (i := 5) rfl))⟩, ky_X4_count⟩
theorem lkX4_34 : KS RX4 34 yX4_isWithin cX4_isWithin 3 (some .boolean) 3 := ⟨⟨(m_r3 _ (List.mem_of_getElem? (i := 14) rfl)), (m_r3 _ (List.mem_of_getElem? (i := 15) rfl)), (m_r1 _ (List.mem_of_getElem? (i := 2) rfl)), (m_r3 _ (List.mem_of_getElem? (i := 16) rfl))⟩, ky_X4_isWithin⟩
theorem lkX4_199 : KV RX4 199 RX3 yX3_hosesAt cX3_hosesAt 4 (some .int) 1 := ⟨⟨(m_r3 _ (List.mem_of_getElem? (i := 17) rfl)), (m_r3 _ (List.mem_of_getElem? (i := 18) rfl)), (m_r3 _ (List.mem_of_getElem? (i := 19) rfl)), (m_r1 _ (List.mem_of_getElem? (i := 11) rfl)), (m_r3 _ (List.mem_of_getElem? (i := 20) rfl))⟩, ky_X3_hosesAt⟩
theorem lkX4_219 : KV RX4 219 RX3 yX3_readyHoses cX3_readyHoses 3 (some .int) 0 := ⟨⟨(m_r3 _ (List.mem_of_getElem? (i := 22) rfl)), (m_r3 _ (List.mem_of_getElem? (i := 23) rfl)), (m_r4 _ (List.mem_of_getElem? (i := 0) rfl)), (m_r1 _ (List.mem_of_getElem? (i := 11) rfl)), (m_r4 _ (List.mem_of_getElem? (i := 1) rfl))⟩, ky_X3_readyHoses⟩
theorem lkX3_138 : KV RX3 138 RX3 yX3_isReady cX3_isReady 2 (some .boolean) 1 := ⟨⟨(m_r4 _ (List.mem_of_getElem? (i := 2) rfl)), (m_r4 _ (List.mem_of_getElem? (i := 3) rfl)), (m_r4 _ (List.mem_of_getElem? (i := 4) rfl)), (m_r1 _ (List.mem_of_getElem? (i := 11) rfl)), (m_r4 _ (List.mem_of_getElem? (i := 5) rfl))⟩, ky_X3_isReady⟩
theorem lkX3_78 : KV RX3 78 RX3 yX3_reasonOf cX3_reasonOf 2 (some .int) 1 := ⟨⟨(m_r4 _ (List.mem_of_getElem? (i := 6) rfl)), (m_r4 _ (List.mem_of_getElem? (i := 7) rfl)), (m_r4 _ (List.mem_of_getElem? (i := 8) rfl)), (m_r1 _ (List.mem_of_getElem? (i := 11) rfl)), (m_r4 _ (List.mem_of_getElem? (i := 9) rfl))⟩, ky_X3_reasonOf⟩
theorem lkX3_82 : KV RX3 82 RX3 yX3_isGone cX3_isGone 2 (some .boolean) 1 := ⟨⟨(m_r4 _ (List.mem_of_getElem? (i := 10) rfl)), (m_r4 _ (List.mem_of_getElem? (i := 11) rfl)), (m_r4 _ (List.mem_of_getElem? (i := 12) rfl)), (m_r1 _ (List.mem_of_getElem? (i := 11) rfl)), (m_r4 _ (List.mem_of_getElem? (i := 13) rfl))⟩, ky_X3_isGone⟩
theorem lkX3_86 : KV RX3 86 RX3 yX3_isLent cX3_isLent 2 (some .boolean) 1 := ⟨⟨(m_r4 _ (List.mem_of_getElem? (i := 14) rfl)), (m_r4 _ (List.mem_of_getElem? (i := 15) rfl)), (m_r4 _ (List.mem_of_getElem? (i := 16) rfl)), (m_r1 _ (List.mem_of_getElem? (i := 11) rfl)), (m_r4 _ (List.mem_of_getElem? (i := 17) rfl))⟩, ky_X3_isLent⟩
theorem lkX3_89 : KS RX3 89 yX1_lifeOf cX1_lifeOf 1 (some .int) 1 := ⟨⟨(m_r4 _ (List.mem_of_getElem? (i := 18) rfl)), (m_r4 _ (List.mem_of_getElem? (i := 19) rfl)), (m_r4 _ (List.mem_of_getElem? (i := 20) rfl)), (m_r4 _ (List.mem_of_getElem? (i := 21) rfl))⟩, ky_X1_lifeOf⟩
theorem lkX4_222 : KV RX4 222 RX3 yX3_wholeTrucks cX3_wholeTrucks 3 (some .int) 0 := ⟨⟨(m_r4 _ (List.mem_of_getElem? (i := 22) rfl)), (m_r4 _ (List.mem_of_getElem? (i := 23) rfl)), (m_r5 _ (List.mem_of_getElem? (i := 0) rfl)), (m_r1 _ (List.mem_of_getElem? (i := 11) rfl)), (m_r5 _ (List.mem_of_getElem? (i := 1) rfl))⟩, ky_X3_wholeTrucks⟩
theorem lkX3_151 : KV RX3 151 RX3 yX3_layLine cX3_layLine 4 (some .boolean) 2 := ⟨⟨(m_r5 _ (List.mem_of_getElem? (i := 2) rfl)), (m_r5 _ (List.mem_of_getElem? (i := 3) rfl)), (m_r5 _ (List.mem_of_getElem? (i := 4) rfl)), (m_r1 _ (List.mem_of_getElem? (i := 11) rfl)), (m_r5 _ (List.mem_of_getElem? (i := 5) rfl))⟩, ky_X3_layLine⟩
theorem lkX3_141 : KV RX3 141 RX2 yX2_begin cX2_begin 1 none 0 := ⟨⟨(m_r5 _ (List.mem_of_getElem? (i := 7) rfl)), (m_r5 _ (List.mem_of_getElem? (i := 8) rfl)), (m_r5 _ (List.mem_of_getElem? (i := 9) rfl)), (m_r2 _ (List.mem_of_getElem? (i := 15) rfl)), (m_r5 _ (List.mem_of_getElem? (i := 10) rfl))⟩, ky_X2_begin⟩
theorem lkX3_144 : KV RX3 144 RX2 yX2_join cX2_join 5 none 4 := ⟨⟨(m_r5 _ (List.mem_of_getElem? (i := 15) rfl)), (m_r5 _ (List.mem_of_getElem? (i := 16) rfl)), (m_r5 _ (List.mem_of_getElem? (i := 17) rfl)), (m_r2 _ (List.mem_of_getElem? (i := 15) rfl)), (m_r5 _ (List.mem_of_getElem? (i := 18) rfl))⟩, ky_X2_join⟩
theorem lkL_63 : KS RL 63 yL_cell cL_cell 2 (some .int) 2 := ⟨⟨(m_r5 _ (List.mem_of_getElem? (i := 19) rfl)), (m_r5 _ (List.mem_of_getElem? (i := 20) rfl)), (m_r5 _ (List.mem_of_getElem? (i := 21) rfl)), (m_r5 _ (List.mem_of_getElem? (i := 22) rfl))⟩, ky_L_cell⟩
theorem lkL_69 : KS RL 69 yL_low cL_low 2 (some .int) 2 := ⟨⟨(m_r6 _ (List.mem_of_getElem? (i := 0) rfl)), (m_r6 _ (List.mem_of_getElem? (i := 1) rfl)), (m_r5 _ (List.mem_of_getElem? (i := 21) rfl)), (m_r6 _ (List.mem_of_getElem? (i := 2) rfl))⟩, ky_L_low⟩
theorem lkL_44 : KV RL 44 RX4 yX4_ifTested cX4_ifTested 3 (some .int) 2 := ⟨⟨(m_r6 _ (List.mem_of_getElem? (i := 4) rfl)), (m_r6 _ (List.mem_of_getElem? (i := 5) rfl)), (m_r6 _ (List.mem_of_getElem? (i := 6) rfl)), (m_r1 _ (List.mem_of_getElem? (i := 2) rfl)), (m_r6 _ (List.mem_of_getElem? (i := 7) rfl))⟩, ky_X4_ifTested⟩
theorem lkX4_61 : KV RX4 61 RX4 yX4_requireHose cX4_requireHose 2 none 1 := ⟨⟨(m_r6 _ (List.mem_of_getElem? (i := 8) rfl)), (m_r6 _ (List.mem_of_getElem? (i := 9) rfl)), (m_r6 _ (List.mem_of_getElem? (i := 10) rfl)), (m_r1 _ (List.mem_of_getElem? (i := 2) rfl)), (m_r6 _ (List.mem_of_getElem? (i := 11) rfl))⟩, ky_X4_requireHose⟩
theorem lkX4_96 : KS RX4 96 yX4_requirePressure cX4_requirePressure 1 none 1 := ⟨⟨(m_r6 _ (List.mem_of_getElem? (i := 14) rfl)), (m_r6 _ (List.mem_of_getElem? (i := 15) rfl)), (m_r1 _ (List.mem_of_getElem? (i := 2) rfl)), (m_r6 _ (List.mem_of_getElem? (i := 16) rfl))⟩, ky_X4_requirePressure⟩
theorem lkX4_234 : KV RX4 234 RX3 yX3_isGone cX3_isGone 2 (some .boolean) 1 := ⟨⟨(m_r6 _ (List.mem_of_getElem? (i := 17) rfl)), (m_r4 _ (List.mem_of_getElem? (i := 11) rfl)), (m_r4 _ (List.mem_of_getElem? (i := 12) rfl)), (m_r1 _ (List.mem_of_getElem? (i := 11) rfl)), (m_r4 _ (List.mem_of_getElem? (i := 13) rfl))⟩, ky_X3_isGone⟩
theorem lkX4_237 : KV RX4 237 RX3 yX3_outcomeOf cX3_outcomeOf 4 (some .int) 2 := ⟨⟨(m_r6 _ (List.mem_of_getElem? (i := 18) rfl)), (m_r6 _ (List.mem_of_getElem? (i := 19) rfl)), (m_r6 _ (List.mem_of_getElem? (i := 20) rfl)), (m_r1 _ (List.mem_of_getElem? (i := 11) rfl)), (m_r6 _ (List.mem_of_getElem? (i := 21) rfl))⟩, ky_X3_outcomeOf⟩
theorem lkX3_120 : KV RX3 120 RX3 yX3_stepsHeld cX3_stepsHeld 7 (some .int) 2 := ⟨⟨(m_r6 _ (List.mem_of_getElem? (i := 22) rfl)), (m_r6 _ (List.mem_of_getElem? (i := 23) rfl)), (m_r7 _ (List.mem_of_getElem? (i := 0) rfl)), (m_r1 _ (List.mem_of_getElem? (i := 11) rfl)), (m_r7 _ (List.mem_of_getElem? (i := 1) rfl))⟩, ky_X3_stepsHeld⟩
theorem lkX3_109 : KS RX3 109 yX3_stepsUpTo cX3_stepsUpTo 1 (some .int) 1 := ⟨⟨(m_r7 _ (List.mem_of_getElem? (i := 6) rfl)), (m_r7 _ (List.mem_of_getElem? (i := 7) rfl)), (m_r1 _ (List.mem_of_getElem? (i := 11) rfl)), (m_r7 _ (List.mem_of_getElem? (i := 8) rfl))⟩, ky_X3_stepsUpTo⟩
theorem lkX3_117 : KV RX3 117 RX3 yX3_strengthAt cX3_strengthAt 3 (some .int) 2 := ⟨⟨(m_r7 _ (List.mem_of_getElem? (i := 9) rfl)), (m_r7 _ (List.mem_of_getElem? (i := 10) rfl)), (m_r7 _ (List.mem_of_getElem? (i := 11) rfl)), (m_r1 _ (List.mem_of_getElem? (i := 11) rfl)), (m_r7 _ (List.mem_of_getElem? (i := 12) rfl))⟩, ky_X3_strengthAt⟩
theorem lkX3_94 : KS RX3 94 yX1_strengthOf cX1_strengthOf 3 (some .int) 3 := ⟨⟨(m_r7 _ (List.mem_of_getElem? (i := 13) rfl)), (m_r7 _ (List.mem_of_getElem? (i := 14) rfl)), (m_r4 _ (List.mem_of_getElem? (i := 20) rfl)), (m_r7 _ (List.mem_of_getElem? (i := 15) rfl))⟩, ky_X1_strengthOf⟩
theorem lkL_38 : KV RL 38 RX4 yX4_hose cX4_hose 3 (some .int) 2 := ⟨⟨(m_r7 _ (List.mem_of_getElem? (i := 19) rfl)), (m_r7 _ (List.mem_of_getElem? (i := 20) rfl)), (m_r7 _ (List.mem_of_getElem? (i := 21) rfl)), (m_r1 _ (List.mem_of_getElem? (i := 2) rfl)), (m_r7 _ (List.mem_of_getElem? (i := 22) rfl))⟩, ky_X4_hose⟩
theorem lkX4_173 : KV RX4 173 RX3 yX3_strengthAt cX3_strengthAt 3 (some .int) 2 := ⟨⟨(m_r8 _ (List.mem_of_getElem? (i := 7) rfl)), (m_r7 _ (List.mem_of_getElem? (i := 10) rfl)), (m_r7 _ (List.mem_of_getElem? (i := 11) rfl)), (m_r1 _ (List.mem_of_getElem? (i := 11) rfl)), (m_r7 _ (List.mem_of_getElem? (i := 12) rfl))⟩, ky_X3_strengthAt⟩
theorem lkX4_182 : KV RX4 182 RX3 yX3_reasonOf cX3_reasonOf 2 (some .int) 1 := ⟨⟨(m_r8 _ (List.mem_of_getElem? (i := 8) rfl)), (m_r4 _ (List.mem_of_getElem? (i := 7) rfl)), (m_r4 _ (List.mem_of_getElem? (i := 8) rfl)), (m_r1 _ (List.mem_of_getElem? (i := 11) rfl)), (m_r4 _ (List.mem_of_getElem? (i := 9) rfl))⟩, ky_X3_reasonOf⟩
theorem lkL_98 : KS RL 98 yL_act cL_act 7 (some .int) 3 := ⟨⟨(m_r8 _ (List.mem_of_getElem? (i := 9) rfl)), (m_r8 _ (List.mem_of_getElem? (i := 10) rfl)), (m_r5 _ (List.mem_of_getElem? (i := 21) rfl)), (m_r8 _ (List.mem_of_getElem? (i := 11) rfl))⟩, ky_L_act⟩
theorem lkL_72 : KSW RL 72 yL_buy cL_buy 5 (some .int) [(0, 7, 8, 15)] 4 := ⟨⟨(m_r8 _ (List.mem_of_getElem? (i := 12) rfl)), (m_r8 _ (List.mem_of_getElem? (i := 13) rfl)), (m_r5 _ (List.mem_of_getElem? (i := 21) rfl)), (m_r8 _ (List.mem_of_getElem? (i := 14) rfl))⟩, ky_L_buy⟩
theorem lkL_9 : KV RL 9 RX4 yX4_buy cX4_buy 4 (some .int) 3 := ⟨⟨(m_r8 _ (List.mem_of_getElem? (i := 16) rfl)), (m_r8 _ (List.mem_of_getElem? (i := 17) rfl)), (m_r8 _ (List.mem_of_getElem? (i := 18) rfl)), (m_r1 _ (List.mem_of_getElem? (i := 2) rfl)), (m_r8 _ (List.mem_of_getElem? (i := 19) rfl))⟩, ky_X4_buy⟩
theorem lkX4_45 : KV RX4 45 RX3 yX3_canBuy cX3_canBuy 3 (some .boolean) 2 := ⟨⟨(m_r8 _ (List.mem_of_getElem? (i := 22) rfl)), (m_r8 _ (List.mem_of_getElem? (i := 23) rfl)), (m_r9 _ (List.mem_of_getElem? (i := 0) rfl)), (m_r1 _ (List.mem_of_getElem? (i := 11) rfl)), (m_r9 _ (List.mem_of_getElem? (i := 1) rfl))⟩, ky_X3_canBuy⟩
theorem lkX3_98 : KS RX3 98 yX1_costOf cX1_costOf 2 (some .int) 2 := ⟨⟨(m_r9 _ (List.mem_of_getElem? (i := 2) rfl)), (m_r9 _ (List.mem_of_getElem? (i := 3) rfl)), (m_r4 _ (List.mem_of_getElem? (i := 20) rfl)), (m_r9 _ (List.mem_of_getElem? (i := 4) rfl))⟩, ky_X1_costOf⟩
theorem lkX4_54 : KV RX4 54 RX4 yX4_saveState cX4_saveState 2 none 0 := ⟨⟨(m_r9 _ (List.mem_of_getElem? (i := 5) rfl)), (m_r9 _ (List.mem_of_getElem? (i := 6) rfl)), (m_r9 _ (List.mem_of_getElem? (i := 7) rfl)), (m_r1 _ (List.mem_of_getElem? (i := 2) rfl)), (m_r9 _ (List.mem_of_getElem? (i := 8) rfl))⟩, ky_X4_saveState⟩
theorem lkX4_158 : KV RX4 158 RX3 yX3_copyFrom cX3_copyFrom 2 none 1 := ⟨⟨(m_r9 _ (List.mem_of_getElem? (i := 9) rfl)), (m_r9 _ (List.mem_of_getElem? (i := 10) rfl)), (m_r9 _ (List.mem_of_getElem? (i := 11) rfl)), (m_r1 _ (List.mem_of_getElem? (i := 11) rfl)), (m_r9 _ (List.mem_of_getElem? (i := 12) rfl))⟩, ky_X3_copyFrom⟩
theorem lkX4_57 : KV RX4 57 RX3 yX3_addHose cX3_addHose 6 (some .int) 4 := ⟨⟨(m_r9 _ (List.mem_of_getElem? (i := 20) rfl)), (m_r9 _ (List.mem_of_getElem? (i := 21) rfl)), (m_r9 _ (List.mem_of_getElem? (i := 22) rfl)), (m_r1 _ (List.mem_of_getElem? (i := 11) rfl)), (m_r9 _ (List.mem_of_getElem? (i := 23) rfl))⟩, ky_X3_addHose⟩
theorem lkX3_102 : KV RX3 102 RX3 yX3_priceOf cX3_priceOf 2 (some .int) 1 := ⟨⟨(m_r10 _ (List.mem_of_getElem? (i := 0) rfl)), (m_r10 _ (List.mem_of_getElem? (i := 1) rfl)), (m_r10 _ (List.mem_of_getElem? (i := 2) rfl)), (m_r1 _ (List.mem_of_getElem? (i := 11) rfl)), (m_r10 _ (List.mem_of_getElem? (i := 3) rfl))⟩, ky_X3_priceOf⟩
theorem lkL_75 : KSW RL 75 yL_renew cL_renew 3 (some .int) [(0, 5, 6, 15)] 2 := ⟨⟨(m_r10 _ (List.mem_of_getElem? (i := 4) rfl)), (m_r10 _ (List.mem_of_getElem? (i := 5) rfl)), (m_r5 _ (List.mem_of_getElem? (i := 21) rfl)), (m_r10 _ (List.mem_of_getElem? (i := 6) rfl))⟩, ky_L_renew⟩
theorem lkL_17 : KV RL 17 RX4 yX4_renew cX4_renew 2 (some .int) 1 := ⟨⟨(m_r10 _ (List.mem_of_getElem? (i := 7) rfl)), (m_r10 _ (List.mem_of_getElem? (i := 8) rfl)), (m_r10 _ (List.mem_of_getElem? (i := 9) rfl)), (m_r1 _ (List.mem_of_getElem? (i := 2) rfl)), (m_r10 _ (List.mem_of_getElem? (i := 10) rfl))⟩, ky_X4_renew⟩
theorem lkX4_65 : KV RX4 65 RX4 yX4_requireAtHand cX4_requireAtHand 2 none 1 := ⟨⟨(m_r10 _ (List.mem_of_getElem? (i := 11) rfl)), (m_r10 _ (List.mem_of_getElem? (i := 12) rfl)), (m_r10 _ (List.mem_of_getElem? (i := 13) rfl)), (m_r1 _ (List.mem_of_getElem? (i := 2) rfl)), (m_r10 _ (List.mem_of_getElem? (i := 14) rfl))⟩, ky_X4_requireAtHand⟩
theorem lkX4_292 : KV RX4 292 RX3 yX3_isLent cX3_isLent 2 (some .boolean) 1 := ⟨⟨(m_r10 _ (List.mem_of_getElem? (i := 15) rfl)), (m_r4 _ (List.mem_of_getElem? (i := 15) rfl)), (m_r4 _ (List.mem_of_getElem? (i := 16) rfl)), (m_r1 _ (List.mem_of_getElem? (i := 11) rfl)), (m_r4 _ (List.mem_of_getElem? (i := 17) rfl))⟩, ky_X3_isLent⟩
theorem lkX4_75 : KV RX4 75 RX3 yX3_replaceHose cX3_replaceHose 3 (some .int) 1 := ⟨⟨(m_r10 _ (List.mem_of_getElem? (i := 16) rfl)), (m_r10 _ (List.mem_of_getElem? (i := 17) rfl)), (m_r10 _ (List.mem_of_getElem? (i := 18) rfl)), (m_r1 _ (List.mem_of_getElem? (i := 11) rfl)), (m_r10 _ (List.mem_of_getElem? (i := 19) rfl))⟩, ky_X3_replaceHose⟩
theorem lkX3_105 : KV RX3 105 RX3 yX3_addHose cX3_addHose 6 (some .int) 4 := ⟨⟨(m_r10 _ (List.mem_of_getElem? (i := 20) rfl)), (m_r9 _ (List.mem_of_getElem? (i := 21) rfl)), (m_r9 _ (List.mem_of_getElem? (i := 22) rfl)), (m_r1 _ (List.mem_of_getElem? (i := 11) rfl)), (m_r9 _ (List.mem_of_getElem? (i := 23) rfl))⟩, ky_X3_addHose⟩
theorem lkL_78 : KSW RL 78 yL_put cL_put 4 (some .int) [(0, 6, 7, 15)] 3 := ⟨⟨(m_r10 _ (List.mem_of_getElem? (i := 21) rfl)), (m_r10 _ (List.mem_of_getElem? (i := 22) rfl)), (m_r5 _ (List.mem_of_getElem? (i := 21) rfl)), (m_r10 _ (List.mem_of_getElem? (i := 23) rfl))⟩, ky_L_put⟩
theorem lkL_21 : KV RL 21 RX4 yX4_put cX4_put 4 (some .int) 2 := ⟨⟨(m_r11 _ (List.mem_of_getElem? (i := 0) rfl)), (m_r11 _ (List.mem_of_getElem? (i := 1) rfl)), (m_r11 _ (List.mem_of_getElem? (i := 2) rfl)), (m_r1 _ (List.mem_of_getElem? (i := 2) rfl)), (m_r11 _ (List.mem_of_getElem? (i := 3) rfl))⟩, ky_X4_put⟩
theorem lkL_81 : KSW RL 81 yL_lend cL_lend 4 (some .int) [(0, 6, 7, 15)] 3 := ⟨⟨(m_r11 _ (List.mem_of_getElem? (i := 4) rfl)), (m_r11 _ (List.mem_of_getElem? (i := 5) rfl)), (m_r5 _ (List.mem_of_getElem? (i := 21) rfl)), (m_r11 _ (List.mem_of_getElem? (i := 6) rfl))⟩, ky_L_lend⟩
theorem lkL_25 : KV RL 25 RX4 yX4_lend cX4_lend 3 (some .int) 2 := ⟨⟨(m_r11 _ (List.mem_of_getElem? (i := 7) rfl)), (m_r11 _ (List.mem_of_getElem? (i := 8) rfl)), (m_r11 _ (List.mem_of_getElem? (i := 9) rfl)), (m_r1 _ (List.mem_of_getElem? (i := 2) rfl)), (m_r11 _ (List.mem_of_getElem? (i := 10) rfl))⟩, ky_X4_lend⟩
theorem lkX4_86 : KV RX4 86 RX3 yX3_isReady cX3_isReady 2 (some .boolean) 1 := ⟨⟨(m_r11 _ (List.mem_of_getElem? (i := 11) rfl)), (m_r4 _ (List.mem_of_getElem? (i := 3) rfl)), (m_r4 _ (List.mem_of_getElem? (i := 4) rfl)), (m_r1 _ (List.mem_of_getElem? (i := 11) rfl)), (m_r4 _ (List.mem_of_getElem? (i := 5) rfl))⟩, ky_X3_isReady⟩
theorem lkX4_92 : KV RX4 92 RX3 yX3_lendOut cX3_lendOut 3 (some .int) 2 := ⟨⟨(m_r11 _ (List.mem_of_getElem? (i := 12) rfl)), (m_r11 _ (List.mem_of_getElem? (i := 13) rfl)), (m_r11 _ (List.mem_of_getElem? (i := 14) rfl)), (m_r1 _ (List.mem_of_getElem? (i := 11) rfl)), (m_r11 _ (List.mem_of_getElem? (i := 15) rfl))⟩, ky_X3_lendOut⟩
theorem lkL_83 : KSW RL 83 yL_test cL_test 4 (some .int) [(0, 6, 7, 15)] 3 := ⟨⟨(m_r11 _ (List.mem_of_getElem? (i := 16) rfl)), (m_r11 _ (List.mem_of_getElem? (i := 17) rfl)), (m_r5 _ (List.mem_of_getElem? (i := 21) rfl)), (m_r11 _ (List.mem_of_getElem? (i := 18) rfl))⟩, ky_L_test⟩
theorem lkL_28 : KV RL 28 RX4 yX4_test cX4_test 3 (some .int) 2 := ⟨⟨(m_r11 _ (List.mem_of_getElem? (i := 19) rfl)), (m_r11 _ (List.mem_of_getElem? (i := 20) rfl)), (m_r11 _ (List.mem_of_getElem? (i := 21) rfl)), (m_r1 _ (List.mem_of_getElem? (i := 2) rfl)), (m_r11 _ (List.mem_of_getElem? (i := 22) rfl))⟩, ky_X4_test⟩
theorem lkX4_99 : KV RX4 99 RX3 yX3_runTest cX3_runTest 5 (some .int) 2 := ⟨⟨(m_r11 _ (List.mem_of_getElem? (i := 23) rfl)), (m_r12 _ (List.mem_of_getElem? (i := 0) rfl)), (m_r12 _ (List.mem_of_getElem? (i := 1) rfl)), (m_r1 _ (List.mem_of_getElem? (i := 11) rfl)), (m_r12 _ (List.mem_of_getElem? (i := 2) rfl))⟩, ky_X3_runTest⟩
theorem lkX3_123 : KV RX3 123 RX3 yX3_outcomeOf cX3_outcomeOf 4 (some .int) 2 := ⟨⟨(m_r12 _ (List.mem_of_getElem? (i := 3) rfl)), (m_r6 _ (List.mem_of_getElem? (i := 19) rfl)), (m_r6 _ (List.mem_of_getElem? (i := 20) rfl)), (m_r1 _ (List.mem_of_getElem? (i := 11) rfl)), (m_r6 _ (List.mem_of_getElem? (i := 21) rfl))⟩, ky_X3_outcomeOf⟩
theorem lkX3_126 : KS RX3 126 yX1_daysInForce cX1_daysInForce 1 (some .int) 1 := ⟨⟨(m_r12 _ (List.mem_of_getElem? (i := 4) rfl)), (m_r12 _ (List.mem_of_getElem? (i := 5) rfl)), (m_r4 _ (List.mem_of_getElem? (i := 20) rfl)), (m_r12 _ (List.mem_of_getElem? (i := 6) rfl))⟩, ky_X1_daysInForce⟩
theorem lkL_85 : KV RL 85 RX4 yX4_want cX4_want 4 (some .int) 2 := ⟨⟨(m_r12 _ (List.mem_of_getElem? (i := 7) rfl)), (m_r12 _ (List.mem_of_getElem? (i := 8) rfl)), (m_r12 _ (List.mem_of_getElem? (i := 9) rfl)), (m_r1 _ (List.mem_of_getElem? (i := 2) rfl)), (m_r12 _ (List.mem_of_getElem? (i := 10) rfl))⟩, ky_X4_want⟩
theorem lkX4_102 : KS RX4 102 yX4_requireTruck cX4_requireTruck 1 none 1 := ⟨⟨(m_r12 _ (List.mem_of_getElem? (i := 12) rfl)), (m_r12 _ (List.mem_of_getElem? (i := 13) rfl)), (m_r1 _ (List.mem_of_getElem? (i := 2) rfl)), (m_r12 _ (List.mem_of_getElem? (i := 14) rfl))⟩, ky_X4_requireTruck⟩
theorem lkL_88 : KV RL 88 RX4 yX4_set cX4_set 4 (some .int) 2 := ⟨⟨(m_r12 _ (List.mem_of_getElem? (i := 15) rfl)), (m_r12 _ (List.mem_of_getElem? (i := 16) rfl)), (m_r12 _ (List.mem_of_getElem? (i := 17) rfl)), (m_r1 _ (List.mem_of_getElem? (i := 2) rfl)), (m_r12 _ (List.mem_of_getElem? (i := 18) rfl))⟩, ky_X4_set⟩
theorem lkX4_110 : KS RX4 110 yX4_requireSetting cX4_requireSetting 1 none 1 := ⟨⟨(m_r12 _ (List.mem_of_getElem? (i := 20) rfl)), (m_r12 _ (List.mem_of_getElem? (i := 21) rfl)), (m_r1 _ (List.mem_of_getElem? (i := 2) rfl)), (m_r12 _ (List.mem_of_getElem? (i := 22) rfl))⟩, ky_X4_requireSetting⟩
theorem lkX4_113 : KS RX4 113 yX4_leastOfSetting cX4_leastOfSetting 1 (some .int) 1 := ⟨⟨(m_r12 _ (List.mem_of_getElem? (i := 23) rfl)), (m_r13 _ (List.mem_of_getElem? (i := 0) rfl)), (m_r1 _ (List.mem_of_getElem? (i := 2) rfl)), (m_r13 _ (List.mem_of_getElem? (i := 1) rfl))⟩, ky_X4_leastOfSetting⟩
theorem lkX4_116 : KS RX4 116 yX4_greatestOfSetting cX4_greatestOfSetting 1 (some .int) 1 := ⟨⟨(m_r13 _ (List.mem_of_getElem? (i := 2) rfl)), (m_r13 _ (List.mem_of_getElem? (i := 3) rfl)), (m_r1 _ (List.mem_of_getElem? (i := 2) rfl)), (m_r13 _ (List.mem_of_getElem? (i := 4) rfl))⟩, ky_X4_greatestOfSetting⟩
theorem lkL_91 : KV RL 91 RX4 yX4_pass cX4_pass 3 (some .int) 1 := ⟨⟨(m_r13 _ (List.mem_of_getElem? (i := 5) rfl)), (m_r13 _ (List.mem_of_getElem? (i := 6) rfl)), (m_r13 _ (List.mem_of_getElem? (i := 7) rfl)), (m_r1 _ (List.mem_of_getElem? (i := 2) rfl)), (m_r13 _ (List.mem_of_getElem? (i := 8) rfl))⟩, ky_X4_pass⟩
theorem lkX4_124 : KV RX4 124 RX3 yX3_passDay cX3_passDay 1 none 0 := ⟨⟨(m_r13 _ (List.mem_of_getElem? (i := 9) rfl)), (m_r13 _ (List.mem_of_getElem? (i := 10) rfl)), (m_r13 _ (List.mem_of_getElem? (i := 11) rfl)), (m_r1 _ (List.mem_of_getElem? (i := 11) rfl)), (m_r13 _ (List.mem_of_getElem? (i := 12) rfl))⟩, ky_X3_passDay⟩
theorem lkX3_129 : KV RX3 129 RX3 yX3_takeBackLent cX3_takeBackLent 2 none 0 := ⟨⟨(m_r13 _ (List.mem_of_getElem? (i := 13) rfl)), (m_r13 _ (List.mem_of_getElem? (i := 14) rfl)), (m_r13 _ (List.mem_of_getElem? (i := 15) rfl)), (m_r1 _ (List.mem_of_getElem? (i := 11) rfl)), (m_r13 _ (List.mem_of_getElem? (i := 16) rfl))⟩, ky_X3_takeBackLent⟩
theorem lkX3_132 : KV RX3 132 RX3 yX3_wearOnTrucks cX3_wearOnTrucks 2 none 0 := ⟨⟨(m_r13 _ (List.mem_of_getElem? (i := 17) rfl)), (m_r13 _ (List.mem_of_getElem? (i := 18) rfl)), (m_r13 _ (List.mem_of_getElem? (i := 19) rfl)), (m_r1 _ (List.mem_of_getElem? (i := 11) rfl)), (m_r13 _ (List.mem_of_getElem? (i := 20) rfl))⟩, ky_X3_wearOnTrucks⟩
theorem lkX3_135 : KV RX3 135 RX3 yX3_isOnTruck cX3_isOnTruck 2 (some .boolean) 1 := ⟨⟨(m_r13 _ (List.mem_of_getElem? (i := 21) rfl)), (m_r13 _ (List.mem_of_getElem? (i := 22) rfl)), (m_r13 _ (List.mem_of_getElem? (i := 23) rfl)), (m_r1 _ (List.mem_of_getElem? (i := 11) rfl)), (m_r14 _ (List.mem_of_getElem? (i := 0) rfl))⟩, ky_X3_isOnTruck⟩
theorem lkL_94 : KSW RL 94 yL_undo cL_undo 2 (some .int) [(0, 4, 5, 15)] 1 := ⟨⟨(m_r14 _ (List.mem_of_getElem? (i := 1) rfl)), (m_r14 _ (List.mem_of_getElem? (i := 2) rfl)), (m_r5 _ (List.mem_of_getElem? (i := 21) rfl)), (m_r14 _ (List.mem_of_getElem? (i := 3) rfl))⟩, ky_L_undo⟩
theorem lkL_31 : KV RL 31 RX4 yX4_undo cX4_undo 2 (some .int) 0 := ⟨⟨(m_r14 _ (List.mem_of_getElem? (i := 4) rfl)), (m_r14 _ (List.mem_of_getElem? (i := 5) rfl)), (m_r14 _ (List.mem_of_getElem? (i := 6) rfl)), (m_r1 _ (List.mem_of_getElem? (i := 2) rfl)), (m_r14 _ (List.mem_of_getElem? (i := 7) rfl))⟩, ky_X4_undo⟩
theorem lkL_53 : KV RL 53 RX4 yX4_setting cX4_setting 2 (some .int) 1 := ⟨⟨(m_r14 _ (List.mem_of_getElem? (i := 8) rfl)), (m_r14 _ (List.mem_of_getElem? (i := 9) rfl)), (m_r14 _ (List.mem_of_getElem? (i := 10) rfl)), (m_r1 _ (List.mem_of_getElem? (i := 2) rfl)), (m_r14 _ (List.mem_of_getElem? (i := 11) rfl))⟩, ky_X4_setting⟩
theorem lkL_102 : KS RL 102 yL_station cL_station 13 (some .boolean) 1 := ⟨⟨(m_r14 _ (List.mem_of_getElem? (i := 12) rfl)), (m_r14 _ (List.mem_of_getElem? (i := 13) rfl)), (m_r5 _ (List.mem_of_getElem? (i := 21) rfl)), (m_r14 _ (List.mem_of_getElem? (i := 14) rfl))⟩, ky_L_station⟩
theorem lkL_41 : KV RL 41 RX4 yX4_safe cX4_safe 2 (some .int) 1 := ⟨⟨(m_r14 _ (List.mem_of_getElem? (i := 15) rfl)), (m_r14 _ (List.mem_of_getElem? (i := 16) rfl)), (m_r14 _ (List.mem_of_getElem? (i := 17) rfl)), (m_r1 _ (List.mem_of_getElem? (i := 2) rfl)), (m_r14 _ (List.mem_of_getElem? (i := 18) rfl))⟩, ky_X4_safe⟩
theorem lkX4_240 : KV RX4 240 RX3 yX3_greatestSafePressure cX3_greatestSafePressure 3 (some .int) 1 := ⟨⟨(m_r14 _ (List.mem_of_getElem? (i := 19) rfl)), (m_r14 _ (List.mem_of_getElem? (i := 20) rfl)), (m_r14 _ (List.mem_of_getElem? (i := 21) rfl)), (m_r1 _ (List.mem_of_getElem? (i := 11) rfl)), (m_r14 _ (List.mem_of_getElem? (i := 22) rfl))⟩, ky_X3_greatestSafePressure⟩
theorem lkL_47 : KV RL 47 RX4 yX4_truck cX4_truck 4 (some .int) 2 := ⟨⟨(m_r14 _ (List.mem_of_getElem? (i := 23) rfl)), (m_r15 _ (List.mem_of_getElem? (i := 0) rfl)), (m_r15 _ (List.mem_of_getElem? (i := 1) rfl)), (m_r1 _ (List.mem_of_getElem? (i := 2) rfl)), (m_r15 _ (List.mem_of_getElem? (i := 2) rfl))⟩, ky_X4_truck⟩
theorem lkX4_187 : KV RX4 187 RX3 yX3_layLine cX3_layLine 4 (some .boolean) 2 := ⟨⟨(m_r15 _ (List.mem_of_getElem? (i := 7) rfl)), (m_r5 _ (List.mem_of_getElem? (i := 3) rfl)), (m_r5 _ (List.mem_of_getElem? (i := 4) rfl)), (m_r1 _ (List.mem_of_getElem? (i := 11) rfl)), (m_r5 _ (List.mem_of_getElem? (i := 5) rfl))⟩, ky_X3_layLine⟩
theorem lkX4_202 : KV RX4 202 RX3 yX3_readyHosesAt cX3_readyHosesAt 4 (some .int) 1 := ⟨⟨(m_r15 _ (List.mem_of_getElem? (i := 8) rfl)), (m_r15 _ (List.mem_of_getElem? (i := 9) rfl)), (m_r15 _ (List.mem_of_getElem? (i := 10) rfl)), (m_r1 _ (List.mem_of_getElem? (i := 11) rfl)), (m_r15 _ (List.mem_of_getElem? (i := 11) rfl))⟩, ky_X3_readyHosesAt⟩
theorem lkL_50 : KV RL 50 RX4 yX4_helps cX4_helps 2 (some .int) 1 := ⟨⟨(m_r15 _ (List.mem_of_getElem? (i := 12) rfl)), (m_r15 _ (List.mem_of_getElem? (i := 13) rfl)), (m_r15 _ (List.mem_of_getElem? (i := 14) rfl)), (m_r1 _ (List.mem_of_getElem? (i := 2) rfl)), (m_r15 _ (List.mem_of_getElem? (i := 15) rfl))⟩, ky_X4_helps⟩
theorem lkX4_246 : KV RX4 246 RX3 yX3_cheapestHelp cX3_cheapestHelp 6 (some .int) 1 := ⟨⟨(m_r15 _ (List.mem_of_getElem? (i := 16) rfl)), (m_r15 _ (List.mem_of_getElem? (i := 17) rfl)), (m_r15 _ (List.mem_of_getElem? (i := 18) rfl)), (m_r1 _ (List.mem_of_getElem? (i := 11) rfl)), (m_r15 _ (List.mem_of_getElem? (i := 19) rfl))⟩, ky_X3_cheapestHelp⟩
theorem lkL_56 : KV RL 56 RX4 yX4_nextLapse cX4_nextLapse 1 (some .int) 0 := ⟨⟨(m_r15 _ (List.mem_of_getElem? (i := 20) rfl)), (m_r15 _ (List.mem_of_getElem? (i := 21) rfl)), (m_r15 _ (List.mem_of_getElem? (i := 22) rfl)), (m_r1 _ (List.mem_of_getElem? (i := 2) rfl)), (m_r15 _ (List.mem_of_getElem? (i := 23) rfl))⟩, ky_X4_nextLapse⟩
theorem lkX4_243 : KV RX4 243 RX3 yX3_daysToFirstLapse cX3_daysToFirstLapse 5 (some .int) 0 := ⟨⟨(m_r16 _ (List.mem_of_getElem? (i := 0) rfl)), (m_r16 _ (List.mem_of_getElem? (i := 1) rfl)), (m_r16 _ (List.mem_of_getElem? (i := 2) rfl)), (m_r1 _ (List.mem_of_getElem? (i := 11) rfl)), (m_r16 _ (List.mem_of_getElem? (i := 3) rfl))⟩, ky_X3_daysToFirstLapse⟩
theorem lkL_59 : KV RL 59 RX4 yX4_readyShare cX4_readyShare 2 (some .double) 0 := ⟨⟨(m_r16 _ (List.mem_of_getElem? (i := 4) rfl)), (m_r16 _ (List.mem_of_getElem? (i := 5) rfl)), (m_r16 _ (List.mem_of_getElem? (i := 6) rfl)), (m_r1 _ (List.mem_of_getElem? (i := 2) rfl)), (m_r16 _ (List.mem_of_getElem? (i := 7) rfl))⟩, ky_X4_readyShare⟩
theorem wd_classLink_RL_10_RX4 : Cond.classLink RL 10 RX4 ∈ wsL_law := (m_r1 _ (List.mem_of_getElem? (i := 0) rfl))
theorem wd_instantiable_RX4_5 : Cond.instantiable RX4 5 ∈ wsL_law := (m_r1 _ (List.mem_of_getElem? (i := 1) rfl))
theorem wd_initialized_RX4 : Cond.initialized RX4 ∈ wsL_law := (m_r1 _ (List.mem_of_getElem? (i := 2) rfl))
theorem wd_methodLink_RX4_1_objectInit : Cond.methodLink RX4 1 objectInit ∈ wsL_law := (m_r1 _ (List.mem_of_getElem? (i := 6) rfl))
theorem wd_instanceMethod_objectInit : Cond.instanceMethod objectInit ∈ wsL_law := (m_r1 _ (List.mem_of_getElem? (i := 7) rfl))
theorem wd_code_objectInit_0xb1_1_none : Cond.code objectInit ⟨#[0xb1]⟩ 1 none ∈ wsL_law := (m_r1 _ (List.mem_of_getElem? (i := 8) rfl))
theorem wd_classLink_RX4_7_RX3 : Cond.classLink RX4 7 RX3 ∈ wsL_law := (m_r1 _ (List.mem_of_getElem? (i := 9) rfl))
theorem wd_instantiable_RX3_17 : Cond.instantiable RX3 17 ∈ wsL_law := (m_r1 _ (List.mem_of_getElem? (i := 10) rfl))
theorem wd_initialized_RX3 : Cond.initialized RX3 ∈ wsL_law := (m_r1 _ (List.mem_of_getElem? (i := 11) rfl))
theorem wd_classLink_RX4_27_RX0 : Cond.classLink RX4 27 RX0 ∈ wsL_law := (m_r1 _ (List.mem_of_getElem? (i := 16) rfl))
theorem wd_instantiable_RX0_2 : Cond.instantiable RX0 2 ∈ wsL_law := (m_r1 _ (List.mem_of_getElem? (i := 17) rfl))
theorem wd_initialized_RX0 : Cond.initialized RX0 ∈ wsL_law := (m_r1 _ (List.mem_of_getElem? (i := 18) rfl))
theorem wd_methodLink_RX3_3_objectInit : Cond.methodLink RX3 3 objectInit ∈ wsL_law := (m_r1 _ (List.mem_of_getElem? (i := 23) rfl))
theorem wd_arrayClass_int : Cond.arrayClass .int ∈ wsL_law := (m_r2 _ (List.mem_of_getElem? (i := 2) rfl))
theorem wd_classLink_RX3_49_RX2 : Cond.classLink RX3 49 RX2 ∈ wsL_law := (m_r2 _ (List.mem_of_getElem? (i := 13) rfl))
theorem wd_instantiable_RX2_4 : Cond.instantiable RX2 4 ∈ wsL_law := (m_r2 _ (List.mem_of_getElem? (i := 14) rfl))
theorem wd_initialized_RX2 : Cond.initialized RX2 ∈ wsL_law := (m_r2 _ (List.mem_of_getElem? (i := 15) rfl))
theorem wd_methodLink_RX2_3_objectInit : Cond.methodLink RX2 3 objectInit ∈ wsL_law := (m_r2 _ (List.mem_of_getElem? (i := 19) rfl))
theorem wd_methodLink_RX0_3_objectInit : Cond.methodLink RX0 3 objectInit ∈ wsL_law := (m_r2 _ (List.mem_of_getElem? (i := 23) rfl))
theorem wd_classLink_RX4_38_java_lang_IllegalArgumentException : Cond.classLink RX4 38 "java/lang/IllegalArgumentException" ∈ wsL_law := (m_r3 _ (List.mem_of_getElem? (i := 6) rfl))
theorem wd_initialized_java_lang_IllegalArgumentException : Cond.initialized "java/lang/IllegalArgumentException" ∈ wsL_law := (m_r3 _ (List.mem_of_getElem? (i := 7) rfl))
theorem wd_initialized_RX1 : Cond.initialized RX1 ∈ wsL_law := (m_r4 _ (List.mem_of_getElem? (i := 20) rfl))
theorem wd_initialized_RL : Cond.initialized RL ∈ wsL_law := (m_r5 _ (List.mem_of_getElem? (i := 21) rfl))
theorem wd_constant_RL_8_40503 : Cond.constant RL 8 (40503) ∈ wsL_law := (m_r5 _ (List.mem_of_getElem? (i := 23) rfl))
theorem wd_constant_RL_7_2147483647 : Cond.constant RL 7 (2147483647) ∈ wsL_law := (m_r6 _ (List.mem_of_getElem? (i := 3) rfl))
theorem wd_classLink_RX4_287_java_lang_IndexOutOfBoundsException : Cond.classLink RX4 287 "java/lang/IndexOutOfBoundsException" ∈ wsL_law := (m_r6 _ (List.mem_of_getElem? (i := 12) rfl))
theorem wd_initialized_java_lang_IndexOutOfBoundsException : Cond.initialized "java/lang/IndexOutOfBoundsException" ∈ wsL_law := (m_r6 _ (List.mem_of_getElem? (i := 13) rfl))
theorem wd_methodLink_RX3_112_Lib_Math_min_name : Cond.methodLink RX3 112 Lib.Math.min.name ∈ wsL_law := (m_r7 _ (List.mem_of_getElem? (i := 2) rfl))
theorem wd_static_Lib_Math_min_name : Cond.static Lib.Math.min.name ∈ wsL_law := (m_r7 _ (List.mem_of_getElem? (i := 3) rfl))
theorem wd_initialized_java_lang_Math : Cond.initialized "java/lang/Math" ∈ wsL_law := (m_r7 _ (List.mem_of_getElem? (i := 4) rfl))
theorem wd_code_Lib_Math_min_name_Lib_Math_min_code_2_some_int : Cond.code Lib.Math.min.name Lib.Math.min.code 2 (some .int) ∈ wsL_law := (m_r7 _ (List.mem_of_getElem? (i := 5) rfl))
theorem wd_methodLink_RX1_9_Lib_Math_max_name : Cond.methodLink RX1 9 Lib.Math.max.name ∈ wsL_law := (m_r7 _ (List.mem_of_getElem? (i := 16) rfl))
theorem wd_static_Lib_Math_max_name : Cond.static Lib.Math.max.name ∈ wsL_law := (m_r7 _ (List.mem_of_getElem? (i := 17) rfl))
theorem wd_code_Lib_Math_max_name_Lib_Math_max_code_2_some_int : Cond.code Lib.Math.max.name Lib.Math.max.code 2 (some .int) ∈ wsL_law := (m_r7 _ (List.mem_of_getElem? (i := 18) rfl))
theorem wd_classLink_RL_15_java_lang_IllegalStateException : Cond.classLink RL 15 "java/lang/IllegalStateException" ∈ wsL_law := (m_r8 _ (List.mem_of_getElem? (i := 15) rfl))
theorem wd_classLink_RX4_49_java_lang_IllegalStateException : Cond.classLink RX4 49 "java/lang/IllegalStateException" ∈ wsL_law := (m_r8 _ (List.mem_of_getElem? (i := 20) rfl))
theorem wd_initialized_java_lang_IllegalStateException : Cond.initialized "java/lang/IllegalStateException" ∈ wsL_law := (m_r8 _ (List.mem_of_getElem? (i := 21) rfl))
theorem wd_methodLink_RX3_68_arraycopyName : Cond.methodLink RX3 68 arraycopyName ∈ wsL_law := (m_r9 _ (List.mem_of_getElem? (i := 16) rfl))
theorem wd_native_arraycopyName : Cond.native arraycopyName ∈ wsL_law := (m_r9 _ (List.mem_of_getElem? (i := 17) rfl))
theorem wd_static_arraycopyName : Cond.static arraycopyName ∈ wsL_law := (m_r9 _ (List.mem_of_getElem? (i := 18) rfl))
theorem wd_initialized_java_lang_System : Cond.initialized "java/lang/System" ∈ wsL_law := (m_r9 _ (List.mem_of_getElem? (i := 19) rfl))
