section
-- ===== PART A: goes FIRST, ahead of the names: the tables' words, and 'selects' of the private methods out of them =====
/-- a private method of a class that the tables say can be made, by its rows of tables_1 -/
def lw_okq (q : MethodName × Nat) : Prop := (q.1.cls ≠ "java/lang/invoke/MethodHandle" ∧ q.1.cls ≠ "java/lang/invoke/VarHandle") ∧ Cond.instantiable q.1.cls q.2 ∈ tables_1 ∧ Cond.privateMethod q.1 ∈ tables_1 ∧ Cond.instanceMethod q.1 ∈ tables_1
theorem lw_p0 : lw_okq (⟨"java/lang/Throwable", "fillInStackTrace", "(I)Ljava/lang/Throwable;"⟩, 6) := ⟨⟨by decide +kernel, by decide +kernel⟩, List.mem_of_getElem? (i := 278) (by decide +kernel), List.mem_of_getElem? (i := 276) (by decide +kernel), List.mem_of_getElem? (i := 277) (by decide +kernel)⟩
theorem lw_p1 : lw_okq (⟨"HoseTests", "requireHose", "(I)V"⟩, 5) := ⟨⟨by decide +kernel, by decide +kernel⟩, List.mem_of_getElem? (i := 17) (by decide +kernel), List.mem_of_getElem? (i := 332) (by decide +kernel), List.mem_of_getElem? (i := 333) (by decide +kernel)⟩
theorem lw_p2 : lw_okq (⟨"HoseTests", "saveState", "()V"⟩, 5) := ⟨⟨by decide +kernel, by decide +kernel⟩, List.mem_of_getElem? (i := 17) (by decide +kernel), List.mem_of_getElem? (i := 460) (by decide +kernel), List.mem_of_getElem? (i := 461) (by decide +kernel)⟩
theorem lw_p3 : lw_okq (⟨"HoseTests", "requireAtHand", "(I)V"⟩, 5) := ⟨⟨by decide +kernel, by decide +kernel⟩, List.mem_of_getElem? (i := 17) (by decide +kernel), List.mem_of_getElem? (i := 483) (by decide +kernel), List.mem_of_getElem? (i := 484) (by decide +kernel)⟩
theorem lw_p4 : lw_okq (⟨"HoseTests$Station", "takeBackLent", "()V"⟩, 17) := ⟨⟨by decide +kernel, by decide +kernel⟩, List.mem_of_getElem? (i := 25) (by decide +kernel), List.mem_of_getElem? (i := 568) (by decide +kernel), List.mem_of_getElem? (i := 569) (by decide +kernel)⟩
theorem lw_p5 : lw_okq (⟨"HoseTests$Station", "wearOnTrucks", "()V"⟩, 17) := ⟨⟨by decide +kernel, by decide +kernel⟩, List.mem_of_getElem? (i := 25) (by decide +kernel), List.mem_of_getElem? (i := 572) (by decide +kernel), List.mem_of_getElem? (i := 573) (by decide +kernel)⟩
theorem lw_p6 : lw_okq (⟨"HoseTests", "buyParts", "()I"⟩, 5) := ⟨⟨by decide +kernel, by decide +kernel⟩, List.mem_of_getElem? (i := 17) (by decide +kernel), List.mem_of_getElem? (i := 610) (by decide +kernel), List.mem_of_getElem? (i := 611) (by decide +kernel)⟩
theorem lw_p7 : lw_okq (⟨"HoseTestsModel", "fails", "(I)I"⟩, 14) := ⟨⟨by decide +kernel, by decide +kernel⟩, List.mem_of_getElem? (i := 656) (by decide +kernel), List.mem_of_getElem? (i := 713) (by decide +kernel), List.mem_of_getElem? (i := 714) (by decide +kernel)⟩
theorem lw_p8 : lw_okq (⟨"HoseTestsModel", "mayBuy", "(II)Z"⟩, 14) := ⟨⟨by decide +kernel, by decide +kernel⟩, List.mem_of_getElem? (i := 656) (by decide +kernel), List.mem_of_getElem? (i := 724) (by decide +kernel), List.mem_of_getElem? (i := 725) (by decide +kernel)⟩
theorem lw_p9 : lw_okq (⟨"HoseTestsModel", "saves", "()V"⟩, 14) := ⟨⟨by decide +kernel, by decide +kernel⟩, List.mem_of_getElem? (i := 656) (by decide +kernel), List.mem_of_getElem? (i := 731) (by decide +kernel), List.mem_of_getElem? (i := 732) (by decide +kernel)⟩
theorem lw_p10 : lw_okq (⟨"HoseTestsModel", "buys", "(IIII)I"⟩, 14) := ⟨⟨by decide +kernel, by decide +kernel⟩, List.mem_of_getElem? (i := 656) (by decide +kernel), List.mem_of_getElem? (i := 735) (by decide +kernel), List.mem_of_getElem? (i := 736) (by decide +kernel)⟩
theorem lw_p11 : lw_okq (⟨"HoseTestsModel", "isHose", "(I)Z"⟩, 14) := ⟨⟨by decide +kernel, by decide +kernel⟩, List.mem_of_getElem? (i := 656) (by decide +kernel), List.mem_of_getElem? (i := 743) (by decide +kernel), List.mem_of_getElem? (i := 744) (by decide +kernel)⟩
theorem lw_p12 : lw_okq (⟨"HoseTestsModel", "isHere", "(I)Z"⟩, 14) := ⟨⟨by decide +kernel, by decide +kernel⟩, List.mem_of_getElem? (i := 656) (by decide +kernel), List.mem_of_getElem? (i := 747) (by decide +kernel), List.mem_of_getElem? (i := 748) (by decide +kernel)⟩
theorem lw_p13 : lw_okq (⟨"HoseTestsModel", "of", "(II)I"⟩, 14) := ⟨⟨by decide +kernel, by decide +kernel⟩, List.mem_of_getElem? (i := 656) (by decide +kernel), List.mem_of_getElem? (i := 751) (by decide +kernel), List.mem_of_getElem? (i := 752) (by decide +kernel)⟩
theorem lw_p14 : lw_okq (⟨"HoseTestsModel", "changes", "(II)I"⟩, 14) := ⟨⟨by decide +kernel, by decide +kernel⟩, List.mem_of_getElem? (i := 656) (by decide +kernel), List.mem_of_getElem? (i := 755) (by decide +kernel), List.mem_of_getElem? (i := 756) (by decide +kernel)⟩
theorem lw_p15 : lw_okq (⟨"HoseTestsModel", "isReady", "(I)Z"⟩, 14) := ⟨⟨by decide +kernel, by decide +kernel⟩, List.mem_of_getElem? (i := 656) (by decide +kernel), List.mem_of_getElem? (i := 767) (by decide +kernel), List.mem_of_getElem? (i := 768) (by decide +kernel)⟩
def lw_privs_1 : List (MethodName × Nat) := [(⟨"java/lang/Throwable", "fillInStackTrace", "(I)Ljava/lang/Throwable;"⟩, 6), (⟨"HoseTests", "requireHose", "(I)V"⟩, 5), (⟨"HoseTests", "saveState", "()V"⟩, 5), (⟨"HoseTests", "requireAtHand", "(I)V"⟩, 5), (⟨"HoseTests$Station", "takeBackLent", "()V"⟩, 17), (⟨"HoseTests$Station", "wearOnTrucks", "()V"⟩, 17), (⟨"HoseTests", "buyParts", "()I"⟩, 5), (⟨"HoseTestsModel", "fails", "(I)I"⟩, 14), (⟨"HoseTestsModel", "mayBuy", "(II)Z"⟩, 14), (⟨"HoseTestsModel", "saves", "()V"⟩, 14), (⟨"HoseTestsModel", "buys", "(IIII)I"⟩, 14), (⟨"HoseTestsModel", "isHose", "(I)Z"⟩, 14), (⟨"HoseTestsModel", "isHere", "(I)Z"⟩, 14), (⟨"HoseTestsModel", "of", "(II)I"⟩, 14), (⟨"HoseTestsModel", "changes", "(II)I"⟩, 14), (⟨"HoseTestsModel", "isReady", "(I)Z"⟩, 14)]
theorem lw_r1 : ∀ q ∈ lw_privs_1, lw_okq q := List.forall_mem_cons.mpr ⟨lw_p0, List.forall_mem_cons.mpr ⟨lw_p1, List.forall_mem_cons.mpr ⟨lw_p2, List.forall_mem_cons.mpr ⟨lw_p3, List.forall_mem_cons.mpr ⟨lw_p4, List.forall_mem_cons.mpr ⟨lw_p5, List.forall_mem_cons.mpr ⟨lw_p6, List.forall_mem_cons.mpr ⟨lw_p7, List.forall_mem_cons.mpr ⟨lw_p8, List.forall_mem_cons.mpr ⟨lw_p9, List.forall_mem_cons.mpr ⟨lw_p10, List.forall_mem_cons.mpr ⟨lw_p11, List.forall_mem_cons.mpr ⟨lw_p12, List.forall_mem_cons.mpr ⟨lw_p13, List.forall_mem_cons.mpr ⟨lw_p14, List.forall_mem_cons.mpr ⟨lw_p15, fun _ h => absurd h List.not_mem_nil⟩⟩⟩⟩⟩⟩⟩⟩⟩⟩⟩⟩⟩⟩⟩⟩
theorem lw_p16 : lw_okq (⟨"HoseTestsModel", "reason", "(I)I"⟩, 14) := ⟨⟨by decide +kernel, by decide +kernel⟩, List.mem_of_getElem? (i := 656) (by decide +kernel), List.mem_of_getElem? (i := 771) (by decide +kernel), List.mem_of_getElem? (i := 772) (by decide +kernel)⟩
theorem lw_p17 : lw_okq (⟨"HoseTestsModel", "tries", "(II)I"⟩, 14) := ⟨⟨by decide +kernel, by decide +kernel⟩, List.mem_of_getElem? (i := 656) (by decide +kernel), List.mem_of_getElem? (i := 782) (by decide +kernel), List.mem_of_getElem? (i := 783) (by decide +kernel)⟩
theorem lw_p18 : lw_okq (⟨"HoseTestsModel", "strength", "(II)I"⟩, 14) := ⟨⟨by decide +kernel, by decide +kernel⟩, List.mem_of_getElem? (i := 656) (by decide +kernel), List.mem_of_getElem? (i := 786) (by decide +kernel), List.mem_of_getElem? (i := 787) (by decide +kernel)⟩
theorem lw_p19 : lw_okq (⟨"HoseTestsModel", "day", "()V"⟩, 14) := ⟨⟨by decide +kernel, by decide +kernel⟩, List.mem_of_getElem? (i := 656) (by decide +kernel), List.mem_of_getElem? (i := 808) (by decide +kernel), List.mem_of_getElem? (i := 809) (by decide +kernel)⟩
theorem lw_p20 : lw_okq (⟨"HoseTestsModel", "isText", "()Z"⟩, 14) := ⟨⟨by decide +kernel, by decide +kernel⟩, List.mem_of_getElem? (i := 656) (by decide +kernel), List.mem_of_getElem? (i := 824) (by decide +kernel), List.mem_of_getElem? (i := 825) (by decide +kernel)⟩
theorem lw_p21 : lw_okq (⟨"HoseTestsModel", "isPart", "()Z"⟩, 14) := ⟨⟨by decide +kernel, by decide +kernel⟩, List.mem_of_getElem? (i := 656) (by decide +kernel), List.mem_of_getElem? (i := 828) (by decide +kernel), List.mem_of_getElem? (i := 829) (by decide +kernel)⟩
theorem lw_p22 : lw_okq (⟨"HoseTestsModel", "stops", "()Z"⟩, 14) := ⟨⟨by decide +kernel, by decide +kernel⟩, List.mem_of_getElem? (i := 656) (by decide +kernel), List.mem_of_getElem? (i := 832) (by decide +kernel), List.mem_of_getElem? (i := 833) (by decide +kernel)⟩
theorem lw_p23 : lw_okq (⟨"HoseTestsModel", "isLength", "()Z"⟩, 14) := ⟨⟨by decide +kernel, by decide +kernel⟩, List.mem_of_getElem? (i := 656) (by decide +kernel), List.mem_of_getElem? (i := 836) (by decide +kernel), List.mem_of_getElem? (i := 837) (by decide +kernel)⟩
theorem lw_p24 : lw_okq (⟨"HoseTestsModel", "isAt", "(II)Z"⟩, 14) := ⟨⟨by decide +kernel, by decide +kernel⟩, List.mem_of_getElem? (i := 656) (by decide +kernel), List.mem_of_getElem? (i := 840) (by decide +kernel), List.mem_of_getElem? (i := 841) (by decide +kernel)⟩
theorem lw_p25 : lw_okq (⟨"HoseTestsModel", "ofHose", "(II)I"⟩, 14) := ⟨⟨by decide +kernel, by decide +kernel⟩, List.mem_of_getElem? (i := 656) (by decide +kernel), List.mem_of_getElem? (i := 852) (by decide +kernel), List.mem_of_getElem? (i := 853) (by decide +kernel)⟩
theorem lw_p26 : lw_okq (⟨"HoseTestsModel", "ofTruck", "(II)I"⟩, 14) := ⟨⟨by decide +kernel, by decide +kernel⟩, List.mem_of_getElem? (i := 656) (by decide +kernel), List.mem_of_getElem? (i := 860) (by decide +kernel), List.mem_of_getElem? (i := 861) (by decide +kernel)⟩
theorem lw_p27 : lw_okq (⟨"HoseTestsModel", "isWhole", "(II)Z"⟩, 14) := ⟨⟨by decide +kernel, by decide +kernel⟩, List.mem_of_getElem? (i := 656) (by decide +kernel), List.mem_of_getElem? (i := 864) (by decide +kernel), List.mem_of_getElem? (i := 865) (by decide +kernel)⟩
theorem lw_p28 : lw_okq (⟨"HoseTestsModel", "lays", "(II)V"⟩, 14) := ⟨⟨by decide +kernel, by decide +kernel⟩, List.mem_of_getElem? (i := 656) (by decide +kernel), List.mem_of_getElem? (i := 868) (by decide +kernel), List.mem_of_getElem? (i := 869) (by decide +kernel)⟩
theorem lw_p29 : lw_okq (⟨"HoseTestsModel", "on", "(IZ)I"⟩, 14) := ⟨⟨by decide +kernel, by decide +kernel⟩, List.mem_of_getElem? (i := 656) (by decide +kernel), List.mem_of_getElem? (i := 872) (by decide +kernel), List.mem_of_getElem? (i := 873) (by decide +kernel)⟩
theorem lw_p30 : lw_okq (⟨"HoseTestsModel", "counted", "(I)I"⟩, 14) := ⟨⟨by decide +kernel, by decide +kernel⟩, List.mem_of_getElem? (i := 656) (by decide +kernel), List.mem_of_getElem? (i := 880) (by decide +kernel), List.mem_of_getElem? (i := 881) (by decide +kernel)⟩
theorem lw_p31 : lw_okq (⟨"HoseTestsModel", "having", "(I)I"⟩, 14) := ⟨⟨by decide +kernel, by decide +kernel⟩, List.mem_of_getElem? (i := 656) (by decide +kernel), List.mem_of_getElem? (i := 884) (by decide +kernel), List.mem_of_getElem? (i := 885) (by decide +kernel)⟩
def lw_privs_2 : List (MethodName × Nat) := [(⟨"HoseTestsModel", "reason", "(I)I"⟩, 14), (⟨"HoseTestsModel", "tries", "(II)I"⟩, 14), (⟨"HoseTestsModel", "strength", "(II)I"⟩, 14), (⟨"HoseTestsModel", "day", "()V"⟩, 14), (⟨"HoseTestsModel", "isText", "()Z"⟩, 14), (⟨"HoseTestsModel", "isPart", "()Z"⟩, 14), (⟨"HoseTestsModel", "stops", "()Z"⟩, 14), (⟨"HoseTestsModel", "isLength", "()Z"⟩, 14), (⟨"HoseTestsModel", "isAt", "(II)Z"⟩, 14), (⟨"HoseTestsModel", "ofHose", "(II)I"⟩, 14), (⟨"HoseTestsModel", "ofTruck", "(II)I"⟩, 14), (⟨"HoseTestsModel", "isWhole", "(II)Z"⟩, 14), (⟨"HoseTestsModel", "lays", "(II)V"⟩, 14), (⟨"HoseTestsModel", "on", "(IZ)I"⟩, 14), (⟨"HoseTestsModel", "counted", "(I)I"⟩, 14), (⟨"HoseTestsModel", "having", "(I)I"⟩, 14)]
theorem lw_r2 : ∀ q ∈ lw_privs_2, lw_okq q := List.forall_mem_cons.mpr ⟨lw_p16, List.forall_mem_cons.mpr ⟨lw_p17, List.forall_mem_cons.mpr ⟨lw_p18, List.forall_mem_cons.mpr ⟨lw_p19, List.forall_mem_cons.mpr ⟨lw_p20, List.forall_mem_cons.mpr ⟨lw_p21, List.forall_mem_cons.mpr ⟨lw_p22, List.forall_mem_cons.mpr ⟨lw_p23, List.forall_mem_cons.mpr ⟨lw_p24, List.forall_mem_cons.mpr ⟨lw_p25, List.forall_mem_cons.mpr ⟨lw_p26, List.forall_mem_cons.mpr ⟨lw_p27, List.forall_mem_cons.mpr ⟨lw_p28, List.forall_mem_cons.mpr ⟨lw_p29, List.forall_mem_cons.mpr ⟨lw_p30, List.forall_mem_cons.mpr ⟨lw_p31, fun _ h => absurd h List.not_mem_nil⟩⟩⟩⟩⟩⟩⟩⟩⟩⟩⟩⟩⟩⟩⟩⟩
theorem lw_p32 : lw_okq (⟨"HoseTestsModel", "tried", "(II)I"⟩, 14) := ⟨⟨by decide +kernel, by decide +kernel⟩, List.mem_of_getElem? (i := 656) (by decide +kernel), List.mem_of_getElem? (i := 896) (by decide +kernel), List.mem_of_getElem? (i := 897) (by decide +kernel)⟩
theorem lw_p33 : lw_okq (⟨"HoseTestsModel", "greatest", "(I)I"⟩, 14) := ⟨⟨by decide +kernel, by decide +kernel⟩, List.mem_of_getElem? (i := 656) (by decide +kernel), List.mem_of_getElem? (i := 904) (by decide +kernel), List.mem_of_getElem? (i := 905) (by decide +kernel)⟩
theorem lw_p34 : lw_okq (⟨"HoseTestsModel", "lapses", "()I"⟩, 14) := ⟨⟨by decide +kernel, by decide +kernel⟩, List.mem_of_getElem? (i := 656) (by decide +kernel), List.mem_of_getElem? (i := 912) (by decide +kernel), List.mem_of_getElem? (i := 913) (by decide +kernel)⟩
theorem lw_p35 : lw_okq (⟨"HoseTestsModel", "cheapest", "(I)I"⟩, 14) := ⟨⟨by decide +kernel, by decide +kernel⟩, List.mem_of_getElem? (i := 656) (by decide +kernel), List.mem_of_getElem? (i := 920) (by decide +kernel), List.mem_of_getElem? (i := 921) (by decide +kernel)⟩
theorem lw_p36 : lw_okq (⟨"HoseTestsModel", "share", "()D"⟩, 14) := ⟨⟨by decide +kernel, by decide +kernel⟩, List.mem_of_getElem? (i := 656) (by decide +kernel), List.mem_of_getElem? (i := 928) (by decide +kernel), List.mem_of_getElem? (i := 929) (by decide +kernel)⟩
def lw_privs_3 : List (MethodName × Nat) := [(⟨"HoseTestsModel", "tried", "(II)I"⟩, 14), (⟨"HoseTestsModel", "greatest", "(I)I"⟩, 14), (⟨"HoseTestsModel", "lapses", "()I"⟩, 14), (⟨"HoseTestsModel", "cheapest", "(I)I"⟩, 14), (⟨"HoseTestsModel", "share", "()D"⟩, 14)]
theorem lw_r3 : ∀ q ∈ lw_privs_3, lw_okq q := List.forall_mem_cons.mpr ⟨lw_p32, List.forall_mem_cons.mpr ⟨lw_p33, List.forall_mem_cons.mpr ⟨lw_p34, List.forall_mem_cons.mpr ⟨lw_p35, List.forall_mem_cons.mpr ⟨lw_p36, fun _ h => absurd h List.not_mem_nil⟩⟩⟩⟩⟩
def lw_privs : List (MethodName × Nat) := lw_privs_1 ++ (lw_privs_2 ++ (lw_privs_3))
def lw_tbl : List Cond := k2_sels lw_privs ++ tables_1
theorem lw_privs_ok : ∀ q ∈ lw_privs, lw_okq q := by
  show ∀ q ∈ lw_privs_1 ++ (lw_privs_2 ++ (lw_privs_3)), lw_okq q
  exact List.forall_mem_append.mpr ⟨lw_r1, List.forall_mem_append.mpr ⟨lw_r2, lw_r3⟩⟩
/-- the streams that the claim lets the run draw from -/
abbrev lw_cs : List Choice := [Jvm.Choice.named "NaN.bits"]
theorem lw_bits : nanBits ∈ lw_cs := by first | decide | exact List.mem_cons_self | simp [lw_cs, nanBits]
end
section
/-! ===== BEGIN words of one list among another's, by their places ===== -/
theorem goodIn_r {big : List Cond} (ws : List Cond) (ps : List Nat) (hp : ws = ps.filterMap (fun i => big[i]?)) (h : ws.all goodWord = true) : GoodIn big ws := by
  intro w hw
  have h1 := List.all_eq_true.mp h w hw
  rw [hp] at hw
  obtain ⟨i, -, hi⟩ := List.mem_filterMap.mp hw
  have hm : w ∈ big := by first | exact List.mem_of_getElem? hi | exact List.getElem?_mem hi
  exact ⟨hm, good_of_word h1⟩
theorem goodIn_app {big a b : List Cond} (ha : GoodIn big a) (hb : GoodIn big b) : GoodIn big (a ++ b) := fun w h => (List.mem_append.mp h).elim (ha w) (hb w)
theorem goodIn_ca {big a b : List Cond} {c : Cond} (ha : GoodIn big (c :: a)) (hb : GoodIn big b) : GoodIn big (c :: (a ++ b)) := fun w h => (List.mem_cons.mp h).elim (fun e => ha w (List.mem_cons.mpr (Or.inl e))) (fun h => (List.mem_append.mp h).elim (fun h => ha w (List.mem_cons.mpr (Or.inr h))) (hb w))
theorem goodIn_sub {big ws : List Cond} (hm : ∀ w ∈ ws, w ∈ big) (h : ws.all goodWord = true) : GoodIn big ws := fun w hw => ⟨hm w hw, good_of_word (List.all_eq_true.mp h w hw)⟩
/-! ===== END ===== -/

/-! ===== BEGIN exceptions that leave a method, and their catching by the caller (launches without stack traces) ===== -/
section VXA
/-! The laws vx_back, vx_callV, vx_callS, vx_callSW, vx_throw0, vx_throwS follow proofs of the library, with one case more: JvmDerived/Free/Laws.lean (Back.of_free), Shelf42/LK1.lean (callV, callS), Shelf/KitTraced.lean (throwNew0V, throwNewS). -/
/-- where a method has thrown q: the class by its name, the cell, what was written, the world -/
def vx_T (XC : String → State → State → Prop) (st : State) (q : Addr) (t : State) (mc ms : Nat) (free : Addr → Prop) : Prop :=
  ∃ (E : String) (ce : Cell) (L : List Loc), XC E st t ∧ t.heap[q]? = some ce ∧ ce.vm = .none ∧ st.vm.findClass E = some ce.cls ∧ st.WarmedH t.vm ∧ st.sameButNew ({ t with vm := st.vm } : State) L mc ms ∧ ∀ z ∈ L, free z.base
def vx_Q (Qc : Array Value → State → Outcome → State → Prop) (XC : String → State → State → Prop) (mc ms : Nat) (free : Addr → Prop) : Array Value → State → Outcome → State → Prop := fun a st o t =>
  (Qc a st o t ∧ ∃ L, FrameEnd st o t L mc ms ∧ ∀ q ∈ L, free q.base) ∨ ∃ q, o = .threw q ∧ vx_T XC st q t mc ms free
/-- a callee that returns or throws -/
def vx_Met (l : Launch) (y : MethodName) (ws : List Cond) (rm : Room) (Pc : Array Value → State → Prop) (Qc : Array Value → State → Outcome → State → Prop) (XC : String → State → State → Prop) (mc ms : Nat) (free : Addr → Prop) : Prop :=
  MetFree l y (headSpec ws rm) Pc (fun _ _ _ _ _ => True) (vx_Q Qc XC mc ms free)
def vx_Post (XC : String → State → State → Prop) (mc ms : Nat) (free : Addr → Prop) : Pt → Array Value → Addr → Pt → Prop := fun A a q B =>
  ∃ (g : JFrame) (mk : MethodId) (t : State) (L : List Loc) (E : String) (ce : Cell), B.U.heap = t.heap ∧ B.U.vm = t.vm ∧ XC E (A.U.calling g mk a) t ∧ t.heap[q]? = some ce ∧ ce.vm = .none ∧ A.U.vm.findClass E = some ce.cls ∧ B.locs = A.locs ++ L ∧ (∀ z ∈ L, free z.base) ∧ B.cells = A.cells + mc ∧ B.slots = A.slots + ms
def vx_Back (l : Launch) (R : Room) (p : Program) (e : Env) (below : List Frame) (s : State) (sargs : Array Value) (y : MethodName) (len W9 : Nat)
    (Pre : Pt → Array Value → Prop) (Post : Pt → Array Value → Option Value → Pt → Prop) (PostX : Pt → Array Value → Addr → Pt → Prop) : Prop :=
  ∀ (m : MethodId) (meth : Method) (c : Code) (A : Pt) (g : JFrame) (ig : Instr) (mk : MethodId) (a : Array Value),
    Stand p l e R s m sargs below meth c A.U A.locs A.cells A.slots → g.method = m → g.locals.size = c.maxLocals → decode c.code g.pc = .ok (ig, len) →
    2 * g.monitorRoom + (g.stack.map fun v => v.category).sum ≤ W9 → A.U.methodNamed? y = some mk → Pre A a →
    (∃ (v : Option Value) (B : Pt), Stand p l e R s m sargs below meth c B.U B.locs B.cells B.slots ∧ Post A a v B ∧
      Steps p.tables e below (doInvoke e (A.U.setTop g) [] mk a).1 (B.U.setTop { g with pc := g.pc + len, stack := v.toList ++ g.stack })) ∨
    (∃ (q : Addr) (B : Pt), Stand p l e R s m sargs below meth c B.U B.locs B.cells B.slots ∧ PostX A a q B ∧
      Steps p.tables e below (doInvoke e (A.U.setTop g) [] mk a).1 ((B.U.setTop g).pushFrame (.throwing q)))
section Payer
variable {l : Launch} {R : Room} {p : Program} {e : Env} {below : List Frame} {s : State} {sargs : Array Value} {y : MethodName} {len W9 : Nat}
theorem vx_back {ws : List Cond} {rm : Room} {Pc : Array Value → State → Prop} {Qc : Array Value → State → Outcome → State → Prop} {XC : String → State → State → Prop} {mc ms : Nat} {free : Addr → Prop} {bytes : ByteArray} {maxL : Nat} {ret : Option FieldType}
    (hM : vx_Met l y ws rm Pc Qc XC mc ms free) (hblind : FrameBlind Pc) (hrc : rm.cells = mc) (hrs : rm.slots = ms)
    (hframes : rm.frames + 1 ≤ R.frames) (hlocals : W9 + (maxL + 11) + rm.locals ≤ R.locals)
    (hws : ∀ w ∈ ws, ∀ a' U, s.WarmedH U.vm → w.before a' U = true) (hcode : Cond.code y bytes maxL ret ∈ ws) (hinit : ∀ a' U, s.WarmedH U.vm → (Cond.initialized y.cls).before a' U = true) :
    vx_Back l R p e below s sargs y len W9 (PreOf R mc ms Pc) (PostOf Qc mc ms free) (vx_Post XC mc ms free) := by
  intro m meth c A g ig mk a X hg hsize hdg hW hn hp
  have h1 : (headSpec ws rm).pre.before a A.U = true := atoms_intro fun w hw => hws w hw _ _ X.warmed
  have h2 : (Cond.code y bytes maxL ret).before a A.U = true := hws _ hcode _ _ X.warmed
  have h3 : (Cond.initialized y.cls).before a A.U = true := hinit _ _ X.warmed
  have h4 : A.cells + (headSpec ws rm).room.cells ≤ R.cells := by rw [show (headSpec ws rm).room.cells = mc from hrc]; exact hp.1
  have h5 : A.slots + (headSpec ws rm).room.slots ≤ R.slots := by rw [show (headSpec ws rm).room.slots = ms from hrs]; exact hp.2.1
  have hPc : Pc a (A.U.calling g mk a) := hblind _ _ _ _ hp.2.2
  obtain ⟨U, Ls, c0, s0⟩ := A
  dsimp only [Pt.U, Pt.locs, Pt.cells, Pt.slots] at h1 h2 h3 h4 h5 X hn hPc ⊢
  obtain ⟨methY, cY, hmY, hcY, -, hlY, -, -, -, -⟩ := Cond.code_spec hn h2
  obtain ⟨kY, hkY, -⟩ := className_of_methodNamed hn
  have hinitY : kY.init = .initialized := Cond.initialized_spec (findClass_of_methodNamed hn) hkY h3
  have h : At U g.method c below := by rw [hg]; exact X.here
  have hlocals9 : W9 + (maxL + 11) + (headSpec ws rm).room.locals ≤ R.locals := hlocals
  have happ : (headSpec ws rm).appliesLoose y e.platform (U.calling g mk a) = true :=
    Spec.appliesLoose_calling (g := g) h hdg hn hkY hinitY
      (X.room_calling (g := g) (R' := (headSpec ws rm).room) hsize hmY hcY hframes (by rw [hlY]; omega) h4 h5) h1
  obtain ⟨mid, hmid⟩ := h.above
  have hfr : (U.setTop g).frames = (.java g :: mid) ++ below := by rw [State.frames_setTop' g h.top, hmid]; rfl
  obtain ⟨o, s₂, hsteps, -, hend, hq⟩ := Steps.callFree hM p X.admits X.cas X.clock (acts := []) hfr happ hPc trivial
  have hq' : vx_Q Qc XC mc ms free a (U.calling g mk a) o s₂ := hq
  rw [State.frames_setTop' g h.top] at hend
  obtain ⟨g₀, hg0⟩ := Option.isSome_iff_exists.mp h.top
  obtain ⟨r, hr⟩ := State.topJava?_eq_some.mp hg0
  have hr' : (({ U with heap := s₂.heap, slotsUsed := s₂.slotsUsed } : State).setVm s₂.vm).frames = .java g₀ :: r := hr
  rcases hq' with ⟨hqc, L, hfe, hL⟩ | ⟨q, rfl, E, ce, L, hx, hce, hcv, hcl, hW₂, hsm, hL⟩
  · obtain ⟨⟨v, rfl⟩, hW₂, e2, q2, q3, q4, q5, q6⟩ := id hfe
    have e3 : s₂ = ({ (U.calling g mk a).setFrames s₂.frames with heap := s₂.heap, slotsUsed := s₂.slotsUsed } : State).setVm s₂.vm := by
      have : s₂ = ({ s₂ with vm := (U.calling g mk a).vm } : State).setVm s₂.vm := rfl
      rw [e2] at this
      exact this
    obtain ⟨c₂, i₂, len₂, hc₂, hd₂, hf₂⟩ := hend
    have hW' : U.WarmedH s₂.vm := hW₂
    have hcc : c₂ = c := by
      have h1 : s₂.code? g.method = U.code? g.method := by
        rw [State.code?_eq, State.code?_eq, hW'.alike.method?]
      exact Option.some.inj (hc₂.symm.trans (h1.trans h.code))
    subst hcc
    have hlen : len₂ = len := by rw [hdg] at hd₂; cases hd₂; rfl
    subst hlen
    have hs₂ : s₂ = (({ U with heap := s₂.heap, slotsUsed := s₂.slotsUsed } : State).setVm s₂.vm).setTop { g with pc := g.pc + len₂, stack := v.toList ++ g.stack } := by
      refine e3.trans ?_
      rw [hf₂, State.calling_eq h.top, State.setFrames_setFrames, State.setTop_of_frames _ hr', hr]
      rfl
    have hsame : U.sameButNew ({ U with heap := s₂.heap, slotsUsed := s₂.slotsUsed } : State) L mc ms := by
      refine ⟨?_, q2, q3, q4, q5, q6⟩
      obtain ⟨t, ht, -⟩ := State.frames_cons hr
      show ({ U with heap := s₂.heap, slotsUsed := s₂.slotsUsed } : State) = { U.setFrames U.frames with heap := s₂.heap, slotsUsed := s₂.slotsUsed }
      rw [State.setFrames_self ht]
    subst hg
    refine Or.inl ⟨v, ⟨(({ U with heap := s₂.heap, slotsUsed := s₂.slotsUsed } : State).setVm s₂.vm), Ls ++ L, c0 + mc, s0 + ms⟩,
      ⟨X.admits, X.cas, X.clock, X.frames, X.room, X.hears, X.method, X.code, (X.here.setHeapUsed s₂.heap s₂.slotsUsed).setVm hW'.alike, X.tail, State.WarmedH.trans X.warmed hW', X.limits, X.bytes, X.same.trans (hsame.setVm s.vm)⟩,
      ⟨g, mk, s₂, L, rfl, rfl, hqc, rfl, hL, rfl, rfl⟩, ?_⟩
    show Steps p.tables e below _ ((({ U with heap := s₂.heap, slotsUsed := s₂.slotsUsed } : State).setVm s₂.vm).setTop { g with pc := g.pc + len₂, stack := v.toList ++ g.stack })
    rw [← hs₂]
    exact hsteps
  · obtain ⟨e2, q2, q3, q4, q5, q6⟩ := id hsm
    have e3 : s₂ = ({ (U.calling g mk a).setFrames s₂.frames with heap := s₂.heap, slotsUsed := s₂.slotsUsed } : State).setVm s₂.vm := by
      have : s₂ = ({ s₂ with vm := (U.calling g mk a).vm } : State).setVm s₂.vm := rfl
      rw [e2] at this
      exact this
    have hf₂ : s₂.frames = .throwing q :: .java g :: U.frames.tail := hend
    have hW' : U.WarmedH s₂.vm := hW₂
    have hs₂ : s₂ = ((({ U with heap := s₂.heap, slotsUsed := s₂.slotsUsed } : State).setVm s₂.vm).setTop g).pushFrame (.throwing q) := by
      refine e3.trans ?_
      rw [hf₂, State.calling_eq h.top, State.setFrames_setFrames, State.pushFrame, State.frames_setTop _ hr', State.setTop_of_frames _ hr', State.setFrames_setFrames, hr]
      rfl
    have hsame : U.sameButNew ({ U with heap := s₂.heap, slotsUsed := s₂.slotsUsed } : State) L mc ms := by
      refine ⟨?_, q2, q3, q4, q5, q6⟩
      obtain ⟨t, ht, -⟩ := State.frames_cons hr
      show ({ U with heap := s₂.heap, slotsUsed := s₂.slotsUsed } : State) = { U.setFrames U.frames with heap := s₂.heap, slotsUsed := s₂.slotsUsed }
      rw [State.setFrames_self ht]
    subst hg
    refine Or.inr ⟨q, ⟨(({ U with heap := s₂.heap, slotsUsed := s₂.slotsUsed } : State).setVm s₂.vm), Ls ++ L, c0 + mc, s0 + ms⟩,
      ⟨X.admits, X.cas, X.clock, X.frames, X.room, X.hears, X.method, X.code, (X.here.setHeapUsed s₂.heap s₂.slotsUsed).setVm hW'.alike, X.tail, State.WarmedH.trans X.warmed hW', X.limits, X.bytes, X.same.trans (hsame.setVm s.vm)⟩,
      ⟨g, mk, s₂, L, E, ce, rfl, rfl, hx, hce, hcv, hcl, rfl, hL, rfl, rfl⟩, ?_⟩
    show Steps p.tables e below _ (((({ U with heap := s₂.heap, slotsUsed := s₂.slotsUsed } : State).setVm s₂.vm).setTop g).pushFrame (.throwing q))
    rw [← hs₂]
    exact hsteps
end Payer
section Calls
variable {p : Program} {l : Launch} {e : Env} {R : Room} {s : State} {m : MethodId} {args : Array Value} {below : List Frame} {meth : Method} {c : Code} {T : State} {locs : List Loc} {cells slots : Nat}
theorem vx_callV (X : Stand p l e R s m args below meth c T locs cells slots) (hexec : p.tables.exec = Jvm.exec) {own C : String} {index : Nat} {y : MethodName} {bytes : ByteArray} {maxL : Nat} {ret : Option FieldType}
    (hown : s.vm.findClass own = some m.cls) (hlink : (Cond.methodLink own index y).before args s = true) (hinst : (Cond.instanceMethod y).before args s = true) (hsel : (Cond.selects C y y).before args s = true)
    (hcode : (Cond.code y bytes maxL ret).before args s = true) (hy : y.cls ≠ "java/lang/invoke/MethodHandle" ∧ y.cls ≠ "java/lang/invoke/VarHandle")
    {W9 : Nat} {Pre : Pt → Array Value → Prop} {Post : Pt → Array Value → Option Value → Pt → Prop} {PostX : Pt → Array Value → Addr → Pt → Prop} (hK : vx_Back l R p e below s args y 3 W9 Pre Post PostX)
    {b : Addr} {cellB : Cell} (hcell : T.heap[b]? = some cellB) (hobj : cellB.vm.isStatics = false) (hcls : s.vm.findClass C = some cellB.cls)
    {g : JFrame} (hg : g.method = m) (hsize : g.locals.size = c.maxLocals) {argsL rest : List Value} (hlen : ∀ sig, parseMethodDescriptor y.desc = some sig → argsL.length = sig.parameters.length)
    (hstack : g.stack = argsL.reverse ++ .ref b :: rest) (hW : 2 * g.monitorRoom + (rest.map fun v => v.category).sum ≤ W9) (hdg : decode c.code g.pc = .ok (.invokevirtual index, 3))
    (hpre : ∀ vm₁, s.WarmedH vm₁ → Pre ⟨T.setVm vm₁, locs, cells, slots⟩ (Value.ref b :: argsL).toArray) :
    (∃ (v : Option Value) (vm₁ : Vm) (B : Pt), s.WarmedH vm₁ ∧ Stand p l e R s m args below meth c B.U B.locs B.cells B.slots ∧ Post ⟨T.setVm vm₁, locs, cells, slots⟩ (Value.ref b :: argsL).toArray v B ∧
      ∀ target, Steps p.tables e below (B.U.setTop { g with pc := g.pc + 3, stack := v.toList ++ rest }) target → Steps p.tables e below (T.setTop g) target) ∨
    (∃ (q : Addr) (vm₁ : Vm) (B : Pt), s.WarmedH vm₁ ∧ Stand p l e R s m args below meth c B.U B.locs B.cells B.slots ∧ PostX ⟨T.setVm vm₁, locs, cells, slots⟩ (Value.ref b :: argsL).toArray q B ∧
      Steps p.tables e below (T.setTop g) ((B.U.setTop { g with stack := rest }).pushFrame (.throwing q))) := by
  obtain ⟨mk, methM, hnamed, hmethM, hstM, habM⟩ := Cond.instanceMethod_spec hinst
  obtain ⟨methM', cM, hmethM', -, -, -, -, -, -, hsigM⟩ := Cond.code_spec hnamed hcode
  cases hmethM.symm.trans hmethM'
  obtain ⟨c2, r2, m2, q1, q2, q3, q4, kP, hkP, hkPi⟩ := Cond.selects_spec hsel
  cases hcls.symm.trans q1
  cases (State.methodFound?_of_named hnamed hy).symm.trans q2
  cases hnamed.symm.trans q3
  have hselP : selectMethod e.platform s.vm cellB.cls mk = .method mk := by rw [Launch.admits_selectMethod X.admits]; exact q4
  obtain ⟨vm₁, X₁, hstep₁⟩ := X.invokevirtual hexec hown hlink hnamed hmethM hstM hkP hkPi hy (a := b) (cell := cellB) hcell
    (fun z h => by rw [h] at hobj; cases hobj) hselP hmethM habM hkP hkPi (g := g) hg (argsL := argsL) (rest := rest) (hlen _ hsigM) hstack hdg
  rcases hK m meth c ⟨T.setVm vm₁, locs, cells, slots⟩ { g with stack := rest } (.invokevirtual index) mk (Value.ref b :: argsL).toArray X₁ hg hsize hdg hW (X₁.named hnamed) (hpre vm₁ X₁.warmed) with ⟨v, B, X', hpost, hsteps⟩ | ⟨q, B, X', hpost, hsteps⟩
  · exact Or.inl ⟨v, vm₁, B, X₁.warmed, X', hpost, fun target h => hstep₁ _ fun acts => by rw [doInvoke_state]; exact hsteps.trans h⟩
  · exact Or.inr ⟨q, vm₁, B, X₁.warmed, X', hpost, hstep₁ _ fun acts => by rw [doInvoke_state]; exact hsteps⟩
theorem vx_callS (X : Stand p l e R s m args below meth c T locs cells slots) (hexec : p.tables.exec = Jvm.exec) {own : String} {index : Nat} {y : MethodName} {bytes : ByteArray} {maxL : Nat} {ret : Option FieldType}
    (hown : s.vm.findClass own = some m.cls) (hlink : (Cond.methodLink own index y).before args s = true) (hstat : (Cond.static y).before args s = true) (hinit : (Cond.initialized y.cls).before args s = true)
    (hcode : (Cond.code y bytes maxL ret).before args s = true) (hy : y.cls ≠ "java/lang/invoke/MethodHandle" ∧ y.cls ≠ "java/lang/invoke/VarHandle")
    {W9 : Nat} {Pre : Pt → Array Value → Prop} {Post : Pt → Array Value → Option Value → Pt → Prop} {PostX : Pt → Array Value → Addr → Pt → Prop} (hK : vx_Back l R p e below s args y 3 W9 Pre Post PostX)
    {g : JFrame} (hg : g.method = m) (hsize : g.locals.size = c.maxLocals) {argsL rest : List Value} (hlen : ∀ sig, parseMethodDescriptor y.desc = some sig → argsL.length = sig.parameters.length)
    (hstack : g.stack = argsL.reverse ++ rest) (hW : 2 * g.monitorRoom + (rest.map fun v => v.category).sum ≤ W9) (hdg : decode c.code g.pc = .ok (.invokestatic index, 3))
    (hpre : ∀ vm₁, s.WarmedH vm₁ → Pre ⟨T.setVm vm₁, locs, cells, slots⟩ argsL.toArray) :
    (∃ (v : Option Value) (vm₁ : Vm) (B : Pt), s.WarmedH vm₁ ∧ Stand p l e R s m args below meth c B.U B.locs B.cells B.slots ∧ Post ⟨T.setVm vm₁, locs, cells, slots⟩ argsL.toArray v B ∧
      ∀ target, Steps p.tables e below (B.U.setTop { g with pc := g.pc + 3, stack := v.toList ++ rest }) target → Steps p.tables e below (T.setTop g) target) ∨
    (∃ (q : Addr) (vm₁ : Vm) (B : Pt), s.WarmedH vm₁ ∧ Stand p l e R s m args below meth c B.U B.locs B.cells B.slots ∧ PostX ⟨T.setVm vm₁, locs, cells, slots⟩ argsL.toArray q B ∧
      Steps p.tables e below (T.setTop g) ((B.U.setTop { g with stack := rest }).pushFrame (.throwing q))) := by
  obtain ⟨mk, hnamed⟩ := Cond.code_named hcode
  obtain ⟨methM, cM, hmethM, -, -, -, -, -, -, hsigM⟩ := Cond.code_spec hnamed hcode
  have hstatic : methM.isStatic = true := Cond.static_spec hnamed hmethM hstat
  obtain ⟨kP, hkP, -⟩ := className_of_methodNamed hnamed
  have hinitP : kP.init = .initialized := Cond.initialized_spec (findClass_of_methodNamed hnamed) hkP hinit
  obtain ⟨vm₁, X₁, hstep₁⟩ := X.invokestatic hexec hown hlink hnamed hmethM hstatic hkP hinitP hy (g := g) hg (argsL := argsL) (rest := rest) (hlen _ hsigM) hstack hdg
  rcases hK m meth c ⟨T.setVm vm₁, locs, cells, slots⟩ { g with stack := rest } (.invokestatic index) mk argsL.toArray X₁ hg hsize hdg hW (X₁.named hnamed) (hpre vm₁ X₁.warmed) with ⟨v, B, X', hpost, hsteps⟩ | ⟨q, B, X', hpost, hsteps⟩
  · exact Or.inl ⟨v, vm₁, B, X₁.warmed, X', hpost, fun target h => hstep₁ _ fun acts => by rw [doInvoke_state]; exact hsteps.trans h⟩
  · exact Or.inr ⟨q, vm₁, B, X₁.warmed, X', hpost, hstep₁ _ fun acts => by rw [doInvoke_state]; exact hsteps⟩
end Calls
theorem vx_cls {s : State} {T : State} {vm₁ : Vm} {E : String} {k : ClassId} (hW : s.WarmedH vm₁) (h : (T.setVm vm₁).vm.findClass E = some k) : s.vm.findClass E = some k := by
  have h1 : vm₁.findClass E = some k := h
  rw [hW.alike.findClass] at h1
  exact h1
/-- the method's frame g, with q thrown over it -/
def vx_W (p : Program) (l : Launch) (e : Env) (R : Room) (s : State) (m : MethodId) (args : Array Value) (below : List Frame) (meth : Method) (c : Code) (H : Heap) (locs : List Loc) (cells slots : Nat) (Q : State → Prop) (g : JFrame) (q : Addr) : Prop :=
  ∀ T : State, T.heap = H → Stand p l e R s m args below meth c T locs cells slots → ∃ t, Steps p.tables e below ((T.setTop g).pushFrame (.throwing q)) t ∧ Q t
def vx_Run (p : Program) (l : Launch) (e : Env) (R : Room) (s : State) (m : MethodId) (args : Array Value) (below : List Frame) (meth : Method) (c : Code) (H : Heap) (locs : List Loc) (cells slots mc ms : Nat) (g : JFrame) (rest : List Value) (Qa : State → Outcome → State → Prop) (XC : String → State → State → Prop) (free : Addr → Prop) : Prop :=
  ∀ T : State, T.heap = H → Stand p l e R s m args below meth c T locs cells slots →
    (∃ (v : Option Value) (st₀ t T' : State) (L : List Loc), st₀.heap = H ∧ Stand p l e R s m args below meth c T' (locs ++ L) (cells + mc) (slots + ms) ∧ (∀ q ∈ L, free q.base) ∧ T'.heap = t.heap ∧ T'.vm = t.vm ∧ Qa st₀ (.returned v) t ∧
      Goes p e below T g T' { g with pc := g.pc + 3, stack := v.toList ++ rest }) ∨
    (∃ (q : Addr) (st₀ t T' : State) (L : List Loc) (E : String) (ce : Cell), st₀.heap = H ∧ Stand p l e R s m args below meth c T' (locs ++ L) (cells + mc) (slots + ms) ∧ (∀ z ∈ L, free z.base) ∧ T'.heap = t.heap ∧ T'.vm = t.vm ∧ XC E st₀ t ∧ t.heap[q]? = some ce ∧ ce.vm = .none ∧ s.vm.findClass E = some ce.cls ∧
      Steps p.tables e below (T.setTop g) ((T'.setTop { g with stack := rest }).pushFrame (.throwing q)))
def vx_X {S : Type} (px : S → Prop) (B : String → S → State → Prop) (A : Nat → Prop) : String → State → State → Prop := fun E st t => ∃ u : S, px u ∧ B E u t ∧ va_F A st t
section Runs
variable {p : Program} {l : Launch} {e : Env} {R : Room} {s : State} {m : MethodId} {args : Array Value} {below : List Frame} {meth : Method} {c : Code} {H : Heap} {locs : List Loc} {cells slots : Nat}
variable {y : MethodName} {bytes cc : ByteArray} {maxL nL mc ms n index : Nat} {ret : Option FieldType} {ws : List Cond} {rm : Room} {Pc : Array Value → State → Prop} {Qc : Array Value → State → Outcome → State → Prop} {XC : String → State → State → Prop} {free : Addr → Prop} {Ts : List Cond} {own C : String} {b : Addr} {As rest : List Value} {g : JFrame}
theorem vx_callBack (cb : CallB R s args own index y bytes maxL ret ws rm mc ms n) (hM : vx_Met l y ws rm Pc Qc XC mc ms free) (hbl : FrameBlind Pc) : vx_Back l R p e below s args y 3 8 (PreOf R mc ms Pc) (PostOf Qc mc ms free) (vx_Post XC mc ms free) := by
  obtain ⟨hrc, hrs, hfr, hlo, hws, hcw, -, hini, -⟩ := cb
  exact vx_back (bytes := bytes) (maxL := maxL) (ret := ret) hM hbl hrc hrs hfr hlo hws hcw (fun a' U hW => word_at hW (Or.inl (by first | rfl | simp [Cond.onTables, Cond.keeps, Cond.steady])) hini)
theorem vx_runV (S : CallFix p m c cc nL s args Ts own) (hM : vx_Met l y ws rm Pc Qc XC mc ms free) (cw : CallW R s args own C index y bytes maxL ret ws rm mc ms n) (hp : PreV s H C b Pc As)
    (hg : g.method = m) (hn : As.length = n) (hsize : g.locals.size = nL) (hstack : g.stack = As.reverse ++ .ref b :: rest) (hW : 2 * g.monitorRoom + (rest.map fun v => v.category).sum ≤ 8) (hdg : decode cc g.pc = .ok (.invokevirtual index, 3)) (hf : cells + mc ≤ R.cells ∧ slots + ms ≤ R.slots) :
    vx_Run p l e R s m args below meth c H locs cells slots mc ms g rest (Qc (Value.ref b :: As).toArray) XC free := by
  have hK : vx_Back l R p e below s args y 3 8 (PreOf R mc ms Pc) (PostOf Qc mc ms free) (vx_Post XC mc ms free) := vx_callBack cw.1 hM hp.1
  obtain ⟨⟨-, -, -, -, -, -, hcode, -, hy, hlen, hl⟩, hin, hse⟩ := cw
  obtain ⟨hx, hb, hml, ho, -⟩ := S
  obtain ⟨-, ⟨cellB, hcB, hoB, hclB⟩, hPc⟩ := hp
  intro T hT X
  rcases vx_callV X hx (C := C) (bytes := bytes) (maxL := maxL) (ret := ret) ho hl hin hse hcode hy hK (by rw [hT]; exact hcB) hoB hclB hg (hsize.trans hml.symm) (argsL := As) (rest := rest) (fun sig h => hn.trans (hlen sig h)) hstack hW (by rw [hb]; exact hdg)
    (fun vm₁ hW₁ => ⟨hf.1, hf.2, hPc (T.setVm vm₁) hT hW₁⟩) with ⟨v, vm₁, ⟨U', l2, c2, s2⟩, hW₁, X', ⟨g', mk, t, L, e1, e2, hq, h1, hL, h2, h3⟩, st⟩ | ⟨q, vm₁, ⟨U', l2, c2, s2⟩, hW₁, X', ⟨g', mk, t, L, E, ce, e1, e2, hq, hce, hcv, hcl, h1, hL, h2, h3⟩, st⟩
  · dsimp only [Pt.U, Pt.locs, Pt.cells, Pt.slots] at X' e1 e2 h1 h2 h3 st
    subst h1; subst h2; subst h3
    exact Or.inl ⟨v, (T.setVm vm₁).calling g' mk (Value.ref b :: As).toArray, t, U', L, hT, X', hL, e1, e2, hq, st⟩
  · dsimp only [Pt.U, Pt.locs, Pt.cells, Pt.slots] at X' e1 e2 h1 h2 h3 st hcl
    subst h1; subst h2; subst h3
    exact Or.inr ⟨q, (T.setVm vm₁).calling g' mk (Value.ref b :: As).toArray, t, U', L, E, ce, hT, X', hL, e1, e2, hq, hce, hcv, vx_cls hW₁ hcl, st⟩
theorem vx_runS (S : CallFix p m c cc nL s args Ts own) (hM : vx_Met l y ws rm Pc Qc XC mc ms free) (cw : CallB R s args own index y bytes maxL ret ws rm mc ms n ∧ (Cond.static y).before args s = true) (hp : PreS s H Pc As)
    (hg : g.method = m) (hn : As.length = n) (hsize : g.locals.size = nL) (hstack : g.stack = As.reverse ++ rest) (hW : 2 * g.monitorRoom + (rest.map fun v => v.category).sum ≤ 8) (hdg : decode cc g.pc = .ok (.invokestatic index, 3)) (hf : cells + mc ≤ R.cells ∧ slots + ms ≤ R.slots) :
    vx_Run p l e R s m args below meth c H locs cells slots mc ms g rest (Qc As.toArray) XC free := by
  have hK : vx_Back l R p e below s args y 3 8 (PreOf R mc ms Pc) (PostOf Qc mc ms free) (vx_Post XC mc ms free) := vx_callBack cw.1 hM hp.1
  obtain ⟨⟨-, -, -, -, -, -, hcode, hini, hy, hlen, hl⟩, hstt⟩ := cw
  obtain ⟨hx, hb, hml, ho, -⟩ := S
  intro T hT X
  rcases vx_callS X hx (bytes := bytes) (maxL := maxL) (ret := ret) ho hl hstt hini hcode hy hK hg (hsize.trans hml.symm) (argsL := As) (rest := rest) (fun sig h => hn.trans (hlen sig h)) hstack hW (by rw [hb]; exact hdg)
    (fun vm₁ hW₁ => ⟨hf.1, hf.2, hp.2 (T.setVm vm₁) hT hW₁⟩) with ⟨v, vm₁, ⟨U', l2, c2, s2⟩, hW₁, X', ⟨g', mk, t, L, e1, e2, hq, h1, hL, h2, h3⟩, st⟩ | ⟨q, vm₁, ⟨U', l2, c2, s2⟩, hW₁, X', ⟨g', mk, t, L, E, ce, e1, e2, hq, hce, hcv, hcl, h1, hL, h2, h3⟩, st⟩
  · dsimp only [Pt.U, Pt.locs, Pt.cells, Pt.slots] at X' e1 e2 h1 h2 h3 st
    subst h1; subst h2; subst h3
    exact Or.inl ⟨v, (T.setVm vm₁).calling g' mk As.toArray, t, U', L, hT, X', hL, e1, e2, hq, st⟩
  · dsimp only [Pt.U, Pt.locs, Pt.cells, Pt.slots] at X' e1 e2 h1 h2 h3 st hcl
    subst h1; subst h2; subst h3
    exact Or.inr ⟨q, (T.setVm vm₁).calling g' mk As.toArray, t, U', L, E, ce, hT, X', hL, e1, e2, hq, hce, hcv, vx_cls hW₁ hcl, st⟩
end Runs
section Rows
variable {p : Program} {l : Launch} {e : Env} {R : Room} {s : State} {m : MethodId} {args : Array Value} {below : List Frame} {meth : Method} {c : Code} {H : Heap} {locs : List Loc} {cells slots : Nat} {Q : State → Prop}
variable {mc ms : Nat} {free : Addr → Prop} {A0 A1 : Nat → Prop} {H0 : Heap} {a : Array Value} {pc : Nat} {ls : Array Slot} {st0 rest : List Value}
theorem vx_keep {st₀ t T' : State} {L : List Loc} (h0 : st₀.heap = H) (e1 : T'.heap = t.heap) (hS : va_S A0 H0 H locs) (hA : ∀ q, q < H.size → A1 q → A0 q) (hf : ∀ q, free q → A0 q) (hL : ∀ q ∈ L, free q.base) (hF : va_F A1 st₀ t) :
    H.size ≤ T'.heap.size ∧ (∀ q : Nat, q < H.size → ¬ A1 q → T'.heap[q]? = H[q]?) ∧ va_S A0 H0 T'.heap (locs ++ L) := by
  obtain ⟨hz, hk⟩ := hF
  rw [h0] at hz hk
  exact ⟨by rw [e1]; exact hz, fun q h1 h2 => by rw [e1]; exact hk q h1 h2,
    ⟨Nat.le_trans hS.1 (by rw [e1]; exact hz), fun q h1 h2 => by rw [e1, hk q (Nat.lt_of_lt_of_le h1 hS.1) (fun z => h2 (hA q (Nat.lt_of_lt_of_le h1 hS.1) z))]; exact hS.2.1 q h1 h2, fun q hq => by
      rcases List.mem_append.mp hq with h | h
      · exact hS.2.2 q h
      · exact hf _ (hL q h)⟩⟩
theorem vx_calli {S SX : Type} {post : Int32 → S → Prop} {px : SX → Prop} {B : S → State → Prop} {BX : String → SX → State → Prop} {AX : Nat → Prop} (hr : vx_Run p l e R s m args below meth c H locs cells slots mc ms (F0 m pc ls st0) rest (va_Qi post B A1 a) (vx_X px BX AX) free) (hS : va_S A0 H0 H locs) (hA : ∀ q, q < H.size → A1 q → A0 q) (hf : ∀ q, free q → A0 q) (hAX : ∀ q, q < H.size → AX q → A0 q)
    (kx : ∀ (E : String) (ce : Cell) (q9 : Addr) (u : SX) (t : State) (H1 : Heap) (locs1 : List Loc), t.heap = H1 → s.vm.Alike t.vm → px u → BX E u t → H.size ≤ H1.size → (∀ q : Nat, q < H.size → ¬ AX q → H1[q]? = H[q]?) → va_S A0 H0 H1 locs1 → H1[q9]? = some ce → ce.vm = .none → s.vm.findClass E = some ce.cls → vx_W p l e R s m args below meth c H1 locs1 (cells + mc) (slots + ms) Q (F0 m pc ls rest) q9)
    (kk : ∀ (r : Int32) (u : S) (t : State) (H1 : Heap) (locs1 : List Loc), t.heap = H1 → s.vm.Alike t.vm → post r u → B u t → H.size ≤ H1.size → (∀ q : Nat, q < H.size → ¬ A1 q → H1[q]? = H[q]?) → va_S A0 H0 H1 locs1 → W p l e R s m args below meth c H1 locs1 (cells + mc) (slots + ms) Q (F0 m (pc + 3) ls (.int r :: rest))) : W p l e R s m args below meth c H locs cells slots Q (F0 m pc ls st0) := by
  intro T hT X
  rcases hr T hT X with ⟨v, st₀, t, T', L, h0, X', hL, e1, e2, ⟨⟨r, u, hv, hp, hb⟩, hF⟩, st⟩ | ⟨q, st₀, t, T', L, E, ce, h0, X', hL, e1, e2, ⟨u, hp, hb, hF⟩, hce, hcv, hcl, st⟩
  · cases hv
    obtain ⟨k1, k2, k3⟩ := vx_keep h0 e1 hS hA hf hL hF
    obtain ⟨t2, a1, b1⟩ := kk r u t T'.heap (locs ++ L) e1.symm (by rw [← e2]; exact X'.warmed.alike) hp hb k1 k2 k3 T' rfl X'
    exact ⟨t2, st t2 a1, b1⟩
  · obtain ⟨k1, k2, k3⟩ := vx_keep h0 e1 hS hAX hf hL hF
    obtain ⟨t2, a1, b1⟩ := kx E ce q u t T'.heap (locs ++ L) e1.symm (by rw [← e2]; exact X'.warmed.alike) hp hb k1 k2 k3 (by rw [e1]; exact hce) hcv hcl T' rfl X'
    exact ⟨t2, st.trans a1, b1⟩
theorem vx_calll {S SX : Type} {post : Int64 → S → Prop} {px : SX → Prop} {B : S → State → Prop} {BX : String → SX → State → Prop} {AX : Nat → Prop} (hr : vx_Run p l e R s m args below meth c H locs cells slots mc ms (F0 m pc ls st0) rest (va_Ql post B A1 a) (vx_X px BX AX) free) (hS : va_S A0 H0 H locs) (hA : ∀ q, q < H.size → A1 q → A0 q) (hf : ∀ q, free q → A0 q) (hAX : ∀ q, q < H.size → AX q → A0 q)
    (kx : ∀ (E : String) (ce : Cell) (q9 : Addr) (u : SX) (t : State) (H1 : Heap) (locs1 : List Loc), t.heap = H1 → s.vm.Alike t.vm → px u → BX E u t → H.size ≤ H1.size → (∀ q : Nat, q < H.size → ¬ AX q → H1[q]? = H[q]?) → va_S A0 H0 H1 locs1 → H1[q9]? = some ce → ce.vm = .none → s.vm.findClass E = some ce.cls → vx_W p l e R s m args below meth c H1 locs1 (cells + mc) (slots + ms) Q (F0 m pc ls rest) q9)
    (kk : ∀ (r : Int64) (u : S) (t : State) (H1 : Heap) (locs1 : List Loc), t.heap = H1 → s.vm.Alike t.vm → post r u → B u t → H.size ≤ H1.size → (∀ q : Nat, q < H.size → ¬ A1 q → H1[q]? = H[q]?) → va_S A0 H0 H1 locs1 → W p l e R s m args below meth c H1 locs1 (cells + mc) (slots + ms) Q (F0 m (pc + 3) ls (.long r :: rest))) : W p l e R s m args below meth c H locs cells slots Q (F0 m pc ls st0) := by
  intro T hT X
  rcases hr T hT X with ⟨v, st₀, t, T', L, h0, X', hL, e1, e2, ⟨⟨r, u, hv, hp, hb⟩, hF⟩, st⟩ | ⟨q, st₀, t, T', L, E, ce, h0, X', hL, e1, e2, ⟨u, hp, hb, hF⟩, hce, hcv, hcl, st⟩
  · cases hv
    obtain ⟨k1, k2, k3⟩ := vx_keep h0 e1 hS hA hf hL hF
    obtain ⟨t2, a1, b1⟩ := kk r u t T'.heap (locs ++ L) e1.symm (by rw [← e2]; exact X'.warmed.alike) hp hb k1 k2 k3 T' rfl X'
    exact ⟨t2, st t2 a1, b1⟩
  · obtain ⟨k1, k2, k3⟩ := vx_keep h0 e1 hS hAX hf hL hF
    obtain ⟨t2, a1, b1⟩ := kx E ce q u t T'.heap (locs ++ L) e1.symm (by rw [← e2]; exact X'.warmed.alike) hp hb k1 k2 k3 (by rw [e1]; exact hce) hcv hcl T' rfl X'
    exact ⟨t2, st.trans a1, b1⟩
theorem vx_callf {S SX : Type} {post : UInt32 → S → Prop} {px : SX → Prop} {B : S → State → Prop} {BX : String → SX → State → Prop} {AX : Nat → Prop} (hr : vx_Run p l e R s m args below meth c H locs cells slots mc ms (F0 m pc ls st0) rest (va_Qf post B A1 a) (vx_X px BX AX) free) (hS : va_S A0 H0 H locs) (hA : ∀ q, q < H.size → A1 q → A0 q) (hf : ∀ q, free q → A0 q) (hAX : ∀ q, q < H.size → AX q → A0 q)
    (kx : ∀ (E : String) (ce : Cell) (q9 : Addr) (u : SX) (t : State) (H1 : Heap) (locs1 : List Loc), t.heap = H1 → s.vm.Alike t.vm → px u → BX E u t → H.size ≤ H1.size → (∀ q : Nat, q < H.size → ¬ AX q → H1[q]? = H[q]?) → va_S A0 H0 H1 locs1 → H1[q9]? = some ce → ce.vm = .none → s.vm.findClass E = some ce.cls → vx_W p l e R s m args below meth c H1 locs1 (cells + mc) (slots + ms) Q (F0 m pc ls rest) q9)
    (kk : ∀ (r : UInt32) (u : S) (t : State) (H1 : Heap) (locs1 : List Loc), t.heap = H1 → s.vm.Alike t.vm → post r u → B u t → H.size ≤ H1.size → (∀ q : Nat, q < H.size → ¬ A1 q → H1[q]? = H[q]?) → va_S A0 H0 H1 locs1 → W p l e R s m args below meth c H1 locs1 (cells + mc) (slots + ms) Q (F0 m (pc + 3) ls (.float r :: rest))) : W p l e R s m args below meth c H locs cells slots Q (F0 m pc ls st0) := by
  intro T hT X
  rcases hr T hT X with ⟨v, st₀, t, T', L, h0, X', hL, e1, e2, ⟨⟨r, u, hv, hp, hb⟩, hF⟩, st⟩ | ⟨q, st₀, t, T', L, E, ce, h0, X', hL, e1, e2, ⟨u, hp, hb, hF⟩, hce, hcv, hcl, st⟩
  · cases hv
    obtain ⟨k1, k2, k3⟩ := vx_keep h0 e1 hS hA hf hL hF
    obtain ⟨t2, a1, b1⟩ := kk r u t T'.heap (locs ++ L) e1.symm (by rw [← e2]; exact X'.warmed.alike) hp hb k1 k2 k3 T' rfl X'
    exact ⟨t2, st t2 a1, b1⟩
  · obtain ⟨k1, k2, k3⟩ := vx_keep h0 e1 hS hAX hf hL hF
    obtain ⟨t2, a1, b1⟩ := kx E ce q u t T'.heap (locs ++ L) e1.symm (by rw [← e2]; exact X'.warmed.alike) hp hb k1 k2 k3 (by rw [e1]; exact hce) hcv hcl T' rfl X'
    exact ⟨t2, st.trans a1, b1⟩
theorem vx_calld {S SX : Type} {post : UInt64 → S → Prop} {px : SX → Prop} {B : S → State → Prop} {BX : String → SX → State → Prop} {AX : Nat → Prop} (hr : vx_Run p l e R s m args below meth c H locs cells slots mc ms (F0 m pc ls st0) rest (va_Qd post B A1 a) (vx_X px BX AX) free) (hS : va_S A0 H0 H locs) (hA : ∀ q, q < H.size → A1 q → A0 q) (hf : ∀ q, free q → A0 q) (hAX : ∀ q, q < H.size → AX q → A0 q)
    (kx : ∀ (E : String) (ce : Cell) (q9 : Addr) (u : SX) (t : State) (H1 : Heap) (locs1 : List Loc), t.heap = H1 → s.vm.Alike t.vm → px u → BX E u t → H.size ≤ H1.size → (∀ q : Nat, q < H.size → ¬ AX q → H1[q]? = H[q]?) → va_S A0 H0 H1 locs1 → H1[q9]? = some ce → ce.vm = .none → s.vm.findClass E = some ce.cls → vx_W p l e R s m args below meth c H1 locs1 (cells + mc) (slots + ms) Q (F0 m pc ls rest) q9)
    (kk : ∀ (r : UInt64) (u : S) (t : State) (H1 : Heap) (locs1 : List Loc), t.heap = H1 → s.vm.Alike t.vm → post r u → B u t → H.size ≤ H1.size → (∀ q : Nat, q < H.size → ¬ A1 q → H1[q]? = H[q]?) → va_S A0 H0 H1 locs1 → W p l e R s m args below meth c H1 locs1 (cells + mc) (slots + ms) Q (F0 m (pc + 3) ls (.double r :: rest))) : W p l e R s m args below meth c H locs cells slots Q (F0 m pc ls st0) := by
  intro T hT X
  rcases hr T hT X with ⟨v, st₀, t, T', L, h0, X', hL, e1, e2, ⟨⟨r, u, hv, hp, hb⟩, hF⟩, st⟩ | ⟨q, st₀, t, T', L, E, ce, h0, X', hL, e1, e2, ⟨u, hp, hb, hF⟩, hce, hcv, hcl, st⟩
  · cases hv
    obtain ⟨k1, k2, k3⟩ := vx_keep h0 e1 hS hA hf hL hF
    obtain ⟨t2, a1, b1⟩ := kk r u t T'.heap (locs ++ L) e1.symm (by rw [← e2]; exact X'.warmed.alike) hp hb k1 k2 k3 T' rfl X'
    exact ⟨t2, st t2 a1, b1⟩
  · obtain ⟨k1, k2, k3⟩ := vx_keep h0 e1 hS hAX hf hL hF
    obtain ⟨t2, a1, b1⟩ := kx E ce q u t T'.heap (locs ++ L) e1.symm (by rw [← e2]; exact X'.warmed.alike) hp hb k1 k2 k3 (by rw [e1]; exact hce) hcv hcl T' rfl X'
    exact ⟨t2, st.trans a1, b1⟩
theorem vx_callv {S SX : Type} {post : S → Prop} {px : SX → Prop} {B : S → State → Prop} {BX : String → SX → State → Prop} {AX : Nat → Prop} (hr : vx_Run p l e R s m args below meth c H locs cells slots mc ms (F0 m pc ls st0) rest (va_Qv post B A1 a) (vx_X px BX AX) free) (hS : va_S A0 H0 H locs) (hA : ∀ q, q < H.size → A1 q → A0 q) (hf : ∀ q, free q → A0 q) (hAX : ∀ q, q < H.size → AX q → A0 q)
    (kx : ∀ (E : String) (ce : Cell) (q9 : Addr) (u : SX) (t : State) (H1 : Heap) (locs1 : List Loc), t.heap = H1 → s.vm.Alike t.vm → px u → BX E u t → H.size ≤ H1.size → (∀ q : Nat, q < H.size → ¬ AX q → H1[q]? = H[q]?) → va_S A0 H0 H1 locs1 → H1[q9]? = some ce → ce.vm = .none → s.vm.findClass E = some ce.cls → vx_W p l e R s m args below meth c H1 locs1 (cells + mc) (slots + ms) Q (F0 m pc ls rest) q9)
    (kk : ∀ (u : S) (t : State) (H1 : Heap) (locs1 : List Loc), t.heap = H1 → s.vm.Alike t.vm → post u → B u t → H.size ≤ H1.size → (∀ q : Nat, q < H.size → ¬ A1 q → H1[q]? = H[q]?) → va_S A0 H0 H1 locs1 → W p l e R s m args below meth c H1 locs1 (cells + mc) (slots + ms) Q (F0 m (pc + 3) ls (rest))) : W p l e R s m args below meth c H locs cells slots Q (F0 m pc ls st0) := by
  intro T hT X
  rcases hr T hT X with ⟨v, st₀, t, T', L, h0, X', hL, e1, e2, ⟨⟨u, hv, hp, hb⟩, hF⟩, st⟩ | ⟨q, st₀, t, T', L, E, ce, h0, X', hL, e1, e2, ⟨u, hp, hb, hF⟩, hce, hcv, hcl, st⟩
  · cases hv
    obtain ⟨k1, k2, k3⟩ := vx_keep h0 e1 hS hA hf hL hF
    obtain ⟨t2, a1, b1⟩ := kk u t T'.heap (locs ++ L) e1.symm (by rw [← e2]; exact X'.warmed.alike) hp hb k1 k2 k3 T' rfl X'
    exact ⟨t2, st t2 a1, b1⟩
  · obtain ⟨k1, k2, k3⟩ := vx_keep h0 e1 hS hAX hf hL hF
    obtain ⟨t2, a1, b1⟩ := kx E ce q u t T'.heap (locs ++ L) e1.symm (by rw [← e2]; exact X'.warmed.alike) hp hb k1 k2 k3 (by rw [e1]; exact hce) hcv hcl T' rfl X'
    exact ⟨t2, st.trans a1, b1⟩
/-- caught by the row x of this method's table; the rows ahead don't take it -/
theorem vx_catch {own name : String} {E : String} {ce : Cell} {q : Addr} (hown : s.vm.findClass own = some m.cls) (pre : List ExceptionTableEntry) (x : ExceptionTableEntry) (suf : List ExceptionTableEntry) (hsplit : c.exceptionTable.toList = pre ++ x :: suf)
    (hpass : ∀ z ∈ pre, covers z pc = false ∨ (z.catchType ≠ 0 ∧ ∃ nm : String, (Cond.classLink own z.catchType nm).before args s = true ∧ va_Nc E nm s)) (hx : covers x pc = true) (h0 : x.catchType ≠ 0)
    (hlink : (Cond.classLink own x.catchType name).before args s = true) (hcast : (Cond.castable E name).before args s = true) (hcell : H[q]? = some ce) (hv : ce.vm = .none) (hcl : s.vm.findClass E = some ce.cls)
    (kk : W p l e R s m args below meth c H locs cells slots Q (F0 m x.handlerPc ls [.ref q])) : vx_W p l e R s m args below meth c H locs cells slots Q (F0 m pc ls rest) q := by
  intro T hT X
  have hpl : e.platform.magicAccessors = ({} : Platform).magicAccessors := by rw [X.admits.platform]
  obtain ⟨c3, c4, hc3, hc4, hasg⟩ := Cond.castable_spec hcast
  cases Option.some.inj (hc3.symm.trans hcl)
  obtain ⟨c5, hc5, hcl5⟩ := Cond.classLink_spec hown hlink e.platform hpl
  cases Option.some.inj (hc4.symm.trans hc5)
  obtain ⟨vm', X', st⟩ := X.thenCaughtThrough q (g := F0 m pc ls rest) rfl (Steps.refl _) (by rw [hT]; exact hcell) (by rw [hv]; rfl) (by obtain ⟨k9, h9, -⟩ := Vm.findClass_spec hcl; exact ⟨k9, h9⟩) pre x suf hsplit
    (fun z hz => by
      rcases hpass z hz with h | ⟨hz0, nm, hl1, hn1⟩
      · exact Or.inl h
      · obtain ⟨c6, hc6, hcl6⟩ := Cond.classLink_spec hown hl1 e.platform hpl
        obtain ⟨a8, b8, h1, h2, h3⟩ := hn1
        cases Option.some.inj (h1.symm.trans hcl)
        cases Option.some.inj (h2.symm.trans hc6)
        exact Or.inr ⟨hz0, _, hcl6, h3⟩) hx (Or.inr ⟨h0, c4, hcl5, hasg⟩)
  obtain ⟨t, a1, b1⟩ := kk (T.setVm vm') hT X'
  exact ⟨t, st.trans a1, b1⟩
end Rows
section Ends
variable {p : Program} {l : Launch} {e : Env} {R : Room} {s : State} {m : MethodId} {args : Array Value} {below : List Frame} {meth : Method} {c : Code} {H : Heap} {locs : List Loc} {cells slots : Nat} {Q : State → Prop}
variable {mc ms : Nat} {free : Addr → Prop} {A0 A1 : Nat → Prop} {H0 : Heap} {a : Array Value} {ls : Array Slot} {st0 rest : List Value}
variable {Qc : Array Value → State → Outcome → State → Prop} {XC : String → State → State → Prop}
/-- what a body that may throw owes at its end -/
def vx_MQ (below : List Frame) (Qc : Array Value → State → Outcome → State → Prop) (XC : String → State → State → Prop) (a : Array Value) (s : State) (mc ms : Nat) (free : Addr → Prop) : State → Prop := fun t =>
  ∃ o, t.status = .running ∧ Ended t below o ∧ vx_Q Qc XC mc ms free a s o t
theorem vx_ret {g : JFrame} {mc ms : Nat} (k : W p l e R s m args below meth c H locs cells slots (MQ below Qc args s mc ms free) g) : W p l e R s m args below meth c H locs cells slots (vx_MQ below Qc XC args s mc ms free) g := by
  intro T hT X
  obtain ⟨t, a1, o, b1, b2, b3, b4⟩ := k T hT X
  exact ⟨t, a1, o, b1, b2, Or.inl ⟨b3, b4⟩⟩
/-- not caught here: it goes on to the caller -/
theorem vx_widen {g : JFrame} {q : Addr} {k n : Nat} (h1 : cells ≤ k) (h2 : slots ≤ n) (kk : vx_W p l e R s m args below meth c H locs k n Q g q) : vx_W p l e R s m args below meth c H locs cells slots Q g q := fun T hT X => kk T hT (stand_widen X h1 h2)
theorem vx_out {pc : Nat} {E : String} {ce : Cell} {q : Addr} {mc ms : Nat} (hout : ∀ x ∈ c.exceptionTable.toList, covers x pc = false) (hlocks : meth.locks = false) (hcell : H[q]? = some ce) (hv : ce.vm = .none) (hcl : s.vm.findClass E = some ce.cls)
    (hx : ∀ t : State, t.heap = H → s.vm.Alike t.vm → XC E s t) (hf : ∀ z ∈ locs, free z.base) (hc : cells ≤ mc) (hs : slots ≤ ms) :
    vx_W p l e R s m args below meth c H locs cells slots (vx_MQ below Qc XC args s mc ms free) (F0 m pc ls rest) q := by
  intro T hT X
  obtain ⟨st1, hrun, hend, hW, hsm⟩ := X.leaveThrown q (g := F0 m pc ls rest) rfl rfl rfl hout hlocks
  have hcell9 : (T.setFrames (.throwing q :: below)).heap[q]? = some ce := by
    show T.heap[q]? = some ce
    rw [hT]; exact hcell
  exact ⟨_, st1, .threw q, hrun, hend, Or.inr ⟨q, rfl, E, ce, locs, hx _ hT hW.alike, hcell9, hv, hcl, hW, hsm.mono hc hs, hf⟩⟩
theorem vx_frame {U : State} {k n : Nat} (h : s.sameButNew ({ U with vm := s.vm } : State) locs k n) : s.heap.size ≤ U.heap.size ∧ ∀ q : Nat, q < s.heap.size → (∀ z ∈ locs, z.base ≠ q) → U.heap[q]? = s.heap[q]? := by
  obtain ⟨-, h2, -, -, -, h6⟩ := h
  refine ⟨h2, fun q hq hz => ?_⟩
  obtain ⟨c9, e1, e2, e3, e4⟩ := h6 q _ (Array.getElem?_eq_getElem hq)
  have hs : c9.slots = (s.heap[q]).slots := Array.ext_getElem? fun i => e4 i fun hm => hz _ hm rfl
  have h9 : c9 = s.heap[q] := by
    rw [hs] at e2
    exact e2
  have e5 : U.heap[q]? = some c9 := e1
  rw [e5, h9, Array.getElem?_eq_getElem hq]
/-- the words of a throw but the four that speak of the heap -/
def vx_no (w : Cond) : Bool := decide (w ≠ .isRef (.static Bundle.tN "UNASSIGNED_STACK" Bundle.steD)) && decide (w ≠ .isRef (.static Bundle.tN "SUPPRESSED_SENTINEL" Bundle.listD)) && decide (w ≠ .laysStatic Bundle.tN "UNASSIGNED_STACK" Bundle.steD) && decide (w ≠ .laysStatic Bundle.tN "SUPPRESSED_SENTINEL" Bundle.listD)
def vx_at0 (own : String) (ic : Nat) (X : String) (names : List String) : List Cond := (Bundle.ownAtoms0 own ic X names).filter vx_no
def vx_atS (own : String) (ic : Nat) (X : String) (names : List String) : List Cond := (Bundle.ownAtoms own ic X names).filter vx_no
/-- a word that the tables alone decide, or a good one -/
def vx_ot (w : Cond) : Bool := w.onTables || goodWord w
theorem vx_ot_at {args a' : Array Value} {s U : State} {w : Cond} (hW : s.WarmedH U.vm) (hvm : s.vm = U.vm) (hg : vx_ot w = true) (h : w.before args s = true) : w.before a' U = true := by
  simp only [vx_ot, Bool.or_eq_true] at hg
  rcases hg with hg | hg
  · exact va_tabs hg hvm h
  · exact word_at hW (good_of_word hg) h
/-- a list's words: the good ones out of the method's own list, the others by premises of their own -/
theorem vx_hat {args : Array Value} {s : State} {L B : List Cond} (h1 : ∀ w ∈ L.filter goodWord, w.before args s = true) (h2 : ∀ w ∈ L.filter (fun w => !goodWord w), w ∈ B) (h3 : ∀ w ∈ B, w.before args s = true) : ∀ w ∈ L, w.before args s = true := by
  intro w hw
  by_cases g : goodWord w = true
  · exact h1 w (List.mem_filter.mpr ⟨hw, g⟩)
  · refine h3 w (h2 w (List.mem_filter.mpr ⟨hw, ?_⟩))
    show (!goodWord w) = true
    cases hgw : goodWord w
    · rfl
    · exact absurd hgw g
theorem vx_c {args : Array Value} {s : State} {w : Cond} {B : List Cond} (h : w.before args s = true) (t : ∀ w ∈ B, w.before args s = true) : ∀ w' ∈ w :: B, w'.before args s = true := fun w' h' => (List.mem_cons.mp h').elim (fun e => by rw [e]; exact h) (t w')
theorem vx_n {args : Array Value} {s : State} : ∀ w ∈ ([] : List Cond), w.before args s = true := fun _ h => nomatch h
theorem vx_own {args : Array Value} {s : State} {L : List Cond} (h1 : ∀ w ∈ L.filter vx_no, w.before args s = true)
    (hU : (Cond.isRef (.static Bundle.tN "UNASSIGNED_STACK" Bundle.steD)).before args s = true) (hN : (Cond.isRef (.static Bundle.tN "SUPPRESSED_SENTINEL" Bundle.listD)).before args s = true)
    (lU : (Cond.laysStatic Bundle.tN "UNASSIGNED_STACK" Bundle.steD).before args s = true) (lN : (Cond.laysStatic Bundle.tN "SUPPRESSED_SENTINEL" Bundle.listD).before args s = true) : ∀ w ∈ L, w.before args s = true := by
  intro w hw
  by_cases e1 : w = .isRef (.static Bundle.tN "UNASSIGNED_STACK" Bundle.steD)
  · rw [e1]; exact hU
  · by_cases e2 : w = .isRef (.static Bundle.tN "SUPPRESSED_SENTINEL" Bundle.listD)
    · rw [e2]; exact hN
    · by_cases e3 : w = .laysStatic Bundle.tN "UNASSIGNED_STACK" Bundle.steD
      · rw [e3]; exact lU
      · by_cases e4 : w = .laysStatic Bundle.tN "SUPPRESSED_SENTINEL" Bundle.listD
        · rw [e4]; exact lN
        · exact h1 w (List.mem_filter.mpr ⟨hw, by unfold vx_no; rw [decide_eq_true e1, decide_eq_true e2, decide_eq_true e3, decide_eq_true e4]; rfl⟩)
/-- where a static field lies, its class's statics cell in H -/
def vx_L (C n d : String) (A : Nat → Prop) (U : State) (H : Heap) : Prop := ∃ (c : ClassId) (k : Class) (i : Nat) (f : Field) (a : Nat) (cell : Cell), U.vm.findClass C = some c ∧ U.fieldFound? C n d = some (c, k, i, f) ∧ f.isStatic = true ∧ k.statics = some a ∧ H[a]? = some cell ∧ cell.vm.isStatics = true ∧ cell.cls = c ∧ f.slot < cell.slots.size ∧ k.staticTypes[f.slot]? = some f.type ∧ ¬ A a
theorem vx_L.moved {C n d : String} {A : Nat → Prop} {u U : State} {H : Heap} (hvm : u.vm.Alike U.vm) (h : vx_L C n d A u H) : vx_L C n d A U H := by
  obtain ⟨c, k, i, f, a, cell, h1, h2, h3, h4, h5, h6, h7, h8, h9, h10⟩ := h
  obtain ⟨k', hi', he⟩ := State.fieldFound?_setVm hvm h2
  exact ⟨c, k', i, f, a, cell, by rw [hvm.findClass]; exact h1, hi', h3, by rw [he]; exact h4, h5, h6, h7, h8, by rw [he]; exact h9, h10⟩
theorem vx_L.kept {C n d : String} {A : Nat → Prop} {U : State} {H H1 : Heap} (h : vx_L C n d A U H) (hq : ∀ a : Nat, a < H.size → ¬ A a → H1[a]? = H[a]?) : vx_L C n d A U H1 := by
  obtain ⟨c, k, i, f, a, cell, h1, h2, h3, h4, h5, h6, h7, h8, h9, h10⟩ := h
  exact ⟨c, k, i, f, a, cell, h1, h2, h3, h4, by rw [hq a (Array.getElem?_eq_some_iff.mp h5).1 h10]; exact h5, h6, h7, h8, h9, h10⟩
theorem vx_L.narrow {C n d : String} {A B : Nat → Prop} {U : State} {H : Heap} (h : vx_L C n d A U H) (hAB : ∀ q, B q → A q) : vx_L C n d B U H := by
  obtain ⟨c, k, i, f, a, cell, h1, h2, h3, h4, h5, h6, h7, h8, h9, h10⟩ := h
  exact ⟨c, k, i, f, a, cell, h1, h2, h3, h4, h5, h6, h7, h8, h9, fun z => h10 (hAB _ z)⟩
theorem vx_L.word {C n d : String} {A : Nat → Prop} {s : State} {args : Array Value} (h : vx_L C n d A s s.heap) : (Cond.laysStatic C n d).before args s = true := by
  obtain ⟨c, k, i, f, a, cell, h1, h2, h3, h4, h5, h6, h7, h8, h9, -⟩ := h
  show (Cond.laysStatic C n d).holds args s none s [] = true
  exact Cond.laysStatic_of h1 h2 h3 h4 h5 h6 h7 h8 h9
/-- .. and what it holds: null or some reference -/
def vx_Zq (C n d : String) (A : Nat → Prop) (U : State) (H : Heap) : Prop := va_Zq C n d A U H ∧ vx_L C n d A U H
theorem vx_Zq.moved {C n d : String} {A : Nat → Prop} {u U : State} {H : Heap} (hvm : u.vm.Alike U.vm) (h : vx_Zq C n d A u H) : vx_Zq C n d A U H := ⟨va_Zq.moved hvm h.1, vx_L.moved hvm h.2⟩
theorem vx_Zq.kept {C n d : String} {A : Nat → Prop} {U : State} {H H1 : Heap} (h : vx_Zq C n d A U H) (hq : ∀ a : Nat, a < H.size → ¬ A a → H1[a]? = H[a]?) : vx_Zq C n d A U H1 := ⟨va_Zq.kept h.1 hq, vx_L.kept h.2 hq⟩
theorem vx_Zq.narrow {C n d : String} {A B : Nat → Prop} {U : State} {H : Heap} (h : vx_Zq C n d A U H) (hAB : ∀ q, B q → A q) : vx_Zq C n d B U H := ⟨va_Zq.narrow h.1 hAB, vx_L.narrow h.2 hAB⟩
theorem vx_Zqof {args : Array Value} {s : State} {C n d : String} {A : Nat → Prop} (hl : (Cond.laysStatic C n d).before args s = true) (hini : (Cond.initialized C).before args s = true) (h : (Cond.isRef (.static C n d)).before args s = true) (hA : ∀ a : Nat, a < s.heap.size → ¬ A a) : vx_Zq C n d A s s.heap := by
  refine ⟨va_Zqof hl hini h hA, ?_⟩
  obtain ⟨c, k, i, f, a, cell, h1, h2, h3, h4, h5, h6, h7, h8, h9⟩ := Cond.laysStatic_spec hl
  exact ⟨c, k, i, f, a, cell, h1, h2, h3, h4, h5, h6, h7, h8, h9, hA a (Array.getElem?_eq_some_iff.mp h5).1⟩
theorem vx_isRef {C n d : String} {v : Value} {A : Nat → Prop} {s : State} {args : Array Value} (h : va_Z C n d v A s s.heap) (hv : v.isRef = true) : (Cond.isRef (.static C n d)).before args s = true := by
  obtain ⟨cf, kf, fi, f, a, cell, h1, h2, h3, h4, h5, h6, h7, -⟩ := h
  have he : (Term.static C n d).eval args s none [] s = some v := by
    simp [Term.eval, State.fieldNamed?, h1, h2, h4, h5, h6, h7]
  simp only [Cond.before, Cond.holds, Cond.value, he]
  cases v <;> simp_all [Value.isRef]
theorem vx_isRefq {C n d : String} {A : Nat → Prop} {s : State} {args : Array Value} (h : va_Zq C n d A s s.heap) : (Cond.isRef (.static C n d)).before args s = true := by
  rcases h with h | ⟨t, h⟩
  · exact vx_isRef h rfl
  · exact vx_isRef h rfl
/-- the same frame, seen from here: as if the method were called anew in this heap -/
theorem vx_rebase {T : State} (X : Stand p l e R s m args below meth c T locs cells slots) {R' : Room} (hf : R'.frames ≤ R.frames) (hl : R'.locals ≤ R.locals) (hc : cells + R'.cells ≤ R.cells) (hs : slots + R'.slots ≤ R.slots) :
    Stand p l e R' ((T.setVm s.vm).setFrames (.invoking m args :: below)) m args below meth c T [] 0 0 := by
  have htop : (T.setVm s.vm).topJava?.isSome := X.here.top
  have hF : ((T.setVm s.vm).setFrames (.invoking m args :: below)).frames = .invoking m args :: below := State.frames_setFrames _ (State.cur_lt_of_top htop)
  obtain ⟨g₀, hg0⟩ := Option.isSome_iff_exists.mp htop
  obtain ⟨r, hr⟩ := State.topJava?_eq_some.mp hg0
  have hl9 : e.platform.stackLimits (T.setVm s.vm).me = e.platform.stackLimits s.me := X.limits
  have hb9 : (T.setVm s.vm).me.stackBytes = s.me.stackBytes := X.bytes
  refine ⟨X.admits, X.cas, X.clock, hF, ?_, X.hears, X.method, X.code, X.here, X.tail, X.warmed, ?_, ?_, ?_⟩
  · have h := X.room
    have hU : ((T.setVm s.vm).setFrames (.invoking m args :: below)).localsInUse = s.localsInUse := by
      rw [State.localsInUse_invoking hF (meth := meth) (c := c) X.method X.code, State.localsInUse_invoking X.frames X.method X.code]
    simp only [State.hasRoom, Bool.and_eq_true, decide_eq_true_eq] at h ⊢
    obtain ⟨⟨⟨⟨h1, h2, h3, h4, h5, h6⟩, h7⟩, h8⟩, h9⟩ := h
    rw [X.frames, List.length_cons] at h2 h3
    have q1 := X.heapSize
    have q2 := X.used
    simp only [hF, hU, List.length_cons, State.stackLimits_setFrames, State.stackBytes_setFrames, hl9, hb9]
    refine ⟨⟨⟨⟨by omega, by omega, by omega, by omega, by omega, h6⟩, ?_⟩, ?_⟩, X.book⟩
    · show T.heap.size + R'.cells ≤ e.platform.maxCells
      omega
    · show T.slotsUsed + R'.slots ≤ e.platform.maxSlots
      omega
  · rw [State.stackLimits_setFrames]; rfl
  · rw [State.stackBytes_setFrames]; rfl
  · refine ⟨?_, Nat.le_refl _, Nat.le_refl _, ?_, ?_, fun a c9 h9 => ⟨c9, h9, rfl, rfl, fun _ _ => rfl⟩⟩
    · obtain ⟨t, ht, -⟩ := State.frames_cons hr
      show T.setVm s.vm = { ((T.setVm s.vm).setFrames (.invoking m args :: below)).setFrames (T.setVm s.vm).frames with heap := T.heap, slotsUsed := T.slotsUsed }
      rw [State.setFrames_setFrames, State.setFrames_self ht]
      rfl
    · show T.slotsUsed = T.slotsUsed + ((T.heap.toList.drop T.heap.size).map (·.slots.size)).sum
      rw [List.drop_eq_nil_of_le (Nat.le_of_eq Array.length_toList)]
      rfl
    · show ((T.heap.toList.drop T.heap.size).map (·.slots.size)).sum ≤ 0
      rw [List.drop_eq_nil_of_le (Nat.le_of_eq Array.length_toList)]
      exact Nat.le_refl _
/-- 'throw new E()': new; dup; invokespecial; athrow -/
theorem vx_throw0 {cc : ByteArray} {pc : Nat} (hexec : p.tables.exec = Jvm.exec) (hb : c.code = cc) (hl : l.stackTraces = false) {own cls : String} {names : List String} {ik ic mc ms : Nat} {A : Nat → Prop}
    (hown : s.vm.findClass own = some m.cls) (hcls : Bundle.fit cls = true) (hnames : ∀ n ∈ names, Bundle.fit n = true)
    (hk : (Cond.classLink own ik cls).before args s = true) (hini : (Cond.initialized cls).before args s = true) (hat : ∀ w ∈ vx_at0 own ic cls names, w.before args s = true)
    (hgood : ∀ w ∈ Cond.classLink own ik cls :: Cond.initialized cls :: vx_at0 own ic cls names, vx_ot w = true)
    (hU : vx_Zq Bundle.tN "UNASSIGNED_STACK" Bundle.steD A s s.heap) (hN : vx_Zq Bundle.tN "SUPPRESSED_SENTINEL" Bundle.listD A s s.heap) (hS : va_S A s.heap H locs) (hsize : ls.size = c.maxLocals)
    (d0 : decode cc pc = .ok (.new ik, 3)) (d3 : decode cc (pc + 3) = .ok (.dup, 1)) (d4 : decode cc (pc + 4) = .ok (.invokespecial ic, 3)) (d7 : decode cc (pc + 7) = .ok (.athrow, 1))
    (hout : ∀ x ∈ c.exceptionTable.toList, covers x (pc + 7) = false)
    (hRframes : names.length + 3 < R.frames) (hRlocals : (rest.map fun v => v.category).sum + (13 * (names.length + 1) + 42) ≤ R.locals) (hRcells : cells + 1 ≤ R.cells) (hRslots : slots + 6 ≤ R.slots) (hlocks : meth.locks = false)
    (hx : ∀ t : State, s.vm.Alike t.vm → H.size ≤ t.heap.size → (∀ q : Nat, q < H.size → t.heap[q]? = H[q]?) → XC cls s t)
    (hf : ∀ z ∈ locs, free z.base) (hc : cells + 1 ≤ mc) (hs : slots + 6 ≤ ms) :
    W p l e R s m args below meth c H locs cells slots (vx_MQ below Qc XC args s mc ms free) (F0 m pc ls rest) := by
  intro T hT X
  have htr : e.platform.stackTraces = false := (show e.platform.stackTraces = l.stackTraces by rw [X.admits.platform]).trans hl
  have Y := vx_rebase X (R' := { frames := R.frames, locals := R.locals, cells := 1, slots := 6 }) (Nat.le_refl _) (Nat.le_refl _) hRcells hRslots
  obtain ⟨s', hA⟩ : ∃ z, z = (T.setVm s.vm).setFrames (.invoking m args :: below) := ⟨_, rfl⟩
  rw [← hA] at Y
  have hvm : s'.vm = s.vm := by rw [hA]; rfl
  have hhp : s'.heap = H := by rw [hA]; exact hT
  have hW0 : s.WarmedH s'.vm := by rw [hvm]; exact State.WarmedH.refl s
  have hat' : ∀ w ∈ vx_at0 own ic cls names, w.before args s' = true := fun w hw => vx_ot_at hW0 hvm.symm (hgood w (List.mem_cons_of_mem _ (List.mem_cons_of_mem _ hw))) (hat w hw)
  have hk' : (Cond.classLink own ik cls).before args s' = true := vx_ot_at hW0 hvm.symm (hgood _ List.mem_cons_self) hk
  have hini' : (Cond.initialized cls).before args s' = true := vx_ot_at hW0 hvm.symm (hgood _ (List.mem_cons_of_mem _ List.mem_cons_self)) hini
  have hU' : vx_Zq Bundle.tN "UNASSIGNED_STACK" Bundle.steD A s' s'.heap := by rw [hhp]; exact vx_Zq.moved hW0.alike (hU.kept hS.2.1)
  have hN' : vx_Zq Bundle.tN "SUPPRESSED_SENTINEL" Bundle.listD A s' s'.heap := by rw [hhp]; exact vx_Zq.moved hW0.alike (hN.kept hS.2.1)
  have h : ∀ w ∈ Bundle.ownAtoms0 own ic cls names, w.before args s' = true := vx_own hat' (vx_isRefq hU'.1) (vx_isRefq hN'.1) hU'.2.word hN'.2.word
  have hown' : s'.vm.findClass own = some m.cls := by rw [hvm]; exact hown
  have hins : (Cond.instantiable cls 6).before args s' = true := h _ (by simp [Bundle.ownAtoms0])
  obtain ⟨vm₁, cX, kX, hfX, hkX, -, -, X₁, st1⟩ := Y.newCold hexec (own := own) (C := cls) (index := ik) (n := 6) hown' hk' hins hini'
    (g := F0 m pc ls rest) rfl (by rw [hb]; exact d0) (Nat.le_refl _) (Nat.le_refl _)
  generalize hT1 : (T.setVm vm₁).pushCell { cls := cX, slots := kX.instanceTypes.map defaultValue, vm := .none } = T1 at X₁ st1
  have hcat : (Value.ref T.heap.size).category = 1 := rfl
  have hcellA : T1.heap[T.heap.size]? = some (freshCell cX kX) := by rw [← hT1]; exact State.heap_pushCell_size _ _
  have d3' : decode c.code (pc + 3) = .ok (.dup, 1) := by rw [hb]; exact d3
  obtain ⟨U, hsteps, hrun, hend, hW, hsame, ce, hce, hO⟩ := X₁.ctorThrow0 hexec htr (own := own) (cls := cls) (names := names) (ic := ic) hown' hcls hnames h (fun x hx => nomatch hx) hfX hkX hcellA (by rw [hhp, hT]; exact Nat.le_refl _)
    (g := { method := m, pc := pc + 4, locals := ls, stack := .ref T.heap.size :: .ref T.heap.size :: rest, locked := none }) rfl hsize rfl rfl (rest := rest) rfl
    (by rw [hb]; exact d4) (by rw [hb]; exact d7) hout hRframes (by simp only [List.map_cons, List.sum_cons, hcat]; omega) hlocks
  obtain ⟨f1, f2⟩ := vx_frame hsame
  rw [hhp] at f1 f2
  have hWs : s.WarmedH U.vm := State.WarmedH.trans hW0 hW
  have hcl : s.vm.findClass cls = some ce.cls := by
    have h9 := hO.cls
    rw [hvm] at h9
    exact h9
  have hall : s.sameButNew ({ U with vm := s.vm } : State) locs mc ms := by
    subst hA
    obtain ⟨e1, e2⟩ := hsame
    rw [State.setFrames_setFrames] at e1
    have h2 : (T.setVm s.vm).sameButNew ({ U with vm := s.vm } : State) [] (0 + 1) (0 + 6) := ⟨e1, e2⟩
    have h3 := X.same.trans h2
    rw [List.append_nil] at h3
    exact h3.mono hc hs
  refine ⟨U, ?_, .threw T.heap.size, hrun, hend, Or.inr ⟨T.heap.size, rfl, cls, ce, locs, hx U hWs.alike f1 (fun q hq => f2 q hq (fun z hz => nomatch hz)), hce, hO.vm, hcl, hWs, hall, hf⟩⟩
  refine st1 _ ?_
  show Steps p.tables e below (T1.setTop { method := m, pc := pc + 3, locals := ls, stack := .ref T.heap.size :: rest, locked := none }) _
  jvm_step X₁.here [X₁.here.top, hexec, d3', Value.category]
  exact hsteps
/-- 'throw new E("text")': new; dup; ldc; invokespecial; athrow -/
theorem vx_throwS {cc : ByteArray} {pc : Nat} (hexec : p.tables.exec = Jvm.exec) (hb : c.code = cc) (hl : l.stackTraces = false) {own cls text : String} {names : List String} {ik is ic mc ms sa : Nat} {A : Nat → Prop}
    (hown : s.vm.findClass own = some m.cls) (hcls : Bundle.fit cls = true) (hnames : ∀ n ∈ names, Bundle.fit n = true)
    (hk : (Cond.classLink own ik cls).before args s = true) (hini : (Cond.initialized cls).before args s = true) (hstr : vk_R own is text sa s) (hat : ∀ w ∈ vx_atS own ic cls names, w.before args s = true)
    (hgood : ∀ w ∈ Cond.classLink own ik cls :: Cond.initialized cls :: vx_atS own ic cls names, vx_ot w = true)
    (hU : vx_Zq Bundle.tN "UNASSIGNED_STACK" Bundle.steD A s s.heap) (hN : vx_Zq Bundle.tN "SUPPRESSED_SENTINEL" Bundle.listD A s s.heap) (hS : va_S A s.heap H locs) (hsize : ls.size = c.maxLocals)
    (d0 : decode cc pc = .ok (.new ik, 3)) (d3 : decode cc (pc + 3) = .ok (.dup, 1)) (d4 : decode cc (pc + 4) = .ok (.ldc is, 2)) (d6 : decode cc (pc + 6) = .ok (.invokespecial ic, 3)) (d9 : decode cc (pc + 9) = .ok (.athrow, 1))
    (hout : ∀ x ∈ c.exceptionTable.toList, covers x (pc + 9) = false)
    (hRframes : names.length + 3 < R.frames) (hRlocals : (rest.map fun v => v.category).sum + (13 * (names.length + 1) + 43) ≤ R.locals) (hRcells : cells + 1 ≤ R.cells) (hRslots : slots + 6 ≤ R.slots) (hlocks : meth.locks = false)
    (hx : ∀ t : State, s.vm.Alike t.vm → H.size ≤ t.heap.size → (∀ q : Nat, q < H.size → t.heap[q]? = H[q]?) → XC cls s t)
    (hf : ∀ z ∈ locs, free z.base) (hc : cells + 1 ≤ mc) (hs : slots + 6 ≤ ms) :
    W p l e R s m args below meth c H locs cells slots (vx_MQ below Qc XC args s mc ms free) (F0 m pc ls rest) := by
  intro T hT X
  have htr : e.platform.stackTraces = false := (show e.platform.stackTraces = l.stackTraces by rw [X.admits.platform]).trans hl
  have Y := vx_rebase X (R' := { frames := R.frames, locals := R.locals, cells := 1, slots := 6 }) (Nat.le_refl _) (Nat.le_refl _) hRcells hRslots
  obtain ⟨s', hA⟩ : ∃ z, z = (T.setVm s.vm).setFrames (.invoking m args :: below) := ⟨_, rfl⟩
  rw [← hA] at Y
  have hvm : s'.vm = s.vm := by rw [hA]; rfl
  have hhp : s'.heap = H := by rw [hA]; exact hT
  have hW0 : s.WarmedH s'.vm := by rw [hvm]; exact State.WarmedH.refl s
  have hat' : ∀ w ∈ vx_atS own ic cls names, w.before args s' = true := fun w hw => vx_ot_at hW0 hvm.symm (hgood w (List.mem_cons_of_mem _ (List.mem_cons_of_mem _ hw))) (hat w hw)
  have hk' : (Cond.classLink own ik cls).before args s' = true := vx_ot_at hW0 hvm.symm (hgood _ List.mem_cons_self) hk
  have hini' : (Cond.initialized cls).before args s' = true := vx_ot_at hW0 hvm.symm (hgood _ (List.mem_cons_of_mem _ List.mem_cons_self)) hini
  have hU' : vx_Zq Bundle.tN "UNASSIGNED_STACK" Bundle.steD A s' s'.heap := by rw [hhp]; exact vx_Zq.moved hW0.alike (hU.kept hS.2.1)
  have hN' : vx_Zq Bundle.tN "SUPPRESSED_SENTINEL" Bundle.listD A s' s'.heap := by rw [hhp]; exact vx_Zq.moved hW0.alike (hN.kept hS.2.1)
  have h : ∀ w ∈ Bundle.ownAtoms own ic cls names, w.before args s' = true := vx_own hat' (vx_isRefq hU'.1) (vx_isRefq hN'.1) hU'.2.word hN'.2.word
  have hown' : s'.vm.findClass own = some m.cls := by rw [hvm]; exact hown
  have hins : (Cond.instantiable cls 6).before args s' = true := h _ (by simp [Bundle.ownAtoms])
  obtain ⟨vm₁, cX, kX, hfX, hkX, -, -, X₁, st1⟩ := Y.newCold hexec (own := own) (C := cls) (index := ik) (n := 6) hown' hk' hins hini'
    (g := F0 m pc ls rest) rfl (by rw [hb]; exact d0) (Nat.le_refl _) (Nat.le_refl _)
  generalize hT1 : (T.setVm vm₁).pushCell { cls := cX, slots := kX.instanceTypes.map defaultValue, vm := .none } = T1 at X₁ st1
  have hcat : (Value.ref T.heap.size).category = 1 := rfl
  have hcellA : T1.heap[T.heap.size]? = some (freshCell cX kX) := by rw [← hT1]; exact State.heap_pushCell_size _ _
  have d3' : decode c.code (pc + 3) = .ok (.dup, 1) := by rw [hb]; exact d3
  have d4' : decode c.code (pc + 4) = .ok (.ldc is, 2) := by rw [hb]; exact d4
  have hstr' : vk_R own is text sa s' := vk_R.warm hW0 hstr
  obtain ⟨U, hsteps, hrun, hend, hW, hsame, ce, hce, hO⟩ := X₁.ctorThrowS hexec htr (own := own) (cls := cls) (names := names) (ic := ic) hown' hcls hnames h (fun x hx => nomatch hx) hfX hkX hcellA (by rw [hhp, hT]; exact Nat.le_refl _) (msg := .ref sa) rfl
    (g := { method := m, pc := pc + 6, locals := ls, stack := .ref sa :: .ref T.heap.size :: .ref T.heap.size :: rest, locked := none }) rfl hsize rfl rfl (rest := rest) rfl
    (by rw [hb]; exact d6) (by rw [hb]; exact d9) hout hRframes (by simp only [List.map_cons, List.sum_cons, hcat]; omega) hlocks
  obtain ⟨f1, f2⟩ := vx_frame hsame
  rw [hhp] at f1 f2
  have hWs : s.WarmedH U.vm := State.WarmedH.trans hW0 hW
  have hcl : s.vm.findClass cls = some ce.cls := by
    have h9 := hO.cls
    rw [hvm] at h9
    exact h9
  have hall : s.sameButNew ({ U with vm := s.vm } : State) locs mc ms := by
    subst hA
    obtain ⟨e1, e2⟩ := hsame
    rw [State.setFrames_setFrames] at e1
    have h2 : (T.setVm s.vm).sameButNew ({ U with vm := s.vm } : State) [] (0 + 1) (0 + 6) := ⟨e1, e2⟩
    have h3 := X.same.trans h2
    rw [List.append_nil] at h3
    exact h3.mono hc hs
  refine ⟨U, ?_, .threw T.heap.size, hrun, hend, Or.inr ⟨T.heap.size, rfl, cls, ce, locs, hx U hWs.alike f1 (fun q hq => f2 q hq (fun z hz => nomatch hz)), hce, hO.vm, hcl, hWs, hall, hf⟩⟩
  refine st1 _ ?_
  show Steps p.tables e below (T1.setTop { method := m, pc := pc + 3, locals := ls, stack := .ref T.heap.size :: rest, locked := none }) _
  jvm_step X₁.here [X₁.here.top, hexec, d3', Value.category]
  exact X₁.ldcString hexec (own := own) (text := text) (index := is) (a := sa) hown' hstr'.1 hstr'.2
    (g := { method := m, pc := pc + 4, locals := ls, stack := .ref T.heap.size :: .ref T.heap.size :: rest, locked := none }) rfl d4' _ hsteps
/-- 'throw new E("text")', the text by a wide index -/
theorem vx_throwSW {cc : ByteArray} {pc : Nat} (hexec : p.tables.exec = Jvm.exec) (hb : c.code = cc) (hl : l.stackTraces = false) {own cls text : String} {names : List String} {ik is ic mc ms sa : Nat} {A : Nat → Prop}
    (hown : s.vm.findClass own = some m.cls) (hcls : Bundle.fit cls = true) (hnames : ∀ n ∈ names, Bundle.fit n = true)
    (hk : (Cond.classLink own ik cls).before args s = true) (hini : (Cond.initialized cls).before args s = true) (hstr : vk_R own is text sa s) (hat : ∀ w ∈ vx_atS own ic cls names, w.before args s = true)
    (hgood : ∀ w ∈ Cond.classLink own ik cls :: Cond.initialized cls :: vx_atS own ic cls names, vx_ot w = true)
    (hU : vx_Zq Bundle.tN "UNASSIGNED_STACK" Bundle.steD A s s.heap) (hN : vx_Zq Bundle.tN "SUPPRESSED_SENTINEL" Bundle.listD A s s.heap) (hS : va_S A s.heap H locs) (hsize : ls.size = c.maxLocals)
    (d0 : decode cc pc = .ok (.new ik, 3)) (d3 : decode cc (pc + 3) = .ok (.dup, 1)) (d4 : decode cc (pc + 4) = .ok (.ldc_w is, 3)) (d7 : decode cc (pc + 7) = .ok (.invokespecial ic, 3)) (d10 : decode cc (pc + 10) = .ok (.athrow, 1))
    (hout : ∀ x ∈ c.exceptionTable.toList, covers x (pc + 10) = false)
    (hRframes : names.length + 3 < R.frames) (hRlocals : (rest.map fun v => v.category).sum + (13 * (names.length + 1) + 43) ≤ R.locals) (hRcells : cells + 1 ≤ R.cells) (hRslots : slots + 6 ≤ R.slots) (hlocks : meth.locks = false)
    (hx : ∀ t : State, s.vm.Alike t.vm → H.size ≤ t.heap.size → (∀ q : Nat, q < H.size → t.heap[q]? = H[q]?) → XC cls s t)
    (hf : ∀ z ∈ locs, free z.base) (hc : cells + 1 ≤ mc) (hs : slots + 6 ≤ ms) :
    W p l e R s m args below meth c H locs cells slots (vx_MQ below Qc XC args s mc ms free) (F0 m pc ls rest) := by
  intro T hT X
  have htr : e.platform.stackTraces = false := (show e.platform.stackTraces = l.stackTraces by rw [X.admits.platform]).trans hl
  have Y := vx_rebase X (R' := { frames := R.frames, locals := R.locals, cells := 1, slots := 6 }) (Nat.le_refl _) (Nat.le_refl _) hRcells hRslots
  obtain ⟨s', hA⟩ : ∃ z, z = (T.setVm s.vm).setFrames (.invoking m args :: below) := ⟨_, rfl⟩
  rw [← hA] at Y
  have hvm : s'.vm = s.vm := by rw [hA]; rfl
  have hhp : s'.heap = H := by rw [hA]; exact hT
  have hW0 : s.WarmedH s'.vm := by rw [hvm]; exact State.WarmedH.refl s
  have hat' : ∀ w ∈ vx_atS own ic cls names, w.before args s' = true := fun w hw => vx_ot_at hW0 hvm.symm (hgood w (List.mem_cons_of_mem _ (List.mem_cons_of_mem _ hw))) (hat w hw)
  have hk' : (Cond.classLink own ik cls).before args s' = true := vx_ot_at hW0 hvm.symm (hgood _ List.mem_cons_self) hk
  have hini' : (Cond.initialized cls).before args s' = true := vx_ot_at hW0 hvm.symm (hgood _ (List.mem_cons_of_mem _ List.mem_cons_self)) hini
  have hU' : vx_Zq Bundle.tN "UNASSIGNED_STACK" Bundle.steD A s' s'.heap := by rw [hhp]; exact vx_Zq.moved hW0.alike (hU.kept hS.2.1)
  have hN' : vx_Zq Bundle.tN "SUPPRESSED_SENTINEL" Bundle.listD A s' s'.heap := by rw [hhp]; exact vx_Zq.moved hW0.alike (hN.kept hS.2.1)
  have h : ∀ w ∈ Bundle.ownAtoms own ic cls names, w.before args s' = true := vx_own hat' (vx_isRefq hU'.1) (vx_isRefq hN'.1) hU'.2.word hN'.2.word
  have hown' : s'.vm.findClass own = some m.cls := by rw [hvm]; exact hown
  have hins : (Cond.instantiable cls 6).before args s' = true := h _ (by simp [Bundle.ownAtoms])
  obtain ⟨vm₁, cX, kX, hfX, hkX, -, -, X₁, st1⟩ := Y.newCold hexec (own := own) (C := cls) (index := ik) (n := 6) hown' hk' hins hini'
    (g := F0 m pc ls rest) rfl (by rw [hb]; exact d0) (Nat.le_refl _) (Nat.le_refl _)
  generalize hT1 : (T.setVm vm₁).pushCell { cls := cX, slots := kX.instanceTypes.map defaultValue, vm := .none } = T1 at X₁ st1
  have hcat : (Value.ref T.heap.size).category = 1 := rfl
  have hcellA : T1.heap[T.heap.size]? = some (freshCell cX kX) := by rw [← hT1]; exact State.heap_pushCell_size _ _
  have d3' : decode c.code (pc + 3) = .ok (.dup, 1) := by rw [hb]; exact d3
  have d4' : decode c.code (pc + 4) = .ok (.ldc_w is, 3) := by rw [hb]; exact d4
  have hstr' : vk_R own is text sa s' := vk_R.warm hW0 hstr
  obtain ⟨U, hsteps, hrun, hend, hW, hsame, ce, hce, hO⟩ := X₁.ctorThrowS hexec htr (own := own) (cls := cls) (names := names) (ic := ic) hown' hcls hnames h (fun x hx => nomatch hx) hfX hkX hcellA (by rw [hhp, hT]; exact Nat.le_refl _) (msg := .ref sa) rfl
    (g := { method := m, pc := pc + 7, locals := ls, stack := .ref sa :: .ref T.heap.size :: .ref T.heap.size :: rest, locked := none }) rfl hsize rfl rfl (rest := rest) rfl
    (by rw [hb]; exact d7) (by rw [hb]; exact d10) hout hRframes (by simp only [List.map_cons, List.sum_cons, hcat]; omega) hlocks
  obtain ⟨f1, f2⟩ := vx_frame hsame
  rw [hhp] at f1 f2
  have hWs : s.WarmedH U.vm := State.WarmedH.trans hW0 hW
  have hcl : s.vm.findClass cls = some ce.cls := by
    have h9 := hO.cls
    rw [hvm] at h9
    exact h9
  have hall : s.sameButNew ({ U with vm := s.vm } : State) locs mc ms := by
    subst hA
    obtain ⟨e1, e2⟩ := hsame
    rw [State.setFrames_setFrames] at e1
    have h2 : (T.setVm s.vm).sameButNew ({ U with vm := s.vm } : State) [] (0 + 1) (0 + 6) := ⟨e1, e2⟩
    have h3 := X.same.trans h2
    rw [List.append_nil] at h3
    exact h3.mono hc hs
  refine ⟨U, ?_, .threw T.heap.size, hrun, hend, Or.inr ⟨T.heap.size, rfl, cls, ce, locs, hx U hWs.alike f1 (fun q hq => f2 q hq (fun z hz => nomatch hz)), hce, hO.vm, hcl, hWs, hall, hf⟩⟩
  refine st1 _ ?_
  show Steps p.tables e below (T1.setTop { method := m, pc := pc + 3, locals := ls, stack := .ref T.heap.size :: rest, locked := none }) _
  jvm_step X₁.here [X₁.here.top, hexec, d3', Value.category]
  exact X₁.ldcStringW hexec (own := own) (text := text) (index := is) (a := sa) hown' hstr'.1 hstr'.2
    (g := { method := m, pc := pc + 4, locals := ls, stack := .ref T.heap.size :: .ref T.heap.size :: rest, locked := none }) rfl d4' _ hsteps
end Ends
section Bodies
variable {l : Launch}
theorem vx_ofW {y : MethodName} {ws ws' : List Cond} {rm : Room} {Pc : Array Value → State → Prop} {Qc : Array Value → State → Outcome → State → Prop} {XC : String → State → State → Prop} {mc ms : Nat} {free : Addr → Prop} {cc : ByteArray} {maxL : Nat} {ret : Option FieldType}
    (hy : plainName y.cls = true) (hw : ws = Cond.code y cc maxL ret :: ws')
    (body : ∀ p e s m args below meth c s₁, BodyLoose p l y (headSpec ws rm) cc maxL ret e s m args below meth c s₁ → c.maxLocals = maxL → (∀ x ∈ c.exceptionTable.toList, False) → Pc args s →
      W p l e (headSpec ws rm).room s m args below meth c s.heap [] 0 0 (vx_MQ below Qc XC args s mc ms free) (entryFrame m args maxL)) : vx_Met l y ws rm Pc Qc XC mc ms free := by
  refine MetFree.of_bodyS (code := cc) (maxLocals := maxL) (ret := ret) hy ?_ ?_
  · intro args s m h hn
    obtain ⟨meth, c, h1, h2, h3, h4, h5, h6, -, -⟩ := Cond.code_spec hn (atoms_spec (ws := ws) h _ (by rw [hw]; exact List.mem_cons_self))
    exact ⟨meth, c, h1, h2, h3, h4, h5, h6⟩
  · intro p e s m args below meth c s₁ B hml hP _
    have hh0 : s₁.heap = s.heap := by rw [B.state]; rfl
    have ht : ∀ x ∈ c.exceptionTable.toList, False := by
      obtain ⟨meth9, c9, h1, h2, -, -, -, -, h7, -⟩ := Cond.code_spec B.named (atoms_spec (ws := ws) B.pre _ (by rw [hw]; exact List.mem_cons_self))
      cases Option.some.inj (h1.symm.trans B.method)
      cases Option.some.inj (h2.symm.trans (Stand.of_body B).code)
      intro x hx
      rw [Array.isEmpty_iff.mp h7] at hx
      cases hx
    obtain ⟨t, a1, o, b1, b2, b3⟩ := body p e s m args below meth c s₁ B hml ht hP s₁ hh0 (Stand.of_body B)
    exact ⟨t, o, a1, b1, b2, b3⟩
/-- the table of a body with handlers -/
theorem vx_table {p : Program} {x y : MethodName} {S : Spec} {cc bytes : ByteArray} {maxL maxL' : Nat} {ret ret' : Option FieldType} {e : Env} {s s₁ : State} {m : MethodId} {args : Array Value} {below : List Frame} {meth : Method} {c : Code} {hh : List (Nat × Nat × Nat × Nat)}
    (B : BodyLoose p l y S cc maxL ret e s m args below meth c s₁) (h : (Cond.codeWith y bytes maxL' ret' hh).before args s = true) : c.exceptionTable.toList = tableOf hh := by
  obtain ⟨m9, meth9, c9, hn9, h1, h2, -, -, h6, -⟩ := Cond.codeWith_spec h
  cases Option.some.inj (hn9.symm.trans B.named)
  cases Option.some.inj (h1.symm.trans B.method)
  cases Option.some.inj (h2.symm.trans (Stand.of_body B).code)
  rw [← h6, table_eq]
end Bodies
end VXA
/-! ===== END ===== -/
/-! ===== BEGIN a static call of a method with an exception table ===== -/
section VXS
variable {p : Program} {l : Launch} {e : Env} {R : Room} {s : State} {m : MethodId} {args : Array Value} {below : List Frame} {meth : Method} {c : Code} {T : State} {H : Heap} {locs : List Loc} {cells slots : Nat}
abbrev vx_CSW (R : Room) (s : State) (args : Array Value) (own : String) (index : Nat) (y : MethodName) (bytes : ByteArray) (maxL : Nat) (ret : Option FieldType) (hh : List (Nat × Nat × Nat × Nat)) (ws : List Cond) (rm : Room) (mc ms n : Nat) : Prop :=
  (rm.cells = mc ∧ rm.slots = ms ∧ rm.frames + 1 ≤ R.frames ∧ 8 + (maxL + 11) + rm.locals ≤ R.locals ∧ (∀ w ∈ ws, ∀ (a' : Array Value) (U : State), s.WarmedH U.vm → w.before a' U = true) ∧ Cond.codeWith y bytes maxL ret hh ∈ ws) ∧
  (Cond.codeWith y bytes maxL ret hh).before args s = true ∧ (Cond.initialized y.cls).before args s = true ∧ (y.cls ≠ "java/lang/invoke/MethodHandle" ∧ y.cls ≠ "java/lang/invoke/VarHandle") ∧
  (∀ sig, parseMethodDescriptor y.desc = some sig → n = sig.parameters.length) ∧ (Cond.methodLink own index y).before args s = true ∧ (Cond.static y).before args s = true
theorem vx_cwSW {own : String} {index maxL mc ms : Nat} {y : MethodName} {bytes : ByteArray} {ret : Option FieldType} {hh : List (Nat × Nat × Nat × Nat)} {Ts ws ws' : List Cond} {rm : Room} (n : Nat) (ht : ∀ w ∈ Ts, w.before args s = true) (hT : GoodIn Ts (va_wsS own index y ws)) (hw : ws = Cond.codeWith y bytes maxL ret hh :: ws') (hrc : rm.cells = mc) (hrs : rm.slots = ms)
    (hd : y.cls ≠ "java/lang/invoke/MethodHandle" ∧ y.cls ≠ "java/lang/invoke/VarHandle" ∧ (parseMethodDescriptor y.desc).map (fun d => d.parameters.length) = some n) (hR : rm.frames + 1 ≤ R.frames ∧ 8 + (maxL + 11) + rm.locals ≤ R.locals) :
    vx_CSW R s args own index y bytes maxL ret hh ws rm mc ms n := by
  have ok : ∀ w ∈ va_wsS own index y ws, w.before args s = true := fun w h => ht w (hT w h).1
  have hG : GoodIn Ts ws := fun w h => hT w (by unfold va_wsS; exact List.mem_append_right _ h)
  have hc : Cond.codeWith y bytes maxL ret hh ∈ ws := by rw [hw]; exact List.mem_cons_self
  refine ⟨⟨hrc, hrs, hR.1, hR.2, pay_in ht hG, hc⟩, ht _ (hG _ hc).1, ok _ (by simp [va_wsS]), ⟨hd.1, hd.2.1⟩, fun sig h => ?_, ok _ (by simp [va_wsS]), ok _ (by simp [va_wsS])⟩
  have h2 := hd.2.2
  rw [h] at h2
  exact (Option.some.inj h2).symm
theorem vx_callSW (X : Stand p l e R s m args below meth c T locs cells slots) (hexec : p.tables.exec = Jvm.exec) {own : String} {index : Nat} {y : MethodName} {bytes : ByteArray} {maxL : Nat} {ret : Option FieldType} {hh : List (Nat × Nat × Nat × Nat)}
    (hown : s.vm.findClass own = some m.cls) (hlink : (Cond.methodLink own index y).before args s = true) (hstat : (Cond.static y).before args s = true) (hinit : (Cond.initialized y.cls).before args s = true)
    (hcode : (Cond.codeWith y bytes maxL ret hh).before args s = true) (hy : y.cls ≠ "java/lang/invoke/MethodHandle" ∧ y.cls ≠ "java/lang/invoke/VarHandle")
    {W9 : Nat} {Pre : Pt → Array Value → Prop} {Post : Pt → Array Value → Option Value → Pt → Prop} (hK : Back l R p e below s args y 3 W9 Pre Post)
    {g : JFrame} (hg : g.method = m) (hsize : g.locals.size = c.maxLocals) {argsL rest : List Value} (hlen : ∀ sig, parseMethodDescriptor y.desc = some sig → argsL.length = sig.parameters.length)
    (hstack : g.stack = argsL.reverse ++ rest) (hW : 2 * g.monitorRoom + (rest.map fun v => v.category).sum ≤ W9) (hdg : decode c.code g.pc = .ok (.invokestatic index, 3))
    (hpre : ∀ vm₁, s.WarmedH vm₁ → Pre ⟨T.setVm vm₁, locs, cells, slots⟩ argsL.toArray) :
    ∃ (v : Option Value) (vm₁ : Vm) (B : Pt), s.WarmedH vm₁ ∧ Stand p l e R s m args below meth c B.U B.locs B.cells B.slots ∧ Post ⟨T.setVm vm₁, locs, cells, slots⟩ argsL.toArray v B ∧
      ∀ target, Steps p.tables e below (B.U.setTop { g with pc := g.pc + 3, stack := v.toList ++ rest }) target → Steps p.tables e below (T.setTop g) target := by
  obtain ⟨mk, methM, cM, hnamed, hmethM, -, -, -, -, -, -, hsigM⟩ := Cond.codeWith_spec hcode
  have hstatic : methM.isStatic = true := Cond.static_spec hnamed hmethM hstat
  obtain ⟨kP, hkP, -⟩ := className_of_methodNamed hnamed
  have hinitP : kP.init = .initialized := Cond.initialized_spec (findClass_of_methodNamed hnamed) hkP hinit
  obtain ⟨vm₁, X₁, hstep₁⟩ := X.invokestatic hexec hown hlink hnamed hmethM hstatic hkP hinitP hy (g := g) hg (argsL := argsL) (rest := rest) (hlen _ hsigM) hstack hdg
  obtain ⟨v, B, X', hpost, hsteps⟩ := hK m meth c ⟨T.setVm vm₁, locs, cells, slots⟩ { g with stack := rest } (.invokestatic index) mk argsL.toArray X₁ hg hsize hdg hW (X₁.named hnamed) (hpre vm₁ X₁.warmed)
  exact ⟨v, vm₁, B, X₁.warmed, X', hpost, fun target h => hstep₁ _ fun acts => by rw [doInvoke_state]; exact hsteps.trans h⟩
theorem vx_runSW {y : MethodName} {bytes cc : ByteArray} {maxL nL mc ms n index : Nat} {ret : Option FieldType} {hh : List (Nat × Nat × Nat × Nat)} {ws : List Cond} {rm : Room} {Pc : Array Value → State → Prop} {Qc : Array Value → State → Outcome → State → Prop} {free : Addr → Prop} {Ts : List Cond} {own : String} {As rest : List Value} {g : JFrame}
    (S : CallFix p m c cc nL s args Ts own) (hM : Met l y ws rm Pc Qc mc ms free) (cw : vx_CSW R s args own index y bytes maxL ret hh ws rm mc ms n) (hp : PreS s H Pc As)
    (hg : g.method = m) (hn : As.length = n) (hsize : g.locals.size = nL) (hstack : g.stack = As.reverse ++ rest) (hW : 2 * g.monitorRoom + (rest.map fun v => v.category).sum ≤ 8) (hdg : decode cc g.pc = .ok (.invokestatic index, 3)) (hf : cells + mc ≤ R.cells ∧ slots + ms ≤ R.slots) :
    va_Run p l e R s m args below meth c H locs cells slots mc ms g rest (Qc As.toArray) (free) := by
  obtain ⟨⟨hrc, hrs, hfr, hlo, hws, hcw⟩, hcode, hini, hy, hlen, hl, hstt⟩ := cw
  have hK : Back l R p e below s args y 3 8 (PreOf R mc ms Pc) (PostOf Qc mc ms free) := va_backW (hh := hh) (bytes := bytes) (maxL := maxL) (ret := ret) hM hp.1 hrc hrs hfr hlo hws hcw (fun a' U hW => word_at hW (Or.inl (by first | rfl | simp [Cond.onTables, Cond.keeps, Cond.steady])) hini)
  obtain ⟨hx, hb, hml, ho, -⟩ := S
  intro T hT X
  obtain ⟨v, vm₁, ⟨U', l2, c2, s2⟩, hW₁, X', ⟨g', mk, t, L, e1, e2, hq, h1, hL, h2, h3⟩, st⟩ := vx_callSW X hx (hh := hh) (bytes := bytes) (maxL := maxL) (ret := ret) ho hl hstt hini hcode hy hK hg (hsize.trans hml.symm) (argsL := As) (rest := rest) (fun sig h => hn.trans (hlen sig h)) hstack hW (by rw [hb]; exact hdg)
    (fun vm₁ hW₁ => ⟨hf.1, hf.2, hp.2 (T.setVm vm₁) hT hW₁⟩)
  dsimp only [Pt.U, Pt.locs, Pt.cells, Pt.slots] at X' e1 e2 h1 h2 h3 st
  subst h1; subst h2; subst h3
  exact ⟨v, (T.setVm vm₁).calling g' mk As.toArray, t, U', L, hT, X', hL, e1, e2, hq, st⟩
/-- not caught here, past rows that name other classes: it goes on to the caller -/
theorem vx_outP {p : Program} {l : Launch} {e : Env} {R : Room} {s : State} {m : MethodId} {args : Array Value} {below : List Frame} {meth : Method} {c : Code} {H : Heap} {locs : List Loc} {cells slots : Nat} {free : Addr → Prop} {ls : Array Slot} {rest : List Value} {Qc : Array Value → State → Outcome → State → Prop} {XC : String → State → State → Prop}
    {pc : Nat} {own E : String} {ce : Cell} {q : Addr} {mc ms : Nat} (hown : s.vm.findClass own = some m.cls) (hlocks : meth.locks = false)
    (hpass : ∀ z ∈ c.exceptionTable.toList, covers z pc = false ∨ (z.catchType ≠ 0 ∧ ∃ nm : String, (Cond.classLink own z.catchType nm).before args s = true ∧ va_Nc E nm s)) (hcell : H[q]? = some ce) (hv : ce.vm = .none) (hcl : s.vm.findClass E = some ce.cls)
    (hx : ∀ t : State, t.heap = H → s.vm.Alike t.vm → XC E s t) (hf : ∀ z ∈ locs, free z.base) (hc : cells ≤ mc) (hs : slots ≤ ms) :
    vx_W p l e R s m args below meth c H locs cells slots (vx_MQ below Qc XC args s mc ms free) (F0 m pc ls rest) q := by
  intro T hT X
  have hpl : e.platform.magicAccessors = ({} : Platform).magicAccessors := by rw [X.admits.platform]
  obtain ⟨vm', hW', X', st⟩ := X.outThrough hlocks q (g := F0 m pc ls rest) rfl rfl rfl (cell := ce) (by rw [hT]; exact hcell) (by rw [hv]; rfl)
    (by obtain ⟨k9, h9, -⟩ := Vm.findClass_spec hcl; exact ⟨k9, h9⟩) (fun z hz => by
      rcases hpass z hz with h | ⟨hz0, nm, hl1, hn1⟩
      · exact Or.inl h
      · obtain ⟨c6, hc6, hcl6⟩ := Cond.classLink_spec hown hl1 e.platform hpl
        obtain ⟨a8, b8, h1, h2, h3⟩ := hn1
        cases Option.some.inj (h1.symm.trans hcl)
        cases Option.some.inj (h2.symm.trans hc6)
        exact Or.inr ⟨hz0, _, hcl6, h3⟩)
  obtain ⟨g₀, hfr⟩ := X'.frames_eq
  have hcell9 : ((T.setVm vm').setFrames (.throwing q :: below)).heap[q]? = some ce := by
    show T.heap[q]? = some ce
    rw [hT]; exact hcell
  have hend : Ended ((T.setVm vm').setFrames (.throwing q :: below)) below (.threw q) := State.frames_setFrames _ (State.cur_lt_of_frames hfr)
  refine ⟨(T.setVm vm').setFrames (.throwing q :: below), ?_, .threw q, X'.here.running, hend, Or.inr ⟨q, rfl, E, ce, locs, hx _ hT (X'.ends _).1.alike, hcell9, hv, hcl, (X'.ends _).1, (X'.ends _).2.mono hc hs, hf⟩⟩
  rw [X.pushThrowing_eq]
  exact st
/-- a thing of a world lies in the heap -/
theorem vx_lt {D : va_G} {cl : List vw_C} {ws : va_W} {H1 : Heap} (h : va_P D cl ws H1) {k : Nat} {q : Nat × va_E} (hk : ws[k]? = some q) : q.1 < H1.size := (h k q hk).lt
end VXS
/-! ===== END ===== -/
/-! ===== BEGIN methods with a table of their own: called by a name, returning or throwing ===== -/
section VXH
/-! vx_backW, vx_callVX, vx_callSX, vx_callVW, vx_runVW, vx_runVX, vx_runSX, vx_ofWH follow the same proofs as their sisters above (Free/Laws.lean, Shelf42/LK1.lean); vx_outP calls Shelf42/NT130.lean (outThrough). -/
section
variable {l : Launch} {R : Room} {p : Program} {e : Env} {below : List Frame} {s : State} {sargs : Array Value} {y : MethodName} {len W9 : Nat}
theorem vx_backW {ws : List Cond} {rm : Room} {Pc : Array Value → State → Prop} {Qc : Array Value → State → Outcome → State → Prop} {XC : String → State → State → Prop} {mc ms : Nat} {free : Addr → Prop} {bytes : ByteArray} {maxL : Nat} {ret : Option FieldType} {hh : List (Nat × Nat × Nat × Nat)}
    (hM : vx_Met l y ws rm Pc Qc XC mc ms free) (hblind : FrameBlind Pc) (hrc : rm.cells = mc) (hrs : rm.slots = ms)
    (hframes : rm.frames + 1 ≤ R.frames) (hlocals : W9 + (maxL + 11) + rm.locals ≤ R.locals)
    (hws : ∀ w ∈ ws, ∀ a' U, s.WarmedH U.vm → w.before a' U = true) (hcode : Cond.codeWith y bytes maxL ret hh ∈ ws) (hinit : ∀ a' U, s.WarmedH U.vm → (Cond.initialized y.cls).before a' U = true) :
    vx_Back l R p e below s sargs y len W9 (PreOf R mc ms Pc) (PostOf Qc mc ms free) (vx_Post XC mc ms free) := by
  intro m meth c A g ig mk a X hg hsize hdg hW hn hp
  have h1 : (headSpec ws rm).pre.before a A.U = true := atoms_intro fun w hw => hws w hw _ _ X.warmed
  have h2 : (Cond.codeWith y bytes maxL ret hh).before a A.U = true := hws _ hcode _ _ X.warmed
  have h3 : (Cond.initialized y.cls).before a A.U = true := hinit _ _ X.warmed
  have h4 : A.cells + (headSpec ws rm).room.cells ≤ R.cells := by rw [show (headSpec ws rm).room.cells = mc from hrc]; exact hp.1
  have h5 : A.slots + (headSpec ws rm).room.slots ≤ R.slots := by rw [show (headSpec ws rm).room.slots = ms from hrs]; exact hp.2.1
  have hPc : Pc a (A.U.calling g mk a) := hblind _ _ _ _ hp.2.2
  obtain ⟨U, Ls, c0, s0⟩ := A
  dsimp only [Pt.U, Pt.locs, Pt.cells, Pt.slots] at h1 h2 h3 h4 h5 X hn hPc ⊢
  obtain ⟨m9, methY, cY, hn9, hmY, hcY, -, hlY, -⟩ := Cond.codeWith_spec h2
  cases Option.some.inj (hn9.symm.trans hn)
  obtain ⟨kY, hkY, -⟩ := className_of_methodNamed hn
  have hinitY : kY.init = .initialized := Cond.initialized_spec (findClass_of_methodNamed hn) hkY h3
  have h : At U g.method c below := by rw [hg]; exact X.here
  have hlocals9 : W9 + (maxL + 11) + (headSpec ws rm).room.locals ≤ R.locals := hlocals
  have happ : (headSpec ws rm).appliesLoose y e.platform (U.calling g mk a) = true :=
    Spec.appliesLoose_calling (g := g) h hdg hn hkY hinitY
      (X.room_calling (g := g) (R' := (headSpec ws rm).room) hsize hmY hcY hframes (by rw [hlY]; omega) h4 h5) h1
  obtain ⟨mid, hmid⟩ := h.above
  have hfr : (U.setTop g).frames = (.java g :: mid) ++ below := by rw [State.frames_setTop' g h.top, hmid]; rfl
  obtain ⟨o, s₂, hsteps, -, hend, hq⟩ := Steps.callFree hM p X.admits X.cas X.clock (acts := []) hfr happ hPc trivial
  have hq' : vx_Q Qc XC mc ms free a (U.calling g mk a) o s₂ := hq
  rw [State.frames_setTop' g h.top] at hend
  obtain ⟨g₀, hg0⟩ := Option.isSome_iff_exists.mp h.top
  obtain ⟨r, hr⟩ := State.topJava?_eq_some.mp hg0
  have hr' : (({ U with heap := s₂.heap, slotsUsed := s₂.slotsUsed } : State).setVm s₂.vm).frames = .java g₀ :: r := hr
  rcases hq' with ⟨hqc, L, hfe, hL⟩ | ⟨q, rfl, E, ce, L, hx, hce, hcv, hcl, hW₂, hsm, hL⟩
  · obtain ⟨⟨v, rfl⟩, hW₂, e2, q2, q3, q4, q5, q6⟩ := id hfe
    have e3 : s₂ = ({ (U.calling g mk a).setFrames s₂.frames with heap := s₂.heap, slotsUsed := s₂.slotsUsed } : State).setVm s₂.vm := by
      have : s₂ = ({ s₂ with vm := (U.calling g mk a).vm } : State).setVm s₂.vm := rfl
      rw [e2] at this
      exact this
    obtain ⟨c₂, i₂, len₂, hc₂, hd₂, hf₂⟩ := hend
    have hW' : U.WarmedH s₂.vm := hW₂
    have hcc : c₂ = c := by
      have h1 : s₂.code? g.method = U.code? g.method := by
        rw [State.code?_eq, State.code?_eq, hW'.alike.method?]
      exact Option.some.inj (hc₂.symm.trans (h1.trans h.code))
    subst hcc
    have hlen : len₂ = len := by rw [hdg] at hd₂; cases hd₂; rfl
    subst hlen
    have hs₂ : s₂ = (({ U with heap := s₂.heap, slotsUsed := s₂.slotsUsed } : State).setVm s₂.vm).setTop { g with pc := g.pc + len₂, stack := v.toList ++ g.stack } := by
      refine e3.trans ?_
      rw [hf₂, State.calling_eq h.top, State.setFrames_setFrames, State.setTop_of_frames _ hr', hr]
      rfl
    have hsame : U.sameButNew ({ U with heap := s₂.heap, slotsUsed := s₂.slotsUsed } : State) L mc ms := by
      refine ⟨?_, q2, q3, q4, q5, q6⟩
      obtain ⟨t, ht, -⟩ := State.frames_cons hr
      show ({ U with heap := s₂.heap, slotsUsed := s₂.slotsUsed } : State) = { U.setFrames U.frames with heap := s₂.heap, slotsUsed := s₂.slotsUsed }
      rw [State.setFrames_self ht]
    subst hg
    refine Or.inl ⟨v, ⟨(({ U with heap := s₂.heap, slotsUsed := s₂.slotsUsed } : State).setVm s₂.vm), Ls ++ L, c0 + mc, s0 + ms⟩,
      ⟨X.admits, X.cas, X.clock, X.frames, X.room, X.hears, X.method, X.code, (X.here.setHeapUsed s₂.heap s₂.slotsUsed).setVm hW'.alike, X.tail, State.WarmedH.trans X.warmed hW', X.limits, X.bytes, X.same.trans (hsame.setVm s.vm)⟩,
      ⟨g, mk, s₂, L, rfl, rfl, hqc, rfl, hL, rfl, rfl⟩, ?_⟩
    show Steps p.tables e below _ ((({ U with heap := s₂.heap, slotsUsed := s₂.slotsUsed } : State).setVm s₂.vm).setTop { g with pc := g.pc + len₂, stack := v.toList ++ g.stack })
    rw [← hs₂]
    exact hsteps
  · obtain ⟨e2, q2, q3, q4, q5, q6⟩ := id hsm
    have e3 : s₂ = ({ (U.calling g mk a).setFrames s₂.frames with heap := s₂.heap, slotsUsed := s₂.slotsUsed } : State).setVm s₂.vm := by
      have : s₂ = ({ s₂ with vm := (U.calling g mk a).vm } : State).setVm s₂.vm := rfl
      rw [e2] at this
      exact this
    have hf₂ : s₂.frames = .throwing q :: .java g :: U.frames.tail := hend
    have hW' : U.WarmedH s₂.vm := hW₂
    have hs₂ : s₂ = ((({ U with heap := s₂.heap, slotsUsed := s₂.slotsUsed } : State).setVm s₂.vm).setTop g).pushFrame (.throwing q) := by
      refine e3.trans ?_
      rw [hf₂, State.calling_eq h.top, State.setFrames_setFrames, State.pushFrame, State.frames_setTop _ hr', State.setTop_of_frames _ hr', State.setFrames_setFrames, hr]
      rfl
    have hsame : U.sameButNew ({ U with heap := s₂.heap, slotsUsed := s₂.slotsUsed } : State) L mc ms := by
      refine ⟨?_, q2, q3, q4, q5, q6⟩
      obtain ⟨t, ht, -⟩ := State.frames_cons hr
      show ({ U with heap := s₂.heap, slotsUsed := s₂.slotsUsed } : State) = { U.setFrames U.frames with heap := s₂.heap, slotsUsed := s₂.slotsUsed }
      rw [State.setFrames_self ht]
    subst hg
    refine Or.inr ⟨q, ⟨(({ U with heap := s₂.heap, slotsUsed := s₂.slotsUsed } : State).setVm s₂.vm), Ls ++ L, c0 + mc, s0 + ms⟩,
      ⟨X.admits, X.cas, X.clock, X.frames, X.room, X.hears, X.method, X.code, (X.here.setHeapUsed s₂.heap s₂.slotsUsed).setVm hW'.alike, X.tail, State.WarmedH.trans X.warmed hW', X.limits, X.bytes, X.same.trans (hsame.setVm s.vm)⟩,
      ⟨g, mk, s₂, L, E, ce, rfl, rfl, hx, hce, hcv, hcl, rfl, hL, rfl, rfl⟩, ?_⟩
    show Steps p.tables e below _ (((({ U with heap := s₂.heap, slotsUsed := s₂.slotsUsed } : State).setVm s₂.vm).setTop g).pushFrame (.throwing q))
    rw [← hs₂]
    exact hsteps
end
variable {p : Program} {l : Launch} {e : Env} {R : Room} {s : State} {m : MethodId} {args : Array Value} {below : List Frame} {meth : Method} {c : Code} {T : State} {H : Heap} {locs : List Loc} {cells slots : Nat}
theorem vx_callVX (X : Stand p l e R s m args below meth c T locs cells slots) (hexec : p.tables.exec = Jvm.exec) {own C : String} {index : Nat} {y : MethodName} {bytes : ByteArray} {maxL : Nat} {ret : Option FieldType} {hh : List (Nat × Nat × Nat × Nat)}
    (hown : s.vm.findClass own = some m.cls) (hlink : (Cond.methodLink own index y).before args s = true) (hinst : (Cond.instanceMethod y).before args s = true) (hsel : (Cond.selects C y y).before args s = true)
    (hcode : (Cond.codeWith y bytes maxL ret hh).before args s = true) (hy : y.cls ≠ "java/lang/invoke/MethodHandle" ∧ y.cls ≠ "java/lang/invoke/VarHandle")
    {W9 : Nat} {Pre : Pt → Array Value → Prop} {Post : Pt → Array Value → Option Value → Pt → Prop} {PostX : Pt → Array Value → Addr → Pt → Prop} (hK : vx_Back l R p e below s args y 3 W9 Pre Post PostX)
    {b : Addr} {cellB : Cell} (hcell : T.heap[b]? = some cellB) (hobj : cellB.vm.isStatics = false) (hcls : s.vm.findClass C = some cellB.cls)
    {g : JFrame} (hg : g.method = m) (hsize : g.locals.size = c.maxLocals) {argsL rest : List Value} (hlen : ∀ sig, parseMethodDescriptor y.desc = some sig → argsL.length = sig.parameters.length)
    (hstack : g.stack = argsL.reverse ++ .ref b :: rest) (hW : 2 * g.monitorRoom + (rest.map fun v => v.category).sum ≤ W9) (hdg : decode c.code g.pc = .ok (.invokevirtual index, 3))
    (hpre : ∀ vm₁, s.WarmedH vm₁ → Pre ⟨T.setVm vm₁, locs, cells, slots⟩ (Value.ref b :: argsL).toArray) :
    (∃ (v : Option Value) (vm₁ : Vm) (B : Pt), s.WarmedH vm₁ ∧ Stand p l e R s m args below meth c B.U B.locs B.cells B.slots ∧ Post ⟨T.setVm vm₁, locs, cells, slots⟩ (Value.ref b :: argsL).toArray v B ∧
      ∀ target, Steps p.tables e below (B.U.setTop { g with pc := g.pc + 3, stack := v.toList ++ rest }) target → Steps p.tables e below (T.setTop g) target) ∨
    (∃ (q : Addr) (vm₁ : Vm) (B : Pt), s.WarmedH vm₁ ∧ Stand p l e R s m args below meth c B.U B.locs B.cells B.slots ∧ PostX ⟨T.setVm vm₁, locs, cells, slots⟩ (Value.ref b :: argsL).toArray q B ∧
      Steps p.tables e below (T.setTop g) ((B.U.setTop { g with stack := rest }).pushFrame (.throwing q))) := by
  obtain ⟨mk, methM, hnamed, hmethM, hstM, habM⟩ := Cond.instanceMethod_spec hinst
  obtain ⟨m8, methM', cM, hn8, hmethM', -, -, -, -, -, -, hsigM⟩ := Cond.codeWith_spec hcode
  cases Option.some.inj (hn8.symm.trans hnamed)
  cases hmethM.symm.trans hmethM'
  obtain ⟨c2, r2, m2, q1, q2, q3, q4, kP, hkP, hkPi⟩ := Cond.selects_spec hsel
  cases hcls.symm.trans q1
  cases (State.methodFound?_of_named hnamed hy).symm.trans q2
  cases hnamed.symm.trans q3
  have hselP : selectMethod e.platform s.vm cellB.cls mk = .method mk := by rw [Launch.admits_selectMethod X.admits]; exact q4
  obtain ⟨vm₁, X₁, hstep₁⟩ := X.invokevirtual hexec hown hlink hnamed hmethM hstM hkP hkPi hy (a := b) (cell := cellB) hcell
    (fun z h => by rw [h] at hobj; cases hobj) hselP hmethM habM hkP hkPi (g := g) hg (argsL := argsL) (rest := rest) (hlen _ hsigM) hstack hdg
  rcases hK m meth c ⟨T.setVm vm₁, locs, cells, slots⟩ { g with stack := rest } (.invokevirtual index) mk (Value.ref b :: argsL).toArray X₁ hg hsize hdg hW (X₁.named hnamed) (hpre vm₁ X₁.warmed) with ⟨v, B, X', hpost, hsteps⟩ | ⟨q, B, X', hpost, hsteps⟩
  · exact Or.inl ⟨v, vm₁, B, X₁.warmed, X', hpost, fun target h => hstep₁ _ fun acts => by rw [doInvoke_state]; exact hsteps.trans h⟩
  · exact Or.inr ⟨q, vm₁, B, X₁.warmed, X', hpost, hstep₁ _ fun acts => by rw [doInvoke_state]; exact hsteps⟩
theorem vx_callSX (X : Stand p l e R s m args below meth c T locs cells slots) (hexec : p.tables.exec = Jvm.exec) {own : String} {index : Nat} {y : MethodName} {bytes : ByteArray} {maxL : Nat} {ret : Option FieldType} {hh : List (Nat × Nat × Nat × Nat)}
    (hown : s.vm.findClass own = some m.cls) (hlink : (Cond.methodLink own index y).before args s = true) (hstat : (Cond.static y).before args s = true) (hinit : (Cond.initialized y.cls).before args s = true)
    (hcode : (Cond.codeWith y bytes maxL ret hh).before args s = true) (hy : y.cls ≠ "java/lang/invoke/MethodHandle" ∧ y.cls ≠ "java/lang/invoke/VarHandle")
    {W9 : Nat} {Pre : Pt → Array Value → Prop} {Post : Pt → Array Value → Option Value → Pt → Prop} {PostX : Pt → Array Value → Addr → Pt → Prop} (hK : vx_Back l R p e below s args y 3 W9 Pre Post PostX)
    {g : JFrame} (hg : g.method = m) (hsize : g.locals.size = c.maxLocals) {argsL rest : List Value} (hlen : ∀ sig, parseMethodDescriptor y.desc = some sig → argsL.length = sig.parameters.length)
    (hstack : g.stack = argsL.reverse ++ rest) (hW : 2 * g.monitorRoom + (rest.map fun v => v.category).sum ≤ W9) (hdg : decode c.code g.pc = .ok (.invokestatic index, 3))
    (hpre : ∀ vm₁, s.WarmedH vm₁ → Pre ⟨T.setVm vm₁, locs, cells, slots⟩ argsL.toArray) :
    (∃ (v : Option Value) (vm₁ : Vm) (B : Pt), s.WarmedH vm₁ ∧ Stand p l e R s m args below meth c B.U B.locs B.cells B.slots ∧ Post ⟨T.setVm vm₁, locs, cells, slots⟩ argsL.toArray v B ∧
      ∀ target, Steps p.tables e below (B.U.setTop { g with pc := g.pc + 3, stack := v.toList ++ rest }) target → Steps p.tables e below (T.setTop g) target) ∨
    (∃ (q : Addr) (vm₁ : Vm) (B : Pt), s.WarmedH vm₁ ∧ Stand p l e R s m args below meth c B.U B.locs B.cells B.slots ∧ PostX ⟨T.setVm vm₁, locs, cells, slots⟩ argsL.toArray q B ∧
      Steps p.tables e below (T.setTop g) ((B.U.setTop { g with stack := rest }).pushFrame (.throwing q))) := by
  obtain ⟨mk, methM, cM, hnamed, hmethM, -, -, -, -, -, -, hsigM⟩ := Cond.codeWith_spec hcode
  have hstatic : methM.isStatic = true := Cond.static_spec hnamed hmethM hstat
  obtain ⟨kP, hkP, -⟩ := className_of_methodNamed hnamed
  have hinitP : kP.init = .initialized := Cond.initialized_spec (findClass_of_methodNamed hnamed) hkP hinit
  obtain ⟨vm₁, X₁, hstep₁⟩ := X.invokestatic hexec hown hlink hnamed hmethM hstatic hkP hinitP hy (g := g) hg (argsL := argsL) (rest := rest) (hlen _ hsigM) hstack hdg
  rcases hK m meth c ⟨T.setVm vm₁, locs, cells, slots⟩ { g with stack := rest } (.invokestatic index) mk argsL.toArray X₁ hg hsize hdg hW (X₁.named hnamed) (hpre vm₁ X₁.warmed) with ⟨v, B, X', hpost, hsteps⟩ | ⟨q, B, X', hpost, hsteps⟩
  · exact Or.inl ⟨v, vm₁, B, X₁.warmed, X', hpost, fun target h => hstep₁ _ fun acts => by rw [doInvoke_state]; exact hsteps.trans h⟩
  · exact Or.inr ⟨q, vm₁, B, X₁.warmed, X', hpost, hstep₁ _ fun acts => by rw [doInvoke_state]; exact hsteps⟩
theorem vx_callVW (X : Stand p l e R s m args below meth c T locs cells slots) (hexec : p.tables.exec = Jvm.exec) {own C : String} {index : Nat} {y : MethodName} {bytes : ByteArray} {maxL : Nat} {ret : Option FieldType} {hh : List (Nat × Nat × Nat × Nat)}
    (hown : s.vm.findClass own = some m.cls) (hlink : (Cond.methodLink own index y).before args s = true) (hinst : (Cond.instanceMethod y).before args s = true) (hsel : (Cond.selects C y y).before args s = true)
    (hcode : (Cond.codeWith y bytes maxL ret hh).before args s = true) (hy : y.cls ≠ "java/lang/invoke/MethodHandle" ∧ y.cls ≠ "java/lang/invoke/VarHandle")
    {W9 : Nat} {Pre : Pt → Array Value → Prop} {Post : Pt → Array Value → Option Value → Pt → Prop} (hK : Back l R p e below s args y 3 W9 Pre Post)
    {b : Addr} {cellB : Cell} (hcell : T.heap[b]? = some cellB) (hobj : cellB.vm.isStatics = false) (hcls : s.vm.findClass C = some cellB.cls)
    {g : JFrame} (hg : g.method = m) (hsize : g.locals.size = c.maxLocals) {argsL rest : List Value} (hlen : ∀ sig, parseMethodDescriptor y.desc = some sig → argsL.length = sig.parameters.length)
    (hstack : g.stack = argsL.reverse ++ .ref b :: rest) (hW : 2 * g.monitorRoom + (rest.map fun v => v.category).sum ≤ W9) (hdg : decode c.code g.pc = .ok (.invokevirtual index, 3))
    (hpre : ∀ vm₁, s.WarmedH vm₁ → Pre ⟨T.setVm vm₁, locs, cells, slots⟩ (Value.ref b :: argsL).toArray) :
    ∃ (v : Option Value) (vm₁ : Vm) (B : Pt), s.WarmedH vm₁ ∧ Stand p l e R s m args below meth c B.U B.locs B.cells B.slots ∧ Post ⟨T.setVm vm₁, locs, cells, slots⟩ (Value.ref b :: argsL).toArray v B ∧
      ∀ target, Steps p.tables e below (B.U.setTop { g with pc := g.pc + 3, stack := v.toList ++ rest }) target → Steps p.tables e below (T.setTop g) target := by
  obtain ⟨mk, methM, hnamed, hmethM, hstM, habM⟩ := Cond.instanceMethod_spec hinst
  obtain ⟨m8, methM', cM, hn8, hmethM', -, -, -, -, -, -, hsigM⟩ := Cond.codeWith_spec hcode
  cases Option.some.inj (hn8.symm.trans hnamed)
  cases hmethM.symm.trans hmethM'
  obtain ⟨c2, r2, m2, q1, q2, q3, q4, kP, hkP, hkPi⟩ := Cond.selects_spec hsel
  cases hcls.symm.trans q1
  cases (State.methodFound?_of_named hnamed hy).symm.trans q2
  cases hnamed.symm.trans q3
  have hselP : selectMethod e.platform s.vm cellB.cls mk = .method mk := by rw [Launch.admits_selectMethod X.admits]; exact q4
  obtain ⟨vm₁, X₁, hstep₁⟩ := X.invokevirtual hexec hown hlink hnamed hmethM hstM hkP hkPi hy (a := b) (cell := cellB) hcell
    (fun z h => by rw [h] at hobj; cases hobj) hselP hmethM habM hkP hkPi (g := g) hg (argsL := argsL) (rest := rest) (hlen _ hsigM) hstack hdg
  obtain ⟨v, B, X', hpost, hsteps⟩ := hK m meth c ⟨T.setVm vm₁, locs, cells, slots⟩ { g with stack := rest } (.invokevirtual index) mk (Value.ref b :: argsL).toArray X₁ hg hsize hdg hW (X₁.named hnamed) (hpre vm₁ X₁.warmed)
  exact ⟨v, vm₁, B, X₁.warmed, X', hpost, fun target h => hstep₁ _ fun acts => by rw [doInvoke_state]; exact hsteps.trans h⟩
abbrev vx_CVW (R : Room) (s : State) (args : Array Value) (own C : String) (index : Nat) (y : MethodName) (bytes : ByteArray) (maxL : Nat) (ret : Option FieldType) (hh : List (Nat × Nat × Nat × Nat)) (ws : List Cond) (rm : Room) (mc ms n : Nat) : Prop :=
  (rm.cells = mc ∧ rm.slots = ms ∧ rm.frames + 1 ≤ R.frames ∧ 8 + (maxL + 11) + rm.locals ≤ R.locals ∧ (∀ w ∈ ws, ∀ (a' : Array Value) (U : State), s.WarmedH U.vm → w.before a' U = true) ∧ Cond.codeWith y bytes maxL ret hh ∈ ws) ∧
  (Cond.codeWith y bytes maxL ret hh).before args s = true ∧ (Cond.initialized y.cls).before args s = true ∧ (y.cls ≠ "java/lang/invoke/MethodHandle" ∧ y.cls ≠ "java/lang/invoke/VarHandle") ∧
  (∀ sig, parseMethodDescriptor y.desc = some sig → n = sig.parameters.length) ∧ (Cond.methodLink own index y).before args s = true ∧ (Cond.instanceMethod y).before args s = true ∧ (Cond.selects C y y).before args s = true
theorem vx_cwVW {own C : String} {index maxL mc ms : Nat} {y : MethodName} {bytes : ByteArray} {ret : Option FieldType} {hh : List (Nat × Nat × Nat × Nat)} {Ts ws ws' : List Cond} {rm : Room} (n : Nat) (ht : ∀ w ∈ Ts, w.before args s = true) (hT : GoodIn Ts (wsV own index C y ws)) (hw : ws = Cond.codeWith y bytes maxL ret hh :: ws') (hrc : rm.cells = mc) (hrs : rm.slots = ms)
    (hd : y.cls = C ∧ y.cls ≠ "java/lang/invoke/MethodHandle" ∧ y.cls ≠ "java/lang/invoke/VarHandle" ∧ (parseMethodDescriptor y.desc).map (fun d => d.parameters.length) = some n) (hR : rm.frames + 1 ≤ R.frames ∧ 8 + (maxL + 11) + rm.locals ≤ R.locals) :
    vx_CVW R s args own C index y bytes maxL ret hh ws rm mc ms n := by
  obtain ⟨hC, hd⟩ := hd
  subst hC
  have ok : ∀ w ∈ wsV own index y.cls y ws, w.before args s = true := fun w h => ht w (hT w h).1
  have hG : GoodIn Ts ws := fun w h => hT w (by unfold wsV; exact List.mem_append_right _ h)
  have hc : Cond.codeWith y bytes maxL ret hh ∈ ws := by rw [hw]; exact List.mem_cons_self
  refine ⟨⟨hrc, hrs, hR.1, hR.2, pay_in ht hG, hc⟩, ht _ (hG _ hc).1, ok _ (by simp [wsV]), ⟨hd.1, hd.2.1⟩, fun sig h => ?_, ok _ (by simp [wsV]), ok _ (by simp [wsV]), ok _ (by simp [wsV])⟩
  have h2 := hd.2.2
  rw [h] at h2
  exact (Option.some.inj h2).symm
theorem vx_runVW {y : MethodName} {bytes cc : ByteArray} {maxL nL mc ms n index : Nat} {ret : Option FieldType} {hh : List (Nat × Nat × Nat × Nat)} {ws : List Cond} {rm : Room} {Pc : Array Value → State → Prop} {Qc : Array Value → State → Outcome → State → Prop} {free : Addr → Prop} {Ts : List Cond} {own C : String} {b : Addr} {As rest : List Value} {g : JFrame}
    (S : CallFix p m c cc nL s args Ts own) (hM : Met l y ws rm Pc Qc mc ms free) (cw : vx_CVW R s args own C index y bytes maxL ret hh ws rm mc ms n) (hp : PreV s H C b Pc As)
    (hg : g.method = m) (hn : As.length = n) (hsize : g.locals.size = nL) (hstack : g.stack = As.reverse ++ .ref b :: rest) (hW : 2 * g.monitorRoom + (rest.map fun v => v.category).sum ≤ 8) (hdg : decode cc g.pc = .ok (.invokevirtual index, 3)) (hf : cells + mc ≤ R.cells ∧ slots + ms ≤ R.slots) :
    va_Run p l e R s m args below meth c H locs cells slots mc ms g rest (Qc (Value.ref b :: As).toArray) free := by
  obtain ⟨⟨hrc, hrs, hfr, hlo, hws, hcw⟩, hcode, hini, hy, hlen, hl, hin, hse⟩ := cw
  have hK : Back l R p e below s args y 3 8 (PreOf R mc ms Pc) (PostOf Qc mc ms free) := va_backW (hh := hh) (bytes := bytes) (maxL := maxL) (ret := ret) hM hp.1 hrc hrs hfr hlo hws hcw (fun a' U hW => word_at hW (Or.inl (by first | rfl | simp [Cond.onTables, Cond.keeps, Cond.steady])) hini)
  obtain ⟨hx, hb, hml, ho, -⟩ := S
  obtain ⟨-, ⟨cellB, hcB, hoB, hclB⟩, hPc⟩ := hp
  intro T hT X
  obtain ⟨v, vm₁, ⟨U', l2, c2, s2⟩, hW₁, X', ⟨g', mk, t, L, e1, e2, hq, h1, hL, h2, h3⟩, st⟩ := vx_callVW X hx (C := C) (hh := hh) (bytes := bytes) (maxL := maxL) (ret := ret) ho hl hin hse hcode hy hK (by rw [hT]; exact hcB) hoB hclB hg (hsize.trans hml.symm) (argsL := As) (rest := rest) (fun sig h => hn.trans (hlen sig h)) hstack hW (by rw [hb]; exact hdg)
    (fun vm₁ hW₁ => ⟨hf.1, hf.2, hPc (T.setVm vm₁) hT hW₁⟩)
  dsimp only [Pt.U, Pt.locs, Pt.cells, Pt.slots] at X' e1 e2 h1 h2 h3 st
  subst h1; subst h2; subst h3
  exact ⟨v, (T.setVm vm₁).calling g' mk (Value.ref b :: As).toArray, t, U', L, hT, X', hL, e1, e2, hq, st⟩
section
variable {y : MethodName} {bytes cc : ByteArray} {maxL nL mc ms n index : Nat} {ret : Option FieldType} {ws : List Cond} {rm : Room} {Pc : Array Value → State → Prop} {Qc : Array Value → State → Outcome → State → Prop} {XC : String → State → State → Prop} {free : Addr → Prop} {Ts : List Cond} {own C : String} {b : Addr} {As rest : List Value} {g : JFrame}
theorem vx_runVX {hh : List (Nat × Nat × Nat × Nat)} (S : CallFix p m c cc nL s args Ts own) (hM : vx_Met l y ws rm Pc Qc XC mc ms free) (cw : vx_CVW R s args own C index y bytes maxL ret hh ws rm mc ms n) (hp : PreV s H C b Pc As)
    (hg : g.method = m) (hn : As.length = n) (hsize : g.locals.size = nL) (hstack : g.stack = As.reverse ++ .ref b :: rest) (hW : 2 * g.monitorRoom + (rest.map fun v => v.category).sum ≤ 8) (hdg : decode cc g.pc = .ok (.invokevirtual index, 3)) (hf : cells + mc ≤ R.cells ∧ slots + ms ≤ R.slots) :
    vx_Run p l e R s m args below meth c H locs cells slots mc ms g rest (Qc (Value.ref b :: As).toArray) XC free := by
  obtain ⟨⟨hrc, hrs, hfr, hlo, hws, hcw⟩, hcode, hini, hy, hlen, hl, hin, hse⟩ := cw
  have hK : vx_Back l R p e below s args y 3 8 (PreOf R mc ms Pc) (PostOf Qc mc ms free) (vx_Post XC mc ms free) := vx_backW (hh := hh) (bytes := bytes) (maxL := maxL) (ret := ret) hM hp.1 hrc hrs hfr hlo hws hcw (fun a' U hW => word_at hW (Or.inl (by first | rfl | simp [Cond.onTables, Cond.keeps, Cond.steady])) hini)
  obtain ⟨hx, hb, hml, ho, -⟩ := S
  obtain ⟨-, ⟨cellB, hcB, hoB, hclB⟩, hPc⟩ := hp
  intro T hT X
  rcases vx_callVX X hx (C := C) (hh := hh) (bytes := bytes) (maxL := maxL) (ret := ret) ho hl hin hse hcode hy hK (by rw [hT]; exact hcB) hoB hclB hg (hsize.trans hml.symm) (argsL := As) (rest := rest) (fun sig h => hn.trans (hlen sig h)) hstack hW (by rw [hb]; exact hdg)
    (fun vm₁ hW₁ => ⟨hf.1, hf.2, hPc (T.setVm vm₁) hT hW₁⟩) with ⟨v, vm₁, ⟨U', l2, c2, s2⟩, hW₁, X', ⟨g', mk, t, L, e1, e2, hq, h1, hL, h2, h3⟩, st⟩ | ⟨q, vm₁, ⟨U', l2, c2, s2⟩, hW₁, X', ⟨g', mk, t, L, E, ce, e1, e2, hq, hce, hcv, hcl, h1, hL, h2, h3⟩, st⟩
  · dsimp only [Pt.U, Pt.locs, Pt.cells, Pt.slots] at X' e1 e2 h1 h2 h3 st
    subst h1; subst h2; subst h3
    exact Or.inl ⟨v, (T.setVm vm₁).calling g' mk (Value.ref b :: As).toArray, t, U', L, hT, X', hL, e1, e2, hq, st⟩
  · dsimp only [Pt.U, Pt.locs, Pt.cells, Pt.slots] at X' e1 e2 h1 h2 h3 st hcl
    subst h1; subst h2; subst h3
    exact Or.inr ⟨q, (T.setVm vm₁).calling g' mk (Value.ref b :: As).toArray, t, U', L, E, ce, hT, X', hL, e1, e2, hq, hce, hcv, vx_cls hW₁ hcl, st⟩
theorem vx_runSX {hh : List (Nat × Nat × Nat × Nat)} (S : CallFix p m c cc nL s args Ts own) (hM : vx_Met l y ws rm Pc Qc XC mc ms free) (cw : vx_CSW R s args own index y bytes maxL ret hh ws rm mc ms n) (hp : PreS s H Pc As)
    (hg : g.method = m) (hn : As.length = n) (hsize : g.locals.size = nL) (hstack : g.stack = As.reverse ++ rest) (hW : 2 * g.monitorRoom + (rest.map fun v => v.category).sum ≤ 8) (hdg : decode cc g.pc = .ok (.invokestatic index, 3)) (hf : cells + mc ≤ R.cells ∧ slots + ms ≤ R.slots) :
    vx_Run p l e R s m args below meth c H locs cells slots mc ms g rest (Qc As.toArray) XC free := by
  obtain ⟨⟨hrc, hrs, hfr, hlo, hws, hcw⟩, hcode, hini, hy, hlen, hl, hstt⟩ := cw
  have hK : vx_Back l R p e below s args y 3 8 (PreOf R mc ms Pc) (PostOf Qc mc ms free) (vx_Post XC mc ms free) := vx_backW (hh := hh) (bytes := bytes) (maxL := maxL) (ret := ret) hM hp.1 hrc hrs hfr hlo hws hcw (fun a' U hW => word_at hW (Or.inl (by first | rfl | simp [Cond.onTables, Cond.keeps, Cond.steady])) hini)
  obtain ⟨hx, hb, hml, ho, -⟩ := S
  intro T hT X
  rcases vx_callSX X hx (hh := hh) (bytes := bytes) (maxL := maxL) (ret := ret) ho hl hstt hini hcode hy hK hg (hsize.trans hml.symm) (argsL := As) (rest := rest) (fun sig h => hn.trans (hlen sig h)) hstack hW (by rw [hb]; exact hdg)
    (fun vm₁ hW₁ => ⟨hf.1, hf.2, hp.2 (T.setVm vm₁) hT hW₁⟩) with ⟨v, vm₁, ⟨U', l2, c2, s2⟩, hW₁, X', ⟨g', mk, t, L, e1, e2, hq, h1, hL, h2, h3⟩, st⟩ | ⟨q, vm₁, ⟨U', l2, c2, s2⟩, hW₁, X', ⟨g', mk, t, L, E, ce, e1, e2, hq, hce, hcv, hcl, h1, hL, h2, h3⟩, st⟩
  · dsimp only [Pt.U, Pt.locs, Pt.cells, Pt.slots] at X' e1 e2 h1 h2 h3 st
    subst h1; subst h2; subst h3
    exact Or.inl ⟨v, (T.setVm vm₁).calling g' mk As.toArray, t, U', L, hT, X', hL, e1, e2, hq, st⟩
  · dsimp only [Pt.U, Pt.locs, Pt.cells, Pt.slots] at X' e1 e2 h1 h2 h3 st hcl
    subst h1; subst h2; subst h3
    exact Or.inr ⟨q, (T.setVm vm₁).calling g' mk As.toArray, t, U', L, E, ce, hT, X', hL, e1, e2, hq, hce, hcv, vx_cls hW₁ hcl, st⟩
end
end VXH
theorem vx_ofWH {l : Launch} {y : MethodName} {ws ws' : List Cond} {rm : Room} {Pc : Array Value → State → Prop} {Qc : Array Value → State → Outcome → State → Prop} {XC : String → State → State → Prop} {mc ms : Nat} {free : Addr → Prop} {cc : ByteArray} {maxL : Nat} {ret : Option FieldType} {hh : List (Nat × Nat × Nat × Nat)}
    (hy : plainName y.cls = true) (hw : ws = Cond.codeWith y cc maxL ret hh :: ws')
    (body : ∀ p e s m args below meth c s₁, BodyLoose p l y (headSpec ws rm) cc maxL ret e s m args below meth c s₁ → c.maxLocals = maxL → Pc args s →
      W p l e (headSpec ws rm).room s m args below meth c s.heap [] 0 0 (vx_MQ below Qc XC args s mc ms free) (entryFrame m args maxL)) : vx_Met l y ws rm Pc Qc XC mc ms free := by
  refine MetFree.of_bodyS (code := cc) (maxLocals := maxL) (ret := ret) hy ?_ ?_
  · intro args s m h hn
    obtain ⟨m9, meth, c, hn9, h1, h2, h3, h4, -, h5, h6, -⟩ := Cond.codeWith_spec (atoms_spec (ws := ws) h _ (by rw [hw]; exact List.mem_cons_self))
    cases hn.symm.trans hn9
    exact ⟨meth, c, h1, h2, h3, h4, h5, h6⟩
  · intro p e s m args below meth c s₁ B hml hP _
    have hh0 : s₁.heap = s.heap := by rw [B.state]; rfl
    obtain ⟨t, a1, o, b1, b2, b3⟩ := body p e s m args below meth c s₁ B hml hP s₁ hh0 (Stand.of_body B)
    exact ⟨t, o, a1, b1, b2, b3⟩
/-! ===== END ===== -/
end
section
/-! ===== BEGIN printed: names, fields, word lists, decode rows ===== -/
def RX0 : String := "HoseTests$HoseText"
def TX0 : u_T := fun k => match k with
  | 0 => ("HoseTests$HoseText", "codes", "[I", true)
  | _ => ("HoseTests$HoseText", "size", "I", false)
def tyX0 : Nat → FieldType := fun k => match k with
  | 0 => .array .int
  | _ => .int
abbrev wsX00 : List Cond := u_ws RX0 TX0 2
theorem nmX0 : ∀ a, a < 2 → ∀ b, b < 2 → a ≠ b → (TX0 a).2.1 ≠ (TX0 b).2.1 := by decide +kernel
theorem tyX0_ok : ∀ k, k < 2 → parseFieldDescriptor (TX0 k).2.2.1 = some (tyX0 k) := by decide +kernel
abbrev cX0_init : ByteArray := prog_2_method_1_code
def yX0_init : MethodName := ⟨RX0, "<init>", "()V"⟩
abbrev cX0_isFull : ByteArray := prog_2_method_2_code
def yX0_isFull : MethodName := ⟨RX0, "isFull", "()Z"⟩
abbrev cX0_addCode : ByteArray := prog_2_method_3_code
def yX0_addCode : MethodName := ⟨RX0, "addCode", "(I)V"⟩
abbrev cX0_findError : ByteArray := prog_2_method_4_code
def yX0_findError : MethodName := ⟨RX0, "findError", "()I"⟩
abbrev cX0_isComplete : ByteArray := prog_2_method_5_code
def yX0_isComplete : MethodName := ⟨RX0, "isComplete", "()Z"⟩
abbrev cX0_stateBehind : ByteArray := prog_2_method_6_code
def yX0_stateBehind : MethodName := ⟨RX0, "stateBehind", "(II)I"⟩
abbrev cX0_stateBehindFirstDigit : ByteArray := prog_2_method_7_code
def yX0_stateBehindFirstDigit : MethodName := ⟨RX0, "stateBehindFirstDigit", "(I)I"⟩
abbrev cX0_stateBehindCoupling : ByteArray := prog_2_method_8_code
def yX0_stateBehindCoupling : MethodName := ⟨RX0, "stateBehindCoupling", "(I)I"⟩
abbrev cX0_isDigit : ByteArray := prog_2_method_9_code
def yX0_isDigit : MethodName := ⟨RX0, "isDigit", "(I)Z"⟩
abbrev cX0_kindOf : ByteArray := prog_2_method_10_code
def yX0_kindOf : MethodName := ⟨RX0, "kindOf", "(I)I"⟩
abbrev cX0_couplingOf : ByteArray := prog_2_method_11_code
def yX0_couplingOf : MethodName := ⟨RX0, "couplingOf", "(I)I"⟩
def RX1 : String := "HoseTests$Kinds"
def TX1 : u_T := fun k => match k with
  | _ => ("", "", "", false)
def tyX1 : Nat → FieldType := fun k => match k with
  | _ => .int
abbrev wsX10 : List Cond := u_ws RX1 TX1 0
theorem nmX1 : ∀ a, a < 0 → ∀ b, b < 0 → a ≠ b → (TX1 a).2.1 ≠ (TX1 b).2.1 := by decide +kernel
theorem tyX1_ok : ∀ k, k < 0 → parseFieldDescriptor (TX1 k).2.2.1 = some (tyX1 k) := by decide +kernel
abbrev cX1_strengthOf : ByteArray := prog_3_method_2_code
def yX1_strengthOf : MethodName := ⟨RX1, "strengthOf", "(III)I"⟩
abbrev cX1_lifeOf : ByteArray := prog_3_method_3_code
def yX1_lifeOf : MethodName := ⟨RX1, "lifeOf", "(I)I"⟩
abbrev cX1_daysInForce : ByteArray := prog_3_method_4_code
def yX1_daysInForce : MethodName := ⟨RX1, "daysInForce", "(I)I"⟩
abbrev cX1_costOf : ByteArray := prog_3_method_5_code
def yX1_costOf : MethodName := ⟨RX1, "costOf", "(II)I"⟩
def RX2 : String := "HoseTests$Line"
def TX2 : u_T := fun k => match k with
  | 0 => ("HoseTests$Line", "metres", "I", false)
  | 1 => ("HoseTests$Line", "adaptersUsed", "I", false)
  | 2 => ("HoseTests$Line", "mask", "I", false)
  | _ => ("HoseTests$Line", "lastCoupling", "I", false)
def tyX2 : Nat → FieldType := fun k => match k with
  | 0 => .int
  | 1 => .int
  | 2 => .int
  | _ => .int
abbrev wsX20 : List Cond := u_ws RX2 TX2 4
theorem nmX2 : ∀ a, a < 4 → ∀ b, b < 4 → a ≠ b → (TX2 a).2.1 ≠ (TX2 b).2.1 := by decide +kernel
theorem tyX2_ok : ∀ k, k < 4 → parseFieldDescriptor (TX2 k).2.2.1 = some (tyX2 k) := by decide +kernel
abbrev cX2_init : ByteArray := prog_4_method_1_code
def yX2_init : MethodName := ⟨RX2, "<init>", "()V"⟩
abbrev cX2_begin : ByteArray := prog_4_method_2_code
def yX2_begin : MethodName := ⟨RX2, "begin", "()V"⟩
abbrev cX2_join : ByteArray := prog_4_method_3_code
def yX2_join : MethodName := ⟨RX2, "join", "(IIII)V"⟩
def RX3 : String := "HoseTests$Station"
def TX3 : u_T := fun k => match k with
  | 0 => ("HoseTests$Station", "day", "I", false)
  | 1 => ("HoseTests$Station", "money", "I", false)
  | 2 => ("HoseTests$Station", "hoses", "I", false)
  | 3 => ("HoseTests$Station", "tests", "I", false)
  | 4 => ("HoseTests$Station", "bursts", "I", false)
  | 5 => ("HoseTests$Station", "paid", "I", false)
  | 6 => ("HoseTests$Station", "wanted", "[I", true)
  | 7 => ("HoseTests$Station", "settings", "[I", true)
  | 8 => ("HoseTests$Station", "kind", "[I", true)
  | 9 => ("HoseTests$Station", "length", "[I", true)
  | 10 => ("HoseTests$Station", "coupling", "[I", true)
  | 11 => ("HoseTests$Station", "made", "[I", true)
  | 12 => ("HoseTests$Station", "wear", "[I", true)
  | 13 => ("HoseTests$Station", "lastTestDay", "[I", true)
  | 14 => ("HoseTests$Station", "place", "[I", true)
  | 15 => ("HoseTests$Station", "backDay", "[I", true)
  | _ => ("HoseTests$Station", "line", "LHoseTests$Line;", true)
def tyX3 : Nat → FieldType := fun k => match k with
  | 0 => .int
  | 1 => .int
  | 2 => .int
  | 3 => .int
  | 4 => .int
  | 5 => .int
  | 6 => .array .int
  | 7 => .array .int
  | 8 => .array .int
  | 9 => .array .int
  | 10 => .array .int
  | 11 => .array .int
  | 12 => .array .int
  | 13 => .array .int
  | 14 => .array .int
  | 15 => .array .int
  | _ => .object "HoseTests$Line"
abbrev wsX30 : List Cond := u_ws RX3 TX3 17
theorem nmX3 : ∀ a, a < 17 → ∀ b, b < 17 → a ≠ b → (TX3 a).2.1 ≠ (TX3 b).2.1 := by decide +kernel
theorem tyX3_ok : ∀ k, k < 17 → parseFieldDescriptor (TX3 k).2.2.1 = some (tyX3 k) := by decide +kernel
abbrev cX3_init : ByteArray := prog_5_method_1_code
def yX3_init : MethodName := ⟨RX3, "<init>", "()V"⟩
abbrev cX3_copyFrom : ByteArray := prog_5_method_2_code
def yX3_copyFrom : MethodName := ⟨RX3, "copyFrom", "(LHoseTests$Station;)V"⟩
abbrev cX3_isGone : ByteArray := prog_5_method_3_code
def yX3_isGone : MethodName := ⟨RX3, "isGone", "(I)Z"⟩
abbrev cX3_isLent : ByteArray := prog_5_method_4_code
def yX3_isLent : MethodName := ⟨RX3, "isLent", "(I)Z"⟩
abbrev cX3_isOnTruck : ByteArray := prog_5_method_5_code
def yX3_isOnTruck : MethodName := ⟨RX3, "isOnTruck", "(I)Z"⟩
abbrev cX3_isReady : ByteArray := prog_5_method_6_code
def yX3_isReady : MethodName := ⟨RX3, "isReady", "(I)Z"⟩
abbrev cX3_reasonOf : ByteArray := prog_5_method_7_code
def yX3_reasonOf : MethodName := ⟨RX3, "reasonOf", "(I)I"⟩
abbrev cX3_strengthAt : ByteArray := prog_5_method_8_code
def yX3_strengthAt : MethodName := ⟨RX3, "strengthAt", "(II)I"⟩
abbrev cX3_priceOf : ByteArray := prog_5_method_9_code
def yX3_priceOf : MethodName := ⟨RX3, "priceOf", "(I)I"⟩
abbrev cX3_canBuy : ByteArray := prog_5_method_10_code
def yX3_canBuy : MethodName := ⟨RX3, "canBuy", "(II)Z"⟩
abbrev cX3_addHose : ByteArray := prog_5_method_11_code
def yX3_addHose : MethodName := ⟨RX3, "addHose", "(IIII)I"⟩
abbrev cX3_replaceHose : ByteArray := prog_5_method_12_code
def yX3_replaceHose : MethodName := ⟨RX3, "replaceHose", "(I)I"⟩
abbrev cX3_lendOut : ByteArray := prog_5_method_13_code
def yX3_lendOut : MethodName := ⟨RX3, "lendOut", "(II)I"⟩
abbrev cX3_stepsUpTo : ByteArray := prog_5_method_14_code
def yX3_stepsUpTo : MethodName := ⟨RX3, "stepsUpTo", "(I)I"⟩
abbrev cX3_stepsHeld : ByteArray := prog_5_method_15_code
def yX3_stepsHeld : MethodName := ⟨RX3, "stepsHeld", "(II)I"⟩
abbrev cX3_outcomeOf : ByteArray := prog_5_method_16_code
def yX3_outcomeOf : MethodName := ⟨RX3, "outcomeOf", "(II)I"⟩
abbrev cX3_runTest : ByteArray := prog_5_method_17_code
def yX3_runTest : MethodName := ⟨RX3, "runTest", "(II)I"⟩
abbrev cX3_greatestSafePressure : ByteArray := prog_5_method_18_code
def yX3_greatestSafePressure : MethodName := ⟨RX3, "greatestSafePressure", "(I)I"⟩
abbrev cX3_passDay : ByteArray := prog_5_method_19_code
def yX3_passDay : MethodName := ⟨RX3, "passDay", "()V"⟩
abbrev cX3_takeBackLent : ByteArray := prog_5_method_20_code
def yX3_takeBackLent : MethodName := ⟨RX3, "takeBackLent", "()V"⟩
abbrev cX3_wearOnTrucks : ByteArray := prog_5_method_21_code
def yX3_wearOnTrucks : MethodName := ⟨RX3, "wearOnTrucks", "()V"⟩
abbrev cX3_hosesAt : ByteArray := prog_5_method_22_code
def yX3_hosesAt : MethodName := ⟨RX3, "hosesAt", "(I)I"⟩
abbrev cX3_readyHosesAt : ByteArray := prog_5_method_23_code
def yX3_readyHosesAt : MethodName := ⟨RX3, "readyHosesAt", "(I)I"⟩
abbrev cX3_readyHoses : ByteArray := prog_5_method_24_code
def yX3_readyHoses : MethodName := ⟨RX3, "readyHoses", "()I"⟩
abbrev cX3_layLine : ByteArray := prog_5_method_25_code
def yX3_layLine : MethodName := ⟨RX3, "layLine", "(II)Z"⟩
abbrev cX3_wholeTrucks : ByteArray := prog_5_method_26_code
def yX3_wholeTrucks : MethodName := ⟨RX3, "wholeTrucks", "()I"⟩
abbrev cX3_cheapestHelp : ByteArray := prog_5_method_27_code
def yX3_cheapestHelp : MethodName := ⟨RX3, "cheapestHelp", "(I)I"⟩
abbrev cX3_daysToFirstLapse : ByteArray := prog_5_method_28_code
def yX3_daysToFirstLapse : MethodName := ⟨RX3, "daysToFirstLapse", "()I"⟩
def RX4 : String := "HoseTests"
def TX4 : u_T := fun k => match k with
  | 0 => ("HoseTests", "now", "LHoseTests$Station;", true)
  | 1 => ("HoseTests", "saved", "[LHoseTests$Station;", true)
  | 2 => ("HoseTests", "latestSaved", "I", false)
  | 3 => ("HoseTests", "savedStates", "I", false)
  | _ => ("HoseTests", "text", "LHoseTests$HoseText;", true)
def tyX4 : Nat → FieldType := fun k => match k with
  | 0 => .object "HoseTests$Station"
  | 1 => .array (.object "HoseTests$Station")
  | 2 => .int
  | 3 => .int
  | _ => .object "HoseTests$HoseText"
abbrev wsX40 : List Cond := u_ws RX4 TX4 5
theorem nmX4 : ∀ a, a < 5 → ∀ b, b < 5 → a ≠ b → (TX4 a).2.1 ≠ (TX4 b).2.1 := by decide +kernel
theorem tyX4_ok : ∀ k, k < 5 → parseFieldDescriptor (TX4 k).2.2.1 = some (tyX4 k) := by decide +kernel
abbrev cX4_init : ByteArray := prog_1_method_1_code
def yX4_init : MethodName := ⟨RX4, "<init>", "()V"⟩
abbrev cX4_buy : ByteArray := prog_1_method_2_code
def yX4_buy : MethodName := ⟨RX4, "buy", "(III)I"⟩
abbrev cX4_renew : ByteArray := prog_1_method_3_code
def yX4_renew : MethodName := ⟨RX4, "renew", "(I)I"⟩
abbrev cX4_put : ByteArray := prog_1_method_4_code
def yX4_put : MethodName := ⟨RX4, "put", "(II)I"⟩
abbrev cX4_lend : ByteArray := prog_1_method_5_code
def yX4_lend : MethodName := ⟨RX4, "lend", "(II)I"⟩
abbrev cX4_test : ByteArray := prog_1_method_6_code
def yX4_test : MethodName := ⟨RX4, "test", "(II)I"⟩
abbrev cX4_want : ByteArray := prog_1_method_7_code
def yX4_want : MethodName := ⟨RX4, "want", "(II)I"⟩
abbrev cX4_set : ByteArray := prog_1_method_8_code
def yX4_set : MethodName := ⟨RX4, "set", "(II)I"⟩
abbrev cX4_pass : ByteArray := prog_1_method_9_code
def yX4_pass : MethodName := ⟨RX4, "pass", "(I)I"⟩
abbrev cX4_append : ByteArray := prog_1_method_10_code
def yX4_append : MethodName := ⟨RX4, "append", "(I)I"⟩
abbrev cX4_clearBuffer : ByteArray := prog_1_method_11_code
def yX4_clearBuffer : MethodName := ⟨RX4, "clearBuffer", "()I"⟩
abbrev cX4_firstError : ByteArray := prog_1_method_12_code
def yX4_firstError : MethodName := ⟨RX4, "firstError", "()I"⟩
abbrev cX4_buyAll : ByteArray := prog_1_method_13_code
def yX4_buyAll : MethodName := ⟨RX4, "buyAll", "()I"⟩
abbrev cX4_undo : ByteArray := prog_1_method_14_code
def yX4_undo : MethodName := ⟨RX4, "undo", "()I"⟩
abbrev cX4_hose : ByteArray := prog_1_method_15_code
def yX4_hose : MethodName := ⟨RX4, "hose", "(II)I"⟩
abbrev cX4_truck : ByteArray := prog_1_method_16_code
def yX4_truck : MethodName := ⟨RX4, "truck", "(II)I"⟩
abbrev cX4_count : ByteArray := prog_1_method_17_code
def yX4_count : MethodName := ⟨RX4, "count", "(I)I"⟩
abbrev cX4_setting : ByteArray := prog_1_method_18_code
def yX4_setting : MethodName := ⟨RX4, "setting", "(I)I"⟩
abbrev cX4_ifTested : ByteArray := prog_1_method_19_code
def yX4_ifTested : MethodName := ⟨RX4, "ifTested", "(II)I"⟩
abbrev cX4_safe : ByteArray := prog_1_method_20_code
def yX4_safe : MethodName := ⟨RX4, "safe", "(I)I"⟩
abbrev cX4_nextLapse : ByteArray := prog_1_method_21_code
def yX4_nextLapse : MethodName := ⟨RX4, "nextLapse", "()I"⟩
abbrev cX4_helps : ByteArray := prog_1_method_22_code
def yX4_helps : MethodName := ⟨RX4, "helps", "(I)I"⟩
abbrev cX4_readyShare : ByteArray := prog_1_method_23_code
def yX4_readyShare : MethodName := ⟨RX4, "readyShare", "()D"⟩
abbrev cX4_digest : ByteArray := prog_1_method_24_code
def yX4_digest : MethodName := ⟨RX4, "digest", "()J"⟩
abbrev cX4_isWithin : ByteArray := prog_1_method_25_code
def yX4_isWithin : MethodName := ⟨RX4, "isWithin", "(III)Z"⟩
abbrev cX4_requireHose : ByteArray := prog_1_method_26_code
def yX4_requireHose : MethodName := ⟨RX4, "requireHose", "(I)V"⟩
abbrev cX4_requireAtHand : ByteArray := prog_1_method_27_code
def yX4_requireAtHand : MethodName := ⟨RX4, "requireAtHand", "(I)V"⟩
abbrev cX4_requireTruck : ByteArray := prog_1_method_28_code
def yX4_requireTruck : MethodName := ⟨RX4, "requireTruck", "(I)V"⟩
abbrev cX4_requireSetting : ByteArray := prog_1_method_29_code
def yX4_requireSetting : MethodName := ⟨RX4, "requireSetting", "(I)V"⟩
abbrev cX4_requirePressure : ByteArray := prog_1_method_30_code
def yX4_requirePressure : MethodName := ⟨RX4, "requirePressure", "(I)V"⟩
abbrev cX4_leastOfSetting : ByteArray := prog_1_method_31_code
def yX4_leastOfSetting : MethodName := ⟨RX4, "leastOfSetting", "(I)I"⟩
abbrev cX4_greatestOfSetting : ByteArray := prog_1_method_32_code
def yX4_greatestOfSetting : MethodName := ⟨RX4, "greatestOfSetting", "(I)I"⟩
abbrev cX4_saveState : ByteArray := prog_1_method_33_code
def yX4_saveState : MethodName := ⟨RX4, "saveState", "()V"⟩
abbrev cX4_buyParts : ByteArray := prog_1_method_34_code
def yX4_buyParts : MethodName := ⟨RX4, "buyParts", "()I"⟩
abbrev cX4_mixed : ByteArray := prog_1_method_35_code
def yX4_mixed : MethodName := ⟨RX4, "mixed", "(JJ)J"⟩
abbrev cX4_bitsOfShare : ByteArray := prog_1_method_36_code
def yX4_bitsOfShare : MethodName := ⟨RX4, "bitsOfShare", "(D)J"⟩
def RX5 : String := "HoseTestsModel"
def TX5 : u_T := fun k => match k with
  | 0 => ("HoseTestsModel", "now", "[I", true)
  | 1 => ("HoseTestsModel", "past", "[I", true)
  | 2 => ("HoseTestsModel", "kept", "I", false)
  | 3 => ("HoseTestsModel", "text", "[I", true)
  | 4 => ("HoseTestsModel", "typed", "I", false)
  | 5 => ("HoseTestsModel", "thrown", "I", false)
  | 6 => ("HoseTestsModel", "at", "I", false)
  | 7 => ("HoseTestsModel", "isFault", "Z", false)
  | 8 => ("HoseTestsModel", "told", "[I", true)
  | 9 => ("HoseTestsModel", "tolds", "I", false)
  | 10 => ("HoseTestsModel", "worn", "I", false)
  | 11 => ("HoseTestsModel", "line", "I", false)
  | 12 => ("HoseTestsModel", "adapters", "I", false)
  | _ => ("HoseTestsModel", "inLine", "I", false)
def tyX5 : Nat → FieldType := fun k => match k with
  | 0 => .array .int
  | 1 => .array .int
  | 2 => .int
  | 3 => .array .int
  | 4 => .int
  | 5 => .int
  | 6 => .int
  | 7 => .boolean
  | 8 => .array .int
  | 9 => .int
  | 10 => .int
  | 11 => .int
  | 12 => .int
  | _ => .int
abbrev wsX50 : List Cond := u_ws RX5 TX5 14
theorem nmX5 : ∀ a, a < 14 → ∀ b, b < 14 → a ≠ b → (TX5 a).2.1 ≠ (TX5 b).2.1 := by decide +kernel
theorem tyX5_ok : ∀ k, k < 14 → parseFieldDescriptor (TX5 k).2.2.1 = some (tyX5 k) := by decide +kernel
abbrev cX5_init : ByteArray := prog_7_method_1_code
def yX5_init : MethodName := ⟨RX5, "<init>", "()V"⟩
abbrev cX5_thrown : ByteArray := prog_7_method_2_code
def yX5_thrown : MethodName := ⟨RX5, "thrown", "()I"⟩
abbrev cX5_fails : ByteArray := prog_7_method_3_code
def yX5_fails : MethodName := ⟨RX5, "fails", "(I)I"⟩
abbrev cX5_in : ByteArray := prog_7_method_4_code
def yX5_in : MethodName := ⟨RX5, "in", "(III)Z"⟩
abbrev cX5_isHose : ByteArray := prog_7_method_5_code
def yX5_isHose : MethodName := ⟨RX5, "isHose", "(I)Z"⟩
abbrev cX5_isTruck : ByteArray := prog_7_method_6_code
def yX5_isTruck : MethodName := ⟨RX5, "isTruck", "(I)Z"⟩
abbrev cX5_of : ByteArray := prog_7_method_7_code
def yX5_of : MethodName := ⟨RX5, "of", "(II)I"⟩
abbrev cX5_saves : ByteArray := prog_7_method_8_code
def yX5_saves : MethodName := ⟨RX5, "saves", "()V"⟩
abbrev cX5_undo : ByteArray := prog_7_method_9_code
def yX5_undo : MethodName := ⟨RX5, "undo", "()I"⟩
abbrev cX5_life : ByteArray := prog_7_method_10_code
def yX5_life : MethodName := ⟨RX5, "life", "(I)I"⟩
abbrev cX5_force : ByteArray := prog_7_method_11_code
def yX5_force : MethodName := ⟨RX5, "force", "(I)I"⟩
abbrev cX5_cost : ByteArray := prog_7_method_12_code
def yX5_cost : MethodName := ⟨RX5, "cost", "(II)I"⟩
abbrev cX5_strength : ByteArray := prog_7_method_13_code
def yX5_strength : MethodName := ⟨RX5, "strength", "(II)I"⟩
abbrev cX5_reason : ByteArray := prog_7_method_14_code
def yX5_reason : MethodName := ⟨RX5, "reason", "(I)I"⟩
abbrev cX5_isReady : ByteArray := prog_7_method_15_code
def yX5_isReady : MethodName := ⟨RX5, "isReady", "(I)Z"⟩
abbrev cX5_tries : ByteArray := prog_7_method_16_code
def yX5_tries : MethodName := ⟨RX5, "tries", "(II)I"⟩
abbrev cX5_lays : ByteArray := prog_7_method_17_code
def yX5_lays : MethodName := ⟨RX5, "lays", "(II)V"⟩
abbrev cX5_isWhole : ByteArray := prog_7_method_18_code
def yX5_isWhole : MethodName := ⟨RX5, "isWhole", "(II)Z"⟩
abbrev cX5_mayBuy : ByteArray := prog_7_method_19_code
def yX5_mayBuy : MethodName := ⟨RX5, "mayBuy", "(II)Z"⟩
abbrev cX5_buys : ByteArray := prog_7_method_20_code
def yX5_buys : MethodName := ⟨RX5, "buys", "(IIII)I"⟩
abbrev cX5_buy : ByteArray := prog_7_method_21_code
def yX5_buy : MethodName := ⟨RX5, "buy", "(III)I"⟩
abbrev cX5_isHere : ByteArray := prog_7_method_22_code
def yX5_isHere : MethodName := ⟨RX5, "isHere", "(I)Z"⟩
abbrev cX5_changes : ByteArray := prog_7_method_23_code
def yX5_changes : MethodName := ⟨RX5, "changes", "(II)I"⟩
abbrev cX5_renew : ByteArray := prog_7_method_24_code
def yX5_renew : MethodName := ⟨RX5, "renew", "(I)I"⟩
abbrev cX5_put : ByteArray := prog_7_method_25_code
def yX5_put : MethodName := ⟨RX5, "put", "(II)I"⟩
abbrev cX5_lend : ByteArray := prog_7_method_26_code
def yX5_lend : MethodName := ⟨RX5, "lend", "(II)I"⟩
abbrev cX5_test : ByteArray := prog_7_method_27_code
def yX5_test : MethodName := ⟨RX5, "test", "(II)I"⟩
abbrev cX5_want : ByteArray := prog_7_method_28_code
def yX5_want : MethodName := ⟨RX5, "want", "(II)I"⟩
abbrev cX5_set : ByteArray := prog_7_method_29_code
def yX5_set : MethodName := ⟨RX5, "set", "(II)I"⟩
abbrev cX5_day : ByteArray := prog_7_method_30_code
def yX5_day : MethodName := ⟨RX5, "day", "()V"⟩
abbrev cX5_pass : ByteArray := prog_7_method_31_code
def yX5_pass : MethodName := ⟨RX5, "pass", "(I)I"⟩
abbrev cX5_append : ByteArray := prog_7_method_32_code
def yX5_append : MethodName := ⟨RX5, "append", "(I)I"⟩
abbrev cX5_clearBuffer : ByteArray := prog_7_method_33_code
def yX5_clearBuffer : MethodName := ⟨RX5, "clearBuffer", "()I"⟩
abbrev cX5_isAt : ByteArray := prog_7_method_34_code
def yX5_isAt : MethodName := ⟨RX5, "isAt", "(II)Z"⟩
abbrev cX5_stops : ByteArray := prog_7_method_35_code
def yX5_stops : MethodName := ⟨RX5, "stops", "()Z"⟩
abbrev cX5_isLength : ByteArray := prog_7_method_36_code
def yX5_isLength : MethodName := ⟨RX5, "isLength", "()Z"⟩
abbrev cX5_isPart : ByteArray := prog_7_method_37_code
def yX5_isPart : MethodName := ⟨RX5, "isPart", "()Z"⟩
abbrev cX5_isText : ByteArray := prog_7_method_38_code
def yX5_isText : MethodName := ⟨RX5, "isText", "()Z"⟩
abbrev cX5_firstError : ByteArray := prog_7_method_39_code
def yX5_firstError : MethodName := ⟨RX5, "firstError", "()I"⟩
abbrev cX5_buyAll : ByteArray := prog_7_method_40_code
def yX5_buyAll : MethodName := ⟨RX5, "buyAll", "()I"⟩
abbrev cX5_ofHose : ByteArray := prog_7_method_41_code
def yX5_ofHose : MethodName := ⟨RX5, "ofHose", "(II)I"⟩
abbrev cX5_hose : ByteArray := prog_7_method_42_code
def yX5_hose : MethodName := ⟨RX5, "hose", "(II)I"⟩
abbrev cX5_on : ByteArray := prog_7_method_43_code
def yX5_on : MethodName := ⟨RX5, "on", "(IZ)I"⟩
abbrev cX5_ofTruck : ByteArray := prog_7_method_44_code
def yX5_ofTruck : MethodName := ⟨RX5, "ofTruck", "(II)I"⟩
abbrev cX5_truck : ByteArray := prog_7_method_45_code
def yX5_truck : MethodName := ⟨RX5, "truck", "(II)I"⟩
abbrev cX5_having : ByteArray := prog_7_method_46_code
def yX5_having : MethodName := ⟨RX5, "having", "(I)I"⟩
abbrev cX5_counted : ByteArray := prog_7_method_47_code
def yX5_counted : MethodName := ⟨RX5, "counted", "(I)I"⟩
abbrev cX5_count : ByteArray := prog_7_method_48_code
def yX5_count : MethodName := ⟨RX5, "count", "(I)I"⟩
abbrev cX5_setting : ByteArray := prog_7_method_49_code
def yX5_setting : MethodName := ⟨RX5, "setting", "(I)I"⟩
abbrev cX5_tried : ByteArray := prog_7_method_50_code
def yX5_tried : MethodName := ⟨RX5, "tried", "(II)I"⟩
abbrev cX5_ifTested : ByteArray := prog_7_method_51_code
def yX5_ifTested : MethodName := ⟨RX5, "ifTested", "(II)I"⟩
abbrev cX5_greatest : ByteArray := prog_7_method_52_code
def yX5_greatest : MethodName := ⟨RX5, "greatest", "(I)I"⟩
abbrev cX5_safe : ByteArray := prog_7_method_53_code
def yX5_safe : MethodName := ⟨RX5, "safe", "(I)I"⟩
abbrev cX5_lapses : ByteArray := prog_7_method_54_code
def yX5_lapses : MethodName := ⟨RX5, "lapses", "()I"⟩
abbrev cX5_nextLapse : ByteArray := prog_7_method_55_code
def yX5_nextLapse : MethodName := ⟨RX5, "nextLapse", "()I"⟩
abbrev cX5_cheapest : ByteArray := prog_7_method_56_code
def yX5_cheapest : MethodName := ⟨RX5, "cheapest", "(I)I"⟩
abbrev cX5_helps : ByteArray := prog_7_method_57_code
def yX5_helps : MethodName := ⟨RX5, "helps", "(I)I"⟩
abbrev cX5_share : ByteArray := prog_7_method_58_code
def yX5_share : MethodName := ⟨RX5, "share", "()D"⟩
abbrev cX5_readyShare : ByteArray := prog_7_method_59_code
def yX5_readyShare : MethodName := ⟨RX5, "readyShare", "()D"⟩
abbrev cX5_digest : ByteArray := prog_7_method_60_code
def yX5_digest : MethodName := ⟨RX5, "digest", "()J"⟩
def RJxe99ae : String := "java/lang/Double"
def TJxe99ae : u_T := fun k => match k with
  | _ => ("", "", "", false)
def tyJxe99ae : Nat → FieldType := fun k => match k with
  | _ => .int
abbrev wsJxe99ae0 : List Cond := u_ws RJxe99ae TJxe99ae 0
theorem nmJxe99ae : ∀ a, a < 0 → ∀ b, b < 0 → a ≠ b → (TJxe99ae a).2.1 ≠ (TJxe99ae b).2.1 := by decide +kernel
theorem tyJxe99ae_ok : ∀ k, k < 0 → parseFieldDescriptor (TJxe99ae k).2.2.1 = some (tyJxe99ae k) := by decide +kernel
abbrev cJxe99ae_isNaN_b9ae7 : ByteArray := prog_8_method_6_code
def yJxe99ae_isNaN_b9ae7 : MethodName := ⟨RJxe99ae, "isNaN", "(D)Z"⟩
abbrev cJxe99ae_doubleToLongBits_ccdee : ByteArray := prog_8_method_23_code
def yJxe99ae_doubleToLongBits_ccdee : MethodName := ⟨RJxe99ae, "doubleToLongBits", "(D)J"⟩
def RJ9 : String := "java/lang/Math"
def TJ9 : u_T := fun k => match k with
  | _ => ("", "", "", false)
def tyJ9 : Nat → FieldType := fun k => match k with
  | _ => .int
abbrev wsJ90 : List Cond := u_ws RJ9 TJ9 0
theorem nmJ9 : ∀ a, a < 0 → ∀ b, b < 0 → a ≠ b → (TJ9 a).2.1 ≠ (TJ9 b).2.1 := by decide +kernel
theorem tyJ9_ok : ∀ k, k < 0 → parseFieldDescriptor (TJ9 k).2.2.1 = some (tyJ9 k) := by decide +kernel
abbrev cJ9_max_7cf53 : ByteArray := prog_13_method_65_code
def yJ9_max_7cf53 : MethodName := ⟨RJ9, "max", "(II)I"⟩
abbrev cJ9_min_7cf53 : ByteArray := prog_13_method_69_code
def yJ9_min_7cf53 : MethodName := ⟨RJ9, "min", "(II)I"⟩
def RJ0 : String := "java/lang/String"
def TJ0 : u_T := fun k => match k with
  | _ => ("", "", "", false)
def tyJ0 : Nat → FieldType := fun k => match k with
  | _ => .int
abbrev wsJ00 : List Cond := u_ws RJ0 TJ0 0
theorem nmJ0 : ∀ a, a < 0 → ∀ b, b < 0 → a ≠ b → (TJ0 a).2.1 ≠ (TJ0 b).2.1 := by decide +kernel
theorem tyJ0_ok : ∀ k, k < 0 → parseFieldDescriptor (TJ0 k).2.2.1 = some (tyJ0 k) := by decide +kernel
def RJ10 : String := "java/lang/System"
def TJ10 : u_T := fun k => match k with
  | _ => ("", "", "", false)
def tyJ10 : Nat → FieldType := fun k => match k with
  | _ => .int
abbrev wsJ100 : List Cond := u_ws RJ10 TJ10 0
theorem nmJ10 : ∀ a, a < 0 → ∀ b, b < 0 → a ≠ b → (TJ10 a).2.1 ≠ (TJ10 b).2.1 := by decide +kernel
theorem tyJ10_ok : ∀ k, k < 0 → parseFieldDescriptor (TJ10 k).2.2.1 = some (tyJ10 k) := by decide +kernel
def RL : String := "HoseTestsLaw"
abbrev cL_buy : ByteArray := method_3_code
def yL_buy : MethodName := ⟨RL, "buy", "(LHoseTests;III[J)I"⟩
abbrev cL_renew : ByteArray := method_4_code
def yL_renew : MethodName := ⟨RL, "renew", "(LHoseTests;I[J)I"⟩
abbrev cL_put : ByteArray := method_5_code
def yL_put : MethodName := ⟨RL, "put", "(LHoseTests;II[J)I"⟩
abbrev cL_lend : ByteArray := method_6_code
def yL_lend : MethodName := ⟨RL, "lend", "(LHoseTests;II[J)I"⟩
abbrev cL_test : ByteArray := method_7_code
def yL_test : MethodName := ⟨RL, "test", "(LHoseTests;II[J)I"⟩
abbrev cL_want : ByteArray := method_8_code
def yL_want : MethodName := ⟨RL, "want", "(LHoseTests;II[J)I"⟩
abbrev cL_set : ByteArray := method_9_code
def yL_set : MethodName := ⟨RL, "set", "(LHoseTests;II[J)I"⟩
abbrev cL_pass : ByteArray := method_10_code
def yL_pass : MethodName := ⟨RL, "pass", "(LHoseTests;I[J)I"⟩
abbrev cL_append : ByteArray := method_11_code
def yL_append : MethodName := ⟨RL, "append", "(LHoseTests;I[J)I"⟩
abbrev cL_buyAll : ByteArray := method_12_code
def yL_buyAll : MethodName := ⟨RL, "buyAll", "(LHoseTests;[J)I"⟩
abbrev cL_undo : ByteArray := method_13_code
def yL_undo : MethodName := ⟨RL, "undo", "(LHoseTests;[J)I"⟩
abbrev cL_hose : ByteArray := method_14_code
def yL_hose : MethodName := ⟨RL, "hose", "(LHoseTests;II[J)I"⟩
abbrev cL_truck : ByteArray := method_15_code
def yL_truck : MethodName := ⟨RL, "truck", "(LHoseTests;II[J)I"⟩
abbrev cL_count : ByteArray := method_16_code
def yL_count : MethodName := ⟨RL, "count", "(LHoseTests;I[J)I"⟩
abbrev cL_setting : ByteArray := method_17_code
def yL_setting : MethodName := ⟨RL, "setting", "(LHoseTests;I[J)I"⟩
abbrev cL_ifTested : ByteArray := method_18_code
def yL_ifTested : MethodName := ⟨RL, "ifTested", "(LHoseTests;II[J)I"⟩
abbrev cL_safe : ByteArray := method_19_code
def yL_safe : MethodName := ⟨RL, "safe", "(LHoseTests;I[J)I"⟩
abbrev cL_helps : ByteArray := method_20_code
def yL_helps : MethodName := ⟨RL, "helps", "(LHoseTests;I[J)I"⟩
abbrev cL_law : ByteArray := code
def yL_law : MethodName := ⟨RL, "law", "([I)Z"⟩
def wsL_law0_r1 : List Cond := [Cond.classLink RL 8 RX4, Cond.instantiable RX4 5, Cond.initialized RX4, Cond.classLink RL 74 RX5, Cond.instantiable RX5 14, Cond.initialized RX5, Cond.arrayClass .long, Cond.methodLink RL 73 yX4_init, Cond.instanceMethod yX4_init, Cond.code yX4_init cX4_init 2 none, Cond.methodLink RX4 1 objectInit, Cond.instanceMethod objectInit, Cond.code objectInit ⟨#[0xb1]⟩ 1 none, Cond.classLink RX4 7 RX3, Cond.instantiable RX3 17, Cond.initialized RX3, Cond.fieldLink RX4 10 "HoseTests" "now" "LHoseTests$Station;", Cond.fieldLink RX4 16 "HoseTests" "saved" "[LHoseTests$Station;", Cond.fieldLink RX4 20 "HoseTests" "latestSaved" "I", Cond.fieldLink RX4 24 "HoseTests" "savedStates" "I", Cond.classLink RX4 27 RX0, Cond.instantiable RX0 2, Cond.initialized RX0, Cond.fieldLink RX4 30 "HoseTests" "text" "LHoseTests$HoseText;"]
def wsL_law0_r2 : List Cond := [Cond.methodLink RX4 9 yX3_init, Cond.instanceMethod yX3_init, Cond.code yX3_init cX3_init 1 none, Cond.methodLink RX3 3 objectInit, Cond.fieldLink RX3 9 "HoseTests$Station" "day" "I", Cond.fieldLink RX3 15 "HoseTests$Station" "money" "I", Cond.arrayClass .int, Cond.fieldLink RX3 18 "HoseTests$Station" "wanted" "[I", Cond.fieldLink RX3 22 "HoseTests$Station" "settings" "[I", Cond.fieldLink RX3 25 "HoseTests$Station" "kind" "[I", Cond.fieldLink RX3 28 "HoseTests$Station" "length" "[I", Cond.fieldLink RX3 31 "HoseTests$Station" "coupling" "[I", Cond.fieldLink RX3 34 "HoseTests$Station" "made" "[I", Cond.fieldLink RX3 37 "HoseTests$Station" "wear" "[I", Cond.fieldLink RX3 40 "HoseTests$Station" "lastTestDay" "[I", Cond.fieldLink RX3 43 "HoseTests$Station" "place" "[I", Cond.fieldLink RX3 46 "HoseTests$Station" "backDay" "[I", Cond.classLink RX3 49 RX2, Cond.instantiable RX2 4, Cond.initialized RX2, Cond.fieldLink RX3 52 "HoseTests$Station" "line" "LHoseTests$Line;", Cond.instanceMethod yX2_init, Cond.code yX2_init cX2_init 1 none, Cond.methodLink RX2 3 objectInit]
def wsL_law0_r3 : List Cond := [Cond.methodLink RX4 29 yX0_init, Cond.instanceMethod yX0_init, Cond.code yX0_init cX0_init 1 none, Cond.methodLink RX0 3 objectInit, Cond.fieldLink RX0 11 "HoseTests$HoseText" "codes" "[I", Cond.fieldLink RX0 15 "HoseTests$HoseText" "size" "I", Cond.methodLink RL 76 yX5_init, Cond.instanceMethod yX5_init, Cond.code yX5_init cX5_init 2 none, Cond.methodLink RX5 1 objectInit, Cond.fieldLink RX5 7 "HoseTestsModel" "now" "[I", Cond.fieldLink RX5 13 "HoseTestsModel" "past" "[I", Cond.fieldLink RX5 16 "HoseTestsModel" "text" "[I", Cond.fieldLink RX5 19 "HoseTestsModel" "told" "[I", Cond.methodLink RL 77 yL_buy, Cond.static yL_buy, Cond.initialized RL, Cond.codeWith yL_buy cL_buy 6 (some .int) [(0, 12, 15, 13), (0, 12, 19, 15)], Cond.classLink RL 13 "java/lang/IllegalArgumentException", Cond.classLink RL 15 "java/lang/IllegalStateException", Cond.methodLink RL 7 yX4_buy, Cond.instanceMethod yX4_buy, Cond.selects RX4 yX4_buy yX4_buy, Cond.code yX4_buy cX4_buy 4 (some .int)]
def wsL_law0_r4 : List Cond := [Cond.classLink RX4 38 "java/lang/IllegalArgumentException", Cond.initialized "java/lang/IllegalArgumentException", Cond.classLink RX4 49 "java/lang/IllegalStateException", Cond.initialized "java/lang/IllegalStateException", Cond.methodLink RX4 34 yX4_isWithin, Cond.static yX4_isWithin, Cond.code yX4_isWithin cX4_isWithin 3 (some .boolean), Cond.methodLink RX4 45 yX3_canBuy, Cond.instanceMethod yX3_canBuy, Cond.selects RX3 yX3_canBuy yX3_canBuy, Cond.code yX3_canBuy cX3_canBuy 3 (some .boolean), Cond.fieldLink RX3 56 "HoseTests$Station" "hoses" "I", Cond.methodLink RX3 98 yX1_costOf, Cond.static yX1_costOf, Cond.initialized RX1, Cond.code yX1_costOf cX1_costOf 2 (some .int), Cond.methodLink RX4 54 yX4_saveState, Cond.instanceMethod yX4_saveState, Cond.selects RX4 yX4_saveState yX4_saveState, Cond.code yX4_saveState cX4_saveState 2 none, Cond.methodLink RX4 158 yX3_copyFrom, Cond.instanceMethod yX3_copyFrom, Cond.selects RX3 yX3_copyFrom yX3_copyFrom, Cond.code yX3_copyFrom cX3_copyFrom 2 none]
def wsL_law0_r5 : List Cond := [Cond.fieldLink RX3 59 "HoseTests$Station" "tests" "I", Cond.fieldLink RX3 62 "HoseTests$Station" "bursts" "I", Cond.fieldLink RX3 65 "HoseTests$Station" "paid" "I", Cond.methodLink RX3 68 arraycopyName, Cond.native arraycopyName, Cond.static arraycopyName, Cond.initialized "java/lang/System", Cond.methodLink RX4 57 yX3_addHose, Cond.instanceMethod yX3_addHose, Cond.selects RX3 yX3_addHose yX3_addHose, Cond.code yX3_addHose cX3_addHose 6 (some .int), Cond.methodLink RX3 102 yX3_priceOf, Cond.instanceMethod yX3_priceOf, Cond.selects RX3 yX3_priceOf yX3_priceOf, Cond.code yX3_priceOf cX3_priceOf 2 (some .int), Cond.methodLink RL 82 yX5_buy, Cond.instanceMethod yX5_buy, Cond.selects RX5 yX5_buy yX5_buy, Cond.code yX5_buy cX5_buy 4 (some .int), Cond.fieldLink RX5 22 "HoseTestsModel" "thrown" "I", Cond.methodLink RX5 26 yX5_in, Cond.static yX5_in, Cond.code yX5_in cX5_in 3 (some .boolean), Cond.methodLink RX5 33 yX5_fails]
def wsL_law0_r6 : List Cond := [Cond.instanceMethod yX5_fails, Cond.selects RX5 yX5_fails yX5_fails, Cond.code yX5_fails cX5_fails 2 (some .int), Cond.methodLink RX5 73 yX5_mayBuy, Cond.instanceMethod yX5_mayBuy, Cond.selects RX5 yX5_mayBuy yX5_mayBuy, Cond.code yX5_mayBuy cX5_mayBuy 3 (some .boolean), Cond.methodLink RX5 70 yX5_cost, Cond.static yX5_cost, Cond.code yX5_cost cX5_cost 2 (some .int), Cond.methodLink RX5 77 yX5_saves, Cond.instanceMethod yX5_saves, Cond.selects RX5 yX5_saves yX5_saves, Cond.code yX5_saves cX5_saves 2 none, Cond.fieldLink RX5 30 "HoseTestsModel" "kept" "I", Cond.methodLink RX5 80 yX5_buys, Cond.instanceMethod yX5_buys, Cond.selects RX5 yX5_buys yX5_buys, Cond.code yX5_buys cX5_buys 6 (some .int), Cond.methodLink RL 83 yX5_thrown, Cond.instanceMethod yX5_thrown, Cond.selects RX5 yX5_thrown yX5_thrown, Cond.code yX5_thrown cX5_thrown 1 (some .int), Cond.methodLink RL 86 yL_renew]
def wsL_law0_r7 : List Cond := [Cond.static yL_renew, Cond.codeWith yL_renew cL_renew 4 (some .int) [(0, 9, 12, 21), (0, 9, 15, 15)], Cond.classLink RL 21 "java/lang/IndexOutOfBoundsException", Cond.methodLink RL 17 yX4_renew, Cond.instanceMethod yX4_renew, Cond.selects RX4 yX4_renew yX4_renew, Cond.code yX4_renew cX4_renew 2 (some .int), Cond.fieldLink RX4 68 "HoseTests$Station" "kind" "[I", Cond.fieldLink RX4 72 "HoseTests$Station" "length" "[I", Cond.methodLink RX4 61 yX4_requireHose, Cond.instanceMethod yX4_requireHose, Cond.selects RX4 yX4_requireHose yX4_requireHose, Cond.code yX4_requireHose cX4_requireHose 2 none, Cond.classLink RX4 287 "java/lang/IndexOutOfBoundsException", Cond.initialized "java/lang/IndexOutOfBoundsException", Cond.fieldLink RX4 216 "HoseTests$Station" "hoses" "I", Cond.methodLink RX4 65 yX4_requireAtHand, Cond.instanceMethod yX4_requireAtHand, Cond.selects RX4 yX4_requireAtHand yX4_requireAtHand, Cond.code yX4_requireAtHand cX4_requireAtHand 2 none, Cond.methodLink RX4 234 yX3_isGone, Cond.instanceMethod yX3_isGone, Cond.selects RX3 yX3_isGone yX3_isGone, Cond.code yX3_isGone cX3_isGone 2 (some .boolean)]
def wsL_law0_r8 : List Cond := [Cond.methodLink RX4 292 yX3_isLent, Cond.instanceMethod yX3_isLent, Cond.selects RX3 yX3_isLent yX3_isLent, Cond.code yX3_isLent cX3_isLent 2 (some .boolean), Cond.methodLink RX4 75 yX3_replaceHose, Cond.instanceMethod yX3_replaceHose, Cond.selects RX3 yX3_replaceHose yX3_replaceHose, Cond.code yX3_replaceHose cX3_replaceHose 3 (some .int), Cond.methodLink RX3 105 yX3_addHose, Cond.methodLink RL 89 yX5_renew, Cond.instanceMethod yX5_renew, Cond.selects RX5 yX5_renew yX5_renew, Cond.code yX5_renew cX5_renew 3 (some .int), Cond.methodLink RX5 84 yX5_isHose, Cond.instanceMethod yX5_isHose, Cond.selects RX5 yX5_isHose yX5_isHose, Cond.code yX5_isHose cX5_isHose 2 (some .boolean), Cond.methodLink RX5 87 yX5_isHere, Cond.instanceMethod yX5_isHere, Cond.selects RX5 yX5_isHere yX5_isHere, Cond.code yX5_isHere cX5_isHere 2 (some .boolean), Cond.methodLink RX5 37 yX5_of, Cond.instanceMethod yX5_of, Cond.selects RX5 yX5_of yX5_of]
def wsL_law0_r9 : List Cond := [Cond.code yX5_of cX5_of 3 (some .int), Cond.methodLink RX5 90 yX5_changes, Cond.instanceMethod yX5_changes, Cond.selects RX5 yX5_changes yX5_changes, Cond.code yX5_changes cX5_changes 4 (some .int), Cond.methodLink RL 90 yL_put, Cond.static yL_put, Cond.codeWith yL_put cL_put 5 (some .int) [(0, 10, 13, 21), (0, 10, 17, 13), (0, 10, 21, 15)], Cond.methodLink RL 23 yX4_put, Cond.instanceMethod yX4_put, Cond.selects RX4 yX4_put yX4_put, Cond.code yX4_put cX4_put 4 (some .int), Cond.fieldLink RX4 81 "HoseTests$Station" "place" "[I", Cond.methodLink RL 93 yX5_put, Cond.instanceMethod yX5_put, Cond.selects RX5 yX5_put yX5_put, Cond.code yX5_put cX5_put 3 (some .int), Cond.methodLink RL 94 yL_lend, Cond.static yL_lend, Cond.codeWith yL_lend cL_lend 5 (some .int) [(0, 10, 13, 21), (0, 10, 17, 13), (0, 10, 21, 15)], Cond.methodLink RL 27 yX4_lend, Cond.instanceMethod yX4_lend, Cond.selects RX4 yX4_lend yX4_lend, Cond.code yX4_lend cX4_lend 3 (some .int)]
def wsL_law0_r10 : List Cond := [Cond.methodLink RX4 86 yX3_isReady, Cond.instanceMethod yX3_isReady, Cond.selects RX3 yX3_isReady yX3_isReady, Cond.code yX3_isReady cX3_isReady 2 (some .boolean), Cond.methodLink RX3 78 yX3_reasonOf, Cond.instanceMethod yX3_reasonOf, Cond.selects RX3 yX3_reasonOf yX3_reasonOf, Cond.code yX3_reasonOf cX3_reasonOf 2 (some .int), Cond.methodLink RX3 82 yX3_isGone, Cond.methodLink RX3 86 yX3_isLent, Cond.methodLink RX3 89 yX1_lifeOf, Cond.static yX1_lifeOf, Cond.code yX1_lifeOf cX1_lifeOf 1 (some .int), Cond.methodLink RX4 92 yX3_lendOut, Cond.instanceMethod yX3_lendOut, Cond.selects RX3 yX3_lendOut yX3_lendOut, Cond.code yX3_lendOut cX3_lendOut 3 (some .int), Cond.methodLink RL 96 yX5_lend, Cond.instanceMethod yX5_lend, Cond.selects RX5 yX5_lend yX5_lend, Cond.code yX5_lend cX5_lend 3 (some .int), Cond.methodLink RX5 62 yX5_isReady, Cond.instanceMethod yX5_isReady, Cond.selects RX5 yX5_isReady yX5_isReady]
def wsL_law0_r11 : List Cond := [Cond.code yX5_isReady cX5_isReady 2 (some .boolean), Cond.methodLink RX5 44 yX5_reason, Cond.instanceMethod yX5_reason, Cond.selects RX5 yX5_reason yX5_reason, Cond.code yX5_reason cX5_reason 3 (some .int), Cond.methodLink RX5 41 yX5_life, Cond.static yX5_life, Cond.code yX5_life cX5_life 1 (some .int), Cond.methodLink RL 97 yL_test, Cond.static yL_test, Cond.codeWith yL_test cL_test 5 (some .int) [(0, 10, 13, 21), (0, 10, 17, 13), (0, 10, 21, 15)], Cond.methodLink RL 30 yX4_test, Cond.instanceMethod yX4_test, Cond.selects RX4 yX4_test yX4_test, Cond.code yX4_test cX4_test 3 (some .int), Cond.methodLink RX4 96 yX4_requirePressure, Cond.static yX4_requirePressure, Cond.code yX4_requirePressure cX4_requirePressure 1 none, Cond.methodLink RX4 99 yX3_runTest, Cond.instanceMethod yX3_runTest, Cond.selects RX3 yX3_runTest yX3_runTest, Cond.code yX3_runTest cX3_runTest 5 (some .int), Cond.methodLink RX3 112 Lib.Math.min.name, Cond.static Lib.Math.min.name]
def wsL_law0_r12 : List Cond := [Cond.initialized "java/lang/Math", Cond.code Lib.Math.min.name Lib.Math.min.code 2 (some .int), Cond.methodLink RX3 123 yX3_outcomeOf, Cond.instanceMethod yX3_outcomeOf, Cond.selects RX3 yX3_outcomeOf yX3_outcomeOf, Cond.code yX3_outcomeOf cX3_outcomeOf 4 (some .int), Cond.methodLink RX3 120 yX3_stepsHeld, Cond.instanceMethod yX3_stepsHeld, Cond.selects RX3 yX3_stepsHeld yX3_stepsHeld, Cond.code yX3_stepsHeld cX3_stepsHeld 7 (some .int), Cond.methodLink RX3 109 yX3_stepsUpTo, Cond.static yX3_stepsUpTo, Cond.code yX3_stepsUpTo cX3_stepsUpTo 1 (some .int), Cond.methodLink RX3 117 yX3_strengthAt, Cond.instanceMethod yX3_strengthAt, Cond.selects RX3 yX3_strengthAt yX3_strengthAt, Cond.code yX3_strengthAt cX3_strengthAt 3 (some .int), Cond.methodLink RX3 94 yX1_strengthOf, Cond.static yX1_strengthOf, Cond.code yX1_strengthOf cX1_strengthOf 3 (some .int), Cond.methodLink RX1 9 Lib.Math.max.name, Cond.static Lib.Math.max.name, Cond.code Lib.Math.max.name Lib.Math.max.code 2 (some .int), Cond.methodLink RX3 126 yX1_daysInForce]
def wsL_law0_r13 : List Cond := [Cond.static yX1_daysInForce, Cond.code yX1_daysInForce cX1_daysInForce 1 (some .int), Cond.methodLink RL 99 yX5_test, Cond.instanceMethod yX5_test, Cond.selects RX5 yX5_test yX5_test, Cond.code yX5_test cX5_test 5 (some .int), Cond.fieldLink RX5 47 "HoseTestsModel" "worn" "I", Cond.methodLink RX5 93 yX5_tries, Cond.instanceMethod yX5_tries, Cond.selects RX5 yX5_tries yX5_tries, Cond.code yX5_tries cX5_tries 5 (some .int), Cond.methodLink RX5 50 yX5_strength, Cond.instanceMethod yX5_strength, Cond.selects RX5 yX5_strength yX5_strength, Cond.code yX5_strength cX5_strength 6 (some .int), Cond.methodLink RX5 96 yX5_force, Cond.static yX5_force, Cond.code yX5_force cX5_force 1 (some .int), Cond.methodLink RL 100 yL_want, Cond.static yL_want, Cond.codeWith yL_want cL_want 5 (some .int) [(0, 10, 13, 21), (0, 10, 17, 13)], Cond.methodLink RL 33 yX4_want, Cond.instanceMethod yX4_want, Cond.selects RX4 yX4_want yX4_want]
def wsL_law0_r14 : List Cond := [Cond.code yX4_want cX4_want 4 (some .int), Cond.fieldLink RX4 107 "HoseTests$Station" "wanted" "[I", Cond.methodLink RX4 102 yX4_requireTruck, Cond.static yX4_requireTruck, Cond.code yX4_requireTruck cX4_requireTruck 1 none, Cond.methodLink RL 102 yX5_want, Cond.instanceMethod yX5_want, Cond.selects RX5 yX5_want yX5_want, Cond.code yX5_want cX5_want 3 (some .int), Cond.methodLink RX5 99 yX5_isTruck, Cond.static yX5_isTruck, Cond.code yX5_isTruck cX5_isTruck 1 (some .boolean), Cond.methodLink RL 103 yL_set, Cond.static yL_set, Cond.codeWith yL_set cL_set 5 (some .int) [(0, 10, 13, 21), (0, 10, 17, 13)], Cond.methodLink RL 36 yX4_set, Cond.instanceMethod yX4_set, Cond.selects RX4 yX4_set yX4_set, Cond.code yX4_set cX4_set 4 (some .int), Cond.fieldLink RX4 121 "HoseTests$Station" "settings" "[I", Cond.methodLink RX4 110 yX4_requireSetting, Cond.static yX4_requireSetting, Cond.code yX4_requireSetting cX4_requireSetting 1 none, Cond.methodLink RX4 113 yX4_leastOfSetting]
def wsL_law0_r15 : List Cond := [Cond.static yX4_leastOfSetting, Cond.code yX4_leastOfSetting cX4_leastOfSetting 1 (some .int), Cond.methodLink RX4 116 yX4_greatestOfSetting, Cond.static yX4_greatestOfSetting, Cond.code yX4_greatestOfSetting cX4_greatestOfSetting 1 (some .int), Cond.methodLink RL 105 yX5_set, Cond.instanceMethod yX5_set, Cond.selects RX5 yX5_set yX5_set, Cond.code yX5_set cX5_set 3 (some .int), Cond.methodLink RL 106 yL_pass, Cond.static yL_pass, Cond.codeWith yL_pass cL_pass 4 (some .int) [(0, 9, 12, 13)], Cond.methodLink RL 39 yX4_pass, Cond.instanceMethod yX4_pass, Cond.selects RX4 yX4_pass yX4_pass, Cond.code yX4_pass cX4_pass 3 (some .int), Cond.fieldLink RX4 127 "HoseTests$Station" "day" "I", Cond.methodLink RX4 124 yX3_passDay, Cond.instanceMethod yX3_passDay, Cond.selects RX3 yX3_passDay yX3_passDay, Cond.code yX3_passDay cX3_passDay 1 none, Cond.methodLink RX3 129 yX3_takeBackLent, Cond.instanceMethod yX3_takeBackLent, Cond.selects RX3 yX3_takeBackLent yX3_takeBackLent]
def wsL_law0_r16 : List Cond := [Cond.code yX3_takeBackLent cX3_takeBackLent 2 none, Cond.methodLink RX3 132 yX3_wearOnTrucks, Cond.instanceMethod yX3_wearOnTrucks, Cond.selects RX3 yX3_wearOnTrucks yX3_wearOnTrucks, Cond.code yX3_wearOnTrucks cX3_wearOnTrucks 2 none, Cond.methodLink RX3 135 yX3_isOnTruck, Cond.instanceMethod yX3_isOnTruck, Cond.selects RX3 yX3_isOnTruck yX3_isOnTruck, Cond.code yX3_isOnTruck cX3_isOnTruck 2 (some .boolean), Cond.methodLink RX3 138 yX3_isReady, Cond.methodLink RL 108 yX5_pass, Cond.instanceMethod yX5_pass, Cond.selects RX5 yX5_pass yX5_pass, Cond.code yX5_pass cX5_pass 3 (some .int), Cond.methodLink RX5 102 yX5_day, Cond.instanceMethod yX5_day, Cond.selects RX5 yX5_day yX5_day, Cond.code yX5_day cX5_day 3 none, Cond.methodLink RL 109 yL_append, Cond.static yL_append, Cond.codeWith yL_append cL_append 4 (some .int) [(0, 9, 12, 13), (0, 9, 15, 15)], Cond.methodLink RL 42 yX4_append, Cond.instanceMethod yX4_append, Cond.selects RX4 yX4_append yX4_append]
def wsL_law0_r17 : List Cond := [Cond.code yX4_append cX4_append 2 (some .int), Cond.fieldLink RX4 141 "HoseTests$HoseText" "size" "I", Cond.methodLink RX4 132 yX0_isFull, Cond.instanceMethod yX0_isFull, Cond.selects RX0 yX0_isFull yX0_isFull, Cond.code yX0_isFull cX0_isFull 1 (some .boolean), Cond.methodLink RX4 138 yX0_addCode, Cond.instanceMethod yX0_addCode, Cond.selects RX0 yX0_addCode yX0_addCode, Cond.code yX0_addCode cX0_addCode 2 none, Cond.methodLink RL 111 yX5_append, Cond.instanceMethod yX5_append, Cond.selects RX5 yX5_append yX5_append, Cond.code yX5_append cX5_append 2 (some .int), Cond.fieldLink RX5 105 "HoseTestsModel" "typed" "I", Cond.methodLink RL 112 yX4_clearBuffer, Cond.instanceMethod yX4_clearBuffer, Cond.selects RX4 yX4_clearBuffer yX4_clearBuffer, Cond.code yX4_clearBuffer cX4_clearBuffer 2 (some .int), Cond.methodLink RL 115 yX5_clearBuffer, Cond.instanceMethod yX5_clearBuffer, Cond.selects RX5 yX5_clearBuffer yX5_clearBuffer, Cond.code yX5_clearBuffer cX5_clearBuffer 2 (some .int), Cond.methodLink RL 116 yX4_firstError]
def wsL_law0_r18 : List Cond := [Cond.instanceMethod yX4_firstError, Cond.selects RX4 yX4_firstError yX4_firstError, Cond.code yX4_firstError cX4_firstError 1 (some .int), Cond.methodLink RX4 144 yX0_findError, Cond.instanceMethod yX0_findError, Cond.selects RX0 yX0_findError yX0_findError, Cond.code yX0_findError cX0_findError 3 (some .int), Cond.methodLink RX0 19 yX0_stateBehind, Cond.static yX0_stateBehind, Cond.code yX0_stateBehind cX0_stateBehind 2 (some .int), Cond.methodLink RX0 23 yX0_kindOf, Cond.static yX0_kindOf, Cond.code yX0_kindOf cX0_kindOf 1 (some .int), Cond.methodLink RX0 27 yX0_stateBehindFirstDigit, Cond.static yX0_stateBehindFirstDigit, Cond.code yX0_stateBehindFirstDigit cX0_stateBehindFirstDigit 1 (some .int), Cond.methodLink RX0 30 yX0_isDigit, Cond.static yX0_isDigit, Cond.code yX0_isDigit cX0_isDigit 1 (some .boolean), Cond.methodLink RX0 34 yX0_stateBehindCoupling, Cond.static yX0_stateBehindCoupling, Cond.code yX0_stateBehindCoupling cX0_stateBehindCoupling 1 (some .int), Cond.methodLink RX0 37 yX0_couplingOf, Cond.static yX0_couplingOf]
def wsL_law0_r19 : List Cond := [Cond.code yX0_couplingOf cX0_couplingOf 1 (some .int), Cond.methodLink RL 119 yX5_firstError, Cond.instanceMethod yX5_firstError, Cond.selects RX5 yX5_firstError yX5_firstError, Cond.code yX5_firstError cX5_firstError 2 (some .int), Cond.fieldLink RX5 111 "HoseTestsModel" "isFault" "Z", Cond.fieldLink RX5 108 "HoseTestsModel" "at" "I", Cond.methodLink RX5 131 yX5_isText, Cond.instanceMethod yX5_isText, Cond.selects RX5 yX5_isText yX5_isText, Cond.code yX5_isText cX5_isText 2 (some .boolean), Cond.fieldLink RX5 122 "HoseTestsModel" "tolds" "I", Cond.methodLink RX5 128 yX5_isPart, Cond.instanceMethod yX5_isPart, Cond.selects RX5 yX5_isPart yX5_isPart, Cond.code yX5_isPart cX5_isPart 2 (some .boolean), Cond.methodLink RX5 118 yX5_stops, Cond.instanceMethod yX5_stops, Cond.selects RX5 yX5_stops yX5_stops, Cond.code yX5_stops cX5_stops 1 (some .boolean), Cond.methodLink RX5 125 yX5_isLength, Cond.instanceMethod yX5_isLength, Cond.selects RX5 yX5_isLength yX5_isLength, Cond.code yX5_isLength cX5_isLength 2 (some .boolean)]
def wsL_law0_r20 : List Cond := [Cond.methodLink RX5 115 yX5_isAt, Cond.instanceMethod yX5_isAt, Cond.selects RX5 yX5_isAt yX5_isAt, Cond.code yX5_isAt cX5_isAt 3 (some .boolean), Cond.methodLink RL 120 yL_buyAll, Cond.static yL_buyAll, Cond.codeWith yL_buyAll cL_buyAll 3 (some .int) [(0, 8, 11, 13)], Cond.methodLink RL 45 yX4_buyAll, Cond.instanceMethod yX4_buyAll, Cond.selects RX4 yX4_buyAll yX4_buyAll, Cond.code yX4_buyAll cX4_buyAll 2 (some .int), Cond.methodLink RX4 148 yX0_isComplete, Cond.instanceMethod yX0_isComplete, Cond.selects RX0 yX0_isComplete yX0_isComplete, Cond.code yX0_isComplete cX0_isComplete 3 (some .boolean), Cond.methodLink RX4 153 yX4_buyParts, Cond.instanceMethod yX4_buyParts, Cond.selects RX4 yX4_buyParts yX4_buyParts, Cond.code yX4_buyParts cX4_buyParts 6 (some .int), Cond.fieldLink RX4 284 "HoseTests$HoseText" "codes" "[I", Cond.methodLink RX4 303 yX0_kindOf, Cond.methodLink RX4 306 yX0_isDigit, Cond.methodLink RX4 309 yX0_couplingOf, Cond.methodLink RL 123 yX5_buyAll]
def wsL_law0_r21 : List Cond := [Cond.instanceMethod yX5_buyAll, Cond.selects RX5 yX5_buyAll yX5_buyAll, Cond.code yX5_buyAll cX5_buyAll 2 (some .int), Cond.methodLink RL 124 yL_undo, Cond.static yL_undo, Cond.codeWith yL_undo cL_undo 3 (some .int) [(0, 8, 11, 15)], Cond.methodLink RL 49 yX4_undo, Cond.instanceMethod yX4_undo, Cond.selects RX4 yX4_undo yX4_undo, Cond.code yX4_undo cX4_undo 2 (some .int), Cond.methodLink RL 126 yX5_undo, Cond.instanceMethod yX5_undo, Cond.selects RX5 yX5_undo yX5_undo, Cond.code yX5_undo cX5_undo 2 (some .int), Cond.methodLink RL 127 yL_hose, Cond.static yL_hose, Cond.codeWith yL_hose cL_hose 5 (some .int) [(0, 10, 13, 21), (0, 10, 17, 13)], Cond.methodLink RL 52 yX4_hose, Cond.instanceMethod yX4_hose, Cond.selects RX4 yX4_hose yX4_hose, Cond.code yX4_hose cX4_hose 3 (some .int), Cond.fieldLink RX4 164 "HoseTests$Station" "coupling" "[I", Cond.fieldLink RX4 167 "HoseTests$Station" "made" "[I", Cond.fieldLink RX4 170 "HoseTests$Station" "wear" "[I"]
def wsL_law0_r22 : List Cond := [Cond.fieldLink RX4 176 "HoseTests$Station" "lastTestDay" "[I", Cond.fieldLink RX4 179 "HoseTests$Station" "backDay" "[I", Cond.methodLink RX4 173 yX3_strengthAt, Cond.methodLink RX4 182 yX3_reasonOf, Cond.methodLink RL 129 yX5_hose, Cond.instanceMethod yX5_hose, Cond.selects RX5 yX5_hose yX5_hose, Cond.code yX5_hose cX5_hose 3 (some .int), Cond.methodLink RX5 134 yX5_ofHose, Cond.instanceMethod yX5_ofHose, Cond.selects RX5 yX5_ofHose yX5_ofHose, Cond.code yX5_ofHose cX5_ofHose 3 (some .int), Cond.methodLink RL 130 yL_truck, Cond.static yL_truck, Cond.codeWith yL_truck cL_truck 5 (some .int) [(0, 10, 13, 21), (0, 10, 17, 13)], Cond.methodLink RL 55 yX4_truck, Cond.instanceMethod yX4_truck, Cond.selects RX4 yX4_truck yX4_truck, Cond.code yX4_truck cX4_truck 4 (some .int), Cond.fieldLink RX4 190 "HoseTests$Station" "line" "LHoseTests$Line;", Cond.fieldLink RX4 194 "HoseTests$Line" "metres" "I", Cond.fieldLink RX4 205 "HoseTests$Line" "adaptersUsed" "I", Cond.fieldLink RX4 208 "HoseTests$Line" "mask" "I", Cond.methodLink RX4 187 yX3_layLine]
def wsL_law0_r23 : List Cond := [Cond.instanceMethod yX3_layLine, Cond.selects RX3 yX3_layLine yX3_layLine, Cond.code yX3_layLine cX3_layLine 4 (some .boolean), Cond.fieldLink RX3 148 "HoseTests$Line" "metres" "I", Cond.methodLink RX3 141 yX2_begin, Cond.instanceMethod yX2_begin, Cond.selects RX2 yX2_begin yX2_begin, Cond.code yX2_begin cX2_begin 1 none, Cond.fieldLink RX2 9 "HoseTests$Line" "metres" "I", Cond.fieldLink RX2 15 "HoseTests$Line" "adaptersUsed" "I", Cond.fieldLink RX2 18 "HoseTests$Line" "mask" "I", Cond.fieldLink RX2 21 "HoseTests$Line" "lastCoupling" "I", Cond.methodLink RX3 144 yX2_join, Cond.instanceMethod yX2_join, Cond.selects RX2 yX2_join yX2_join, Cond.code yX2_join cX2_join 5 none, Cond.methodLink RX4 199 yX3_hosesAt, Cond.instanceMethod yX3_hosesAt, Cond.selects RX3 yX3_hosesAt yX3_hosesAt, Cond.code yX3_hosesAt cX3_hosesAt 4 (some .int), Cond.methodLink RX4 202 yX3_readyHosesAt, Cond.instanceMethod yX3_readyHosesAt, Cond.selects RX3 yX3_readyHosesAt yX3_readyHosesAt, Cond.code yX3_readyHosesAt cX3_readyHosesAt 4 (some .int)]
def wsL_law0_r24 : List Cond := [Cond.methodLink RL 132 yX5_truck, Cond.instanceMethod yX5_truck, Cond.selects RX5 yX5_truck yX5_truck, Cond.code yX5_truck cX5_truck 3 (some .int), Cond.methodLink RX5 144 yX5_ofTruck, Cond.instanceMethod yX5_ofTruck, Cond.selects RX5 yX5_ofTruck yX5_ofTruck, Cond.code yX5_ofTruck cX5_ofTruck 4 (some .int), Cond.fieldLink RX5 53 "HoseTestsModel" "line" "I", Cond.fieldLink RX5 56 "HoseTestsModel" "adapters" "I", Cond.fieldLink RX5 59 "HoseTestsModel" "inLine" "I", Cond.methodLink RX5 137 yX5_isWhole, Cond.instanceMethod yX5_isWhole, Cond.selects RX5 yX5_isWhole yX5_isWhole, Cond.code yX5_isWhole cX5_isWhole 3 (some .boolean), Cond.methodLink RX5 66 yX5_lays, Cond.instanceMethod yX5_lays, Cond.selects RX5 yX5_lays yX5_lays, Cond.code yX5_lays cX5_lays 7 none, Cond.methodLink RX5 140 yX5_on, Cond.instanceMethod yX5_on, Cond.selects RX5 yX5_on yX5_on, Cond.code yX5_on cX5_on 5 (some .int), Cond.methodLink RL 133 yL_count]
def wsL_law0_r25 : List Cond := [Cond.static yL_count, Cond.codeWith yL_count cL_count 4 (some .int) [(0, 9, 12, 13)], Cond.methodLink RL 58 yX4_count, Cond.instanceMethod yX4_count, Cond.selects RX4 yX4_count yX4_count, Cond.code yX4_count cX4_count 2 (some .int), Cond.fieldLink RX4 213 "HoseTests$Station" "money" "I", Cond.fieldLink RX4 225 "HoseTests$Station" "tests" "I", Cond.fieldLink RX4 228 "HoseTests$Station" "bursts" "I", Cond.fieldLink RX4 231 "HoseTests$Station" "paid" "I", Cond.methodLink RX4 219 yX3_readyHoses, Cond.instanceMethod yX3_readyHoses, Cond.selects RX3 yX3_readyHoses yX3_readyHoses, Cond.code yX3_readyHoses cX3_readyHoses 3 (some .int), Cond.methodLink RX4 222 yX3_wholeTrucks, Cond.instanceMethod yX3_wholeTrucks, Cond.selects RX3 yX3_wholeTrucks yX3_wholeTrucks, Cond.code yX3_wholeTrucks cX3_wholeTrucks 3 (some .int), Cond.methodLink RX3 151 yX3_layLine, Cond.methodLink RL 135 yX5_count, Cond.instanceMethod yX5_count, Cond.selects RX5 yX5_count yX5_count, Cond.code yX5_count cX5_count 2 (some .int), Cond.methodLink RX5 150 yX5_counted]
def wsL_law0_r26 : List Cond := [Cond.instanceMethod yX5_counted, Cond.selects RX5 yX5_counted yX5_counted, Cond.code yX5_counted cX5_counted 2 (some .int), Cond.methodLink RX5 147 yX5_having, Cond.instanceMethod yX5_having, Cond.selects RX5 yX5_having yX5_having, Cond.code yX5_having cX5_having 4 (some .int), Cond.methodLink RL 136 yL_setting, Cond.static yL_setting, Cond.codeWith yL_setting cL_setting 4 (some .int) [(0, 9, 12, 21)], Cond.methodLink RL 61 yX4_setting, Cond.instanceMethod yX4_setting, Cond.selects RX4 yX4_setting yX4_setting, Cond.code yX4_setting cX4_setting 2 (some .int), Cond.methodLink RL 138 yX5_setting, Cond.instanceMethod yX5_setting, Cond.selects RX5 yX5_setting yX5_setting, Cond.code yX5_setting cX5_setting 2 (some .int), Cond.methodLink RL 139 yL_ifTested, Cond.static yL_ifTested, Cond.codeWith yL_ifTested cL_ifTested 5 (some .int) [(0, 10, 13, 21), (0, 10, 17, 13)], Cond.methodLink RL 64 yX4_ifTested, Cond.instanceMethod yX4_ifTested, Cond.selects RX4 yX4_ifTested yX4_ifTested]
def wsL_law0_r27 : List Cond := [Cond.code yX4_ifTested cX4_ifTested 3 (some .int), Cond.methodLink RX4 237 yX3_outcomeOf, Cond.methodLink RL 141 yX5_ifTested, Cond.instanceMethod yX5_ifTested, Cond.selects RX5 yX5_ifTested yX5_ifTested, Cond.code yX5_ifTested cX5_ifTested 3 (some .int), Cond.methodLink RX5 153 yX5_tried, Cond.instanceMethod yX5_tried, Cond.selects RX5 yX5_tried yX5_tried, Cond.code yX5_tried cX5_tried 3 (some .int), Cond.methodLink RL 142 yL_safe, Cond.static yL_safe, Cond.codeWith yL_safe cL_safe 4 (some .int) [(0, 9, 12, 21)], Cond.methodLink RL 67 yX4_safe, Cond.instanceMethod yX4_safe, Cond.selects RX4 yX4_safe yX4_safe, Cond.code yX4_safe cX4_safe 2 (some .int), Cond.methodLink RX4 240 yX3_greatestSafePressure, Cond.instanceMethod yX3_greatestSafePressure, Cond.selects RX3 yX3_greatestSafePressure yX3_greatestSafePressure, Cond.code yX3_greatestSafePressure cX3_greatestSafePressure 3 (some .int), Cond.methodLink RL 144 yX5_safe, Cond.instanceMethod yX5_safe, Cond.selects RX5 yX5_safe yX5_safe]
def wsL_law0_r28 : List Cond := [Cond.code yX5_safe cX5_safe 2 (some .int), Cond.methodLink RX5 156 yX5_greatest, Cond.instanceMethod yX5_greatest, Cond.selects RX5 yX5_greatest yX5_greatest, Cond.code yX5_greatest cX5_greatest 3 (some .int), Cond.methodLink RL 145 yX4_nextLapse, Cond.instanceMethod yX4_nextLapse, Cond.selects RX4 yX4_nextLapse yX4_nextLapse, Cond.code yX4_nextLapse cX4_nextLapse 1 (some .int), Cond.methodLink RX4 243 yX3_daysToFirstLapse, Cond.instanceMethod yX3_daysToFirstLapse, Cond.selects RX3 yX3_daysToFirstLapse yX3_daysToFirstLapse, Cond.code yX3_daysToFirstLapse cX3_daysToFirstLapse 5 (some .int), Cond.methodLink RL 148 yX5_nextLapse, Cond.instanceMethod yX5_nextLapse, Cond.selects RX5 yX5_nextLapse yX5_nextLapse, Cond.code yX5_nextLapse cX5_nextLapse 1 (some .int), Cond.methodLink RX5 159 yX5_lapses, Cond.instanceMethod yX5_lapses, Cond.selects RX5 yX5_lapses yX5_lapses, Cond.code yX5_lapses cX5_lapses 6 (some .int), Cond.methodLink RL 149 yL_helps, Cond.static yL_helps, Cond.codeWith yL_helps cL_helps 4 (some .int) [(0, 9, 12, 21)]]
def wsL_law0_r29 : List Cond := [Cond.methodLink RL 70 yX4_helps, Cond.instanceMethod yX4_helps, Cond.selects RX4 yX4_helps yX4_helps, Cond.code yX4_helps cX4_helps 2 (some .int), Cond.methodLink RX4 246 yX3_cheapestHelp, Cond.instanceMethod yX3_cheapestHelp, Cond.selects RX3 yX3_cheapestHelp yX3_cheapestHelp, Cond.code yX3_cheapestHelp cX3_cheapestHelp 6 (some .int), Cond.methodLink RL 151 yX5_helps, Cond.instanceMethod yX5_helps, Cond.selects RX5 yX5_helps yX5_helps, Cond.code yX5_helps cX5_helps 2 (some .int), Cond.methodLink RX5 163 yX5_cheapest, Cond.instanceMethod yX5_cheapest, Cond.selects RX5 yX5_cheapest yX5_cheapest, Cond.code yX5_cheapest cX5_cheapest 6 (some .int), Cond.methodLink RL 152 yX4_readyShare, Cond.instanceMethod yX4_readyShare, Cond.selects RX4 yX4_readyShare yX4_readyShare, Cond.code yX4_readyShare cX4_readyShare 2 (some .double), Cond.methodLink RL 156 yX5_readyShare, Cond.instanceMethod yX5_readyShare, Cond.selects RX5 yX5_readyShare yX5_readyShare, Cond.code yX5_readyShare cX5_readyShare 1 (some .double)]
def wsL_law0_r30 : List Cond := [Cond.methodLink RX5 166 yX5_share, Cond.instanceMethod yX5_share, Cond.selects RX5 yX5_share yX5_share, Cond.code yX5_share cX5_share 2 (some .double), Cond.methodLink RL 157 yX4_digest, Cond.instanceMethod yX4_digest, Cond.selects RX4 yX4_digest yX4_digest, Cond.code yX4_digest cX4_digest 5 (some .long), Cond.constantLong RX4 249 (3271), Cond.methodLink RX4 251 yX4_count, Cond.methodLink RX4 254 yX4_mixed, Cond.static yX4_mixed, Cond.code yX4_mixed cX4_mixed 4 (some .long), Cond.constantLong RX4 312 (31), Cond.methodLink RX4 258 yX4_hose, Cond.methodLink RX4 261 yX4_ifTested, Cond.methodLink RX4 264 yX4_safe, Cond.methodLink RX4 267 yX4_truck, Cond.methodLink RX4 270 yX4_helps, Cond.methodLink RX4 273 yX4_nextLapse, Cond.methodLink RX4 276 yX4_readyShare, Cond.methodLink RX4 280 yX4_bitsOfShare, Cond.static yX4_bitsOfShare, Cond.code yX4_bitsOfShare cX4_bitsOfShare 8 (some .long)]
def wsL_law0_r31 : List Cond := [Cond.constantLong RX4 314 (1023), Cond.constantDouble RX4 316 (4611686018427387904), Cond.constantDouble RX4 318 (4841369599423283200), Cond.methodLink RL 161 yX5_digest, Cond.instanceMethod yX5_digest, Cond.selects RX5 yX5_digest yX5_digest, Cond.code yX5_digest cX5_digest 5 (some .long), Cond.constantLong RX5 170 (3271), Cond.constantLong RX5 172 (31), Cond.methodLink RX5 174 yJxe99ae_doubleToLongBits_ccdee, Cond.static yJxe99ae_doubleToLongBits_ccdee, Cond.initialized RJxe99ae, Cond.code yJxe99ae_doubleToLongBits_ccdee cJxe99ae_doubleToLongBits_ccdee 2 (some .long), Cond.methodLink RJxe99ae 134 ⟨"java/lang/Double", "doubleToRawLongBits", "(D)J"⟩, Cond.native ⟨"java/lang/Double", "doubleToRawLongBits", "(D)J"⟩, Cond.static ⟨"java/lang/Double", "doubleToRawLongBits", "(D)J"⟩, Cond.initialized "java/lang/Double", Cond.constantLong RJxe99ae 137 (9221120237041090560), Cond.methodLink RJxe99ae 122 yJxe99ae_isNaN_b9ae7, Cond.static yJxe99ae_isNaN_b9ae7, Cond.code yJxe99ae_isNaN_b9ae7 cJxe99ae_isNaN_b9ae7 2 (some .boolean)]
def wsL_law0 : List Cond := (wsL_law0_r1 ++ (wsL_law0_r2 ++ (wsL_law0_r3 ++ (wsL_law0_r4 ++ (wsL_law0_r5 ++ (wsL_law0_r6 ++ (wsL_law0_r7 ++ (wsL_law0_r8 ++ (wsL_law0_r9 ++ (wsL_law0_r10 ++ (wsL_law0_r11 ++ (wsL_law0_r12 ++ (wsL_law0_r13 ++ (wsL_law0_r14 ++ (wsL_law0_r15 ++ (wsL_law0_r16 ++ (wsL_law0_r17 ++ (wsL_law0_r18 ++ (wsL_law0_r19 ++ (wsL_law0_r20 ++ (wsL_law0_r21 ++ (wsL_law0_r22 ++ (wsL_law0_r23 ++ (wsL_law0_r24 ++ (wsL_law0_r25 ++ (wsL_law0_r26 ++ (wsL_law0_r27 ++ (wsL_law0_r28 ++ (wsL_law0_r29 ++ (wsL_law0_r30 ++ wsL_law0_r31)))))))))))))))))))))))))))))) ++ wsX40 ++ wsX50 ++ wsX30 ++ wsX00 ++ wsX20 ++ ([] : List Cond)
def wsL_law : List Cond := wsL_law0 ++ (vx_atS RX4 42 "java/lang/IllegalArgumentException" ["java/lang/RuntimeException", "java/lang/Exception"]).filter goodWord ++ (vx_atS RX4 53 "java/lang/IllegalStateException" ["java/lang/RuntimeException", "java/lang/Exception"]).filter goodWord ++ (vx_atS RX4 291 "java/lang/IndexOutOfBoundsException" ["java/lang/RuntimeException", "java/lang/Exception"]).filter goodWord

set_option maxRecDepth 20000 in
theorem wsL_law0_r1_in : ∀ w ∈ wsL_law0_r1, w ∈ lw_tbl := fun w h => (goodIn_p wsL_law0_r1 [57, 60] (by decide +kernel) (by decide +kernel) w h).1
set_option maxRecDepth 20000 in
theorem wsL_law0_r2_in : ∀ w ∈ wsL_law0_r2, w ∈ lw_tbl := fun w h => (goodIn_p wsL_law0_r2 [65, 71] (by decide +kernel) (by decide +kernel) w h).1
set_option maxRecDepth 20000 in
theorem wsL_law0_r3_in : ∀ w ∈ wsL_law0_r3, w ∈ lw_tbl := fun w h => (goodIn_p wsL_law0_r3 [165, 696, 474] (by decide +kernel) (by decide +kernel) w h).1
set_option maxRecDepth 20000 in
theorem wsL_law0_r4_in : ∀ w ∈ wsL_law0_r4, w ∈ lw_tbl := fun w h => (goodIn_p wsL_law0_r4 [275, 479, 457, 499, 503] (by decide +kernel) (by decide +kernel) w h).1
set_option maxRecDepth 20000 in
theorem wsL_law0_r5_in : ∀ w ∈ wsL_law0_r5, w ∈ lw_tbl := fun w h => (goodIn_p wsL_law0_r5 [510, 454, 756, 759] (by decide +kernel) (by decide +kernel) w h).1
set_option maxRecDepth 20000 in
theorem wsL_law0_r6_in : ∀ w ∈ wsL_law0_r6, w ∈ lw_tbl := fun w h => (goodIn_p wsL_law0_r6 [752, 763, 766, 770, 774, 744] (by decide +kernel) (by decide +kernel) w h).1
set_option maxRecDepth 20000 in
theorem wsL_law0_r7_in : ∀ w ∈ wsL_law0_r7, w ∈ lw_tbl := fun w h => (goodIn_p wsL_law0_r7 [518, 371, 522, 241] (by decide +kernel) (by decide +kernel) w h).1
set_option maxRecDepth 20000 in
theorem wsL_law0_r8_in : ∀ w ∈ wsL_law0_r8, w ∈ lw_tbl := fun w h => (goodIn_p wsL_law0_r8 [245, 528, 778, 782, 786] (by decide +kernel) (by decide +kernel) w h).1
set_option maxRecDepth 20000 in
theorem wsL_law0_r9_in : ∀ w ∈ wsL_law0_r9, w ∈ lw_tbl := fun w h => (goodIn_p wsL_law0_r9 [790, 794, 536, 798, 544] (by decide +kernel) (by decide +kernel) w h).1
set_option maxRecDepth 20000 in
theorem wsL_law0_r10_in : ∀ w ∈ wsL_law0_r10, w ∈ lw_tbl := fun w h => (goodIn_p wsL_law0_r10 [233, 237, 248, 551, 802] (by decide +kernel) (by decide +kernel) w h).1
set_option maxRecDepth 20000 in
theorem wsL_law0_r11_in : ∀ w ∈ wsL_law0_r11, w ∈ lw_tbl := fun w h => (goodIn_p wsL_law0_r11 [806, 810, 813, 558, 406, 562] (by decide +kernel) (by decide +kernel) w h).1
set_option maxRecDepth 20000 in
theorem wsL_law0_r12_in : ∀ w ∈ wsL_law0_r12, w ∈ lw_tbl := fun w h => (goodIn_p wsL_law0_r12 [251, 412, 416, 419, 392, 395, 398] (by decide +kernel) (by decide +kernel) w h).1
set_option maxRecDepth 20000 in
theorem wsL_law0_r13_in : ∀ w ∈ wsL_law0_r13, w ∈ lw_tbl := fun w h => (goodIn_p wsL_law0_r13 [566, 817, 821, 825, 828] (by decide +kernel) (by decide +kernel) w h).1
set_option maxRecDepth 20000 in
theorem wsL_law0_r14_in : ∀ w ∈ wsL_law0_r14, w ∈ lw_tbl := fun w h => (goodIn_p wsL_law0_r14 [573, 435, 832, 835, 581, 584] (by decide +kernel) (by decide +kernel) w h).1
set_option maxRecDepth 20000 in
theorem wsL_law0_r15_in : ∀ w ∈ wsL_law0_r15, w ∈ lw_tbl := fun w h => (goodIn_p wsL_law0_r15 [588, 591, 839, 599, 603] (by decide +kernel) (by decide +kernel) w h).1
set_option maxRecDepth 20000 in
theorem wsL_law0_r16_in : ∀ w ∈ wsL_law0_r16, w ∈ lw_tbl := fun w h => (goodIn_p wsL_law0_r16 [607, 611, 615, 843, 847] (by decide +kernel) (by decide +kernel) w h).1
set_option maxRecDepth 20000 in
theorem wsL_law0_r17_in : ∀ w ∈ wsL_law0_r17, w ∈ lw_tbl := fun w h => (goodIn_p wsL_law0_r17 [623, 628, 633, 851, 195, 855] (by decide +kernel) (by decide +kernel) w h).1
set_option maxRecDepth 20000 in
theorem wsL_law0_r18_in : ∀ w ∈ wsL_law0_r18, w ∈ lw_tbl := fun w h => (goodIn_p wsL_law0_r18 [199, 203, 206, 209, 212, 215, 218] (by decide +kernel) (by decide +kernel) w h).1
set_option maxRecDepth 20000 in
theorem wsL_law0_r19_in : ∀ w ∈ wsL_law0_r19, w ∈ lw_tbl := fun w h => (goodIn_p wsL_law0_r19 [221, 859, 863, 867, 871, 875] (by decide +kernel) (by decide +kernel) w h).1
set_option maxRecDepth 20000 in
theorem wsL_law0_r20_in : ∀ w ∈ wsL_law0_r20, w ∈ lw_tbl := fun w h => (goodIn_p wsL_law0_r20 [879, 640, 644, 649] (by decide +kernel) (by decide +kernel) w h).1
set_option maxRecDepth 20000 in
theorem wsL_law0_r21_in : ∀ w ∈ wsL_law0_r21, w ∈ lw_tbl := fun w h => (goodIn_p wsL_law0_r21 [883, 659, 748, 367] (by decide +kernel) (by decide +kernel) w h).1
set_option maxRecDepth 20000 in
theorem wsL_law0_r22_in : ∀ w ∈ wsL_law0_r22, w ∈ lw_tbl := fun w h => (goodIn_p wsL_law0_r22 [887, 891, 432] (by decide +kernel) (by decide +kernel) w h).1
set_option maxRecDepth 20000 in
theorem wsL_law0_r23_in : ∀ w ∈ wsL_law0_r23, w ∈ lw_tbl := fun w h => (goodIn_p wsL_law0_r23 [351, 355, 359, 259, 442] (by decide +kernel) (by decide +kernel) w h).1
set_option maxRecDepth 20000 in
theorem wsL_law0_r24_in : ∀ w ∈ wsL_law0_r24, w ∈ lw_tbl := fun w h => (goodIn_p wsL_law0_r24 [895, 899, 903, 907, 911] (by decide +kernel) (by decide +kernel) w h).1
set_option maxRecDepth 20000 in
theorem wsL_law0_r25_in : ∀ w ∈ wsL_law0_r25, w ∈ lw_tbl := fun w h => (goodIn_p wsL_law0_r25 [272, 263, 347, 915] (by decide +kernel) (by decide +kernel) w h).1
set_option maxRecDepth 20000 in
theorem wsL_law0_r26_in : ∀ w ∈ wsL_law0_r26, w ∈ lw_tbl := fun w h => (goodIn_p wsL_law0_r26 [919, 923, 679, 927] (by decide +kernel) (by decide +kernel) w h).1
set_option maxRecDepth 20000 in
theorem wsL_law0_r27_in : ∀ w ∈ wsL_law0_r27, w ∈ lw_tbl := fun w h => (goodIn_p wsL_law0_r27 [403, 931, 935, 424, 428] (by decide +kernel) (by decide +kernel) w h).1
set_option maxRecDepth 20000 in
theorem wsL_law0_r28_in : ∀ w ∈ wsL_law0_r28, w ∈ lw_tbl := fun w h => (goodIn_p wsL_law0_r28 [939, 943, 225, 229, 947, 951] (by decide +kernel) (by decide +kernel) w h).1
set_option maxRecDepth 20000 in
theorem wsL_law0_r29_in : ∀ w ∈ wsL_law0_r29, w ∈ lw_tbl := fun w h => (goodIn_p wsL_law0_r29 [446, 450, 955, 959, 255, 963] (by decide +kernel) (by decide +kernel) w h).1
set_option maxRecDepth 20000 in
theorem wsL_law0_r30_in : ∀ w ∈ wsL_law0_r30, w ∈ lw_tbl := fun w h => (goodIn_p wsL_law0_r30 [967, 267, 362, 462] (by decide +kernel) (by decide +kernel) w h).1
set_option maxRecDepth 20000 in
theorem wsL_law0_r31_in : ∀ w ∈ wsL_law0_r31, w ∈ lw_tbl := fun w h => (goodIn_p wsL_law0_r31 [971, 976, 979] (by decide +kernel) (by decide +kernel) w h).1
theorem wsX40_in : ∀ w ∈ wsX40, w ∈ lw_tbl := by decide +kernel
theorem wsX50_in : ∀ w ∈ wsX50, w ∈ lw_tbl := by decide +kernel
theorem wsX30_in : ∀ w ∈ wsX30, w ∈ lw_tbl := by decide +kernel
theorem wsX00_in : ∀ w ∈ wsX00, w ∈ lw_tbl := by decide +kernel
theorem wsX20_in : ∀ w ∈ wsX20, w ∈ lw_tbl := by decide +kernel
theorem wsL_law_in0 : ∀ w ∈ wsL_law0, w ∈ lw_tbl := fun w h => (List.mem_append.mp h).elim (fun h => (List.mem_append.mp h).elim (fun h => (List.mem_append.mp h).elim (fun h => (List.mem_append.mp h).elim (fun h => (List.mem_append.mp h).elim (fun h => (List.mem_append.mp h).elim (fun h => (List.mem_append.mp h).elim (fun h => wsL_law0_r1_in w h) (fun h => (List.mem_append.mp h).elim (fun h => wsL_law0_r2_in w h) (fun h => (List.mem_append.mp h).elim (fun h => wsL_law0_r3_in w h) (fun h => (List.mem_append.mp h).elim (fun h => wsL_law0_r4_in w h) (fun h => (List.mem_append.mp h).elim (fun h => wsL_law0_r5_in w h) (fun h => (List.mem_append.mp h).elim (fun h => wsL_law0_r6_in w h) (fun h => (List.mem_append.mp h).elim (fun h => wsL_law0_r7_in w h) (fun h => (List.mem_append.mp h).elim (fun h => wsL_law0_r8_in w h) (fun h => (List.mem_append.mp h).elim (fun h => wsL_law0_r9_in w h) (fun h => (List.mem_append.mp h).elim (fun h => wsL_law0_r10_in w h) (fun h => (List.mem_append.mp h).elim (fun h => wsL_law0_r11_in w h) (fun h => (List.mem_append.mp h).elim (fun h => wsL_law0_r12_in w h) (fun h => (List.mem_append.mp h).elim (fun h => wsL_law0_r13_in w h) (fun h => (List.mem_append.mp h).elim (fun h => wsL_law0_r14_in w h) (fun h => (List.mem_append.mp h).elim (fun h => wsL_law0_r15_in w h) (fun h => (List.mem_append.mp h).elim (fun h => wsL_law0_r16_in w h) (fun h => (List.mem_append.mp h).elim (fun h => wsL_law0_r17_in w h) (fun h => (List.mem_append.mp h).elim (fun h => wsL_law0_r18_in w h) (fun h => (List.mem_append.mp h).elim (fun h => wsL_law0_r19_in w h) (fun h => (List.mem_append.mp h).elim (fun h => wsL_law0_r20_in w h) (fun h => (List.mem_append.mp h).elim (fun h => wsL_law0_r21_in w h) (fun h => (List.mem_append.mp h).elim (fun h => wsL_law0_r22_in w h) (fun h => (List.mem_append.mp h).elim (fun h => wsL_law0_r23_in w h) (fun h => (List.mem_append.mp h).elim (fun h => wsL_law0_r24_in w h) (fun h => (List.mem_append.mp h).elim (fun h => wsL_law0_r25_in w h) (fun h => (List.mem_append.mp h).elim (fun h => wsL_law0_r26_in w h) (fun h => (List.mem_append.mp h).elim (fun h => wsL_law0_r27_in w h) (fun h => (List.mem_append.mp h).elim (fun h => wsL_law0_r28_in w h) (fun h => (List.mem_append.mp h).elim (fun h => wsL_law0_r29_in w h) (fun h => (List.mem_append.mp h).elim (fun h => wsL_law0_r30_in w h) (fun h => wsL_law0_r31_in w h))))))))))))))))))))))))))))))) (fun h => wsX40_in w h)) (fun h => wsX50_in w h)) (fun h => wsX30_in w h)) (fun h => wsX00_in w h)) (fun h => wsX20_in w h)) (fun h => absurd h List.not_mem_nil)
theorem wsL_law_x0 : ∀ w ∈ (vx_atS RX4 42 "java/lang/IllegalArgumentException" ["java/lang/RuntimeException", "java/lang/Exception"]).filter goodWord, w ∈ lw_tbl := by decide +kernel
theorem wsL_law_x1 : ∀ w ∈ (vx_atS RX4 53 "java/lang/IllegalStateException" ["java/lang/RuntimeException", "java/lang/Exception"]).filter goodWord, w ∈ lw_tbl := by decide +kernel
theorem wsL_law_x2 : ∀ w ∈ (vx_atS RX4 291 "java/lang/IndexOutOfBoundsException" ["java/lang/RuntimeException", "java/lang/Exception"]).filter goodWord, w ∈ lw_tbl := by decide +kernel
theorem wsL_law_in : ∀ w ∈ wsL_law, w ∈ lw_tbl := fun w h => (List.mem_append.mp h).elim (fun h => (List.mem_append.mp h).elim (fun h => (List.mem_append.mp h).elim (fun h => wsL_law_in0 w h) (fun h => wsL_law_x0 w h)) (fun h => wsL_law_x1 w h)) (fun h => wsL_law_x2 w h)
theorem inlX0 : ∀ w ∈ wsX00, w ∈ wsL_law := fun _ h => List.mem_append_left _ (List.mem_append_left _ (List.mem_append_left _ (List.mem_append_left _ (List.mem_append_left _ (List.mem_append_right _ h)))))
theorem inX0 : ∀ w ∈ wsX00, w ∈ lw_tbl := fun w h => wsL_law_in w (inlX0 w h)
theorem inX1 : ∀ w ∈ wsX10, w ∈ lw_tbl := by decide +kernel
theorem inlX2 : ∀ w ∈ wsX20, w ∈ wsL_law := fun _ h => List.mem_append_left _ (List.mem_append_left _ (List.mem_append_left _ (List.mem_append_left _ (List.mem_append_right _ h))))
theorem inX2 : ∀ w ∈ wsX20, w ∈ lw_tbl := fun w h => wsL_law_in w (inlX2 w h)
theorem inlX3 : ∀ w ∈ wsX30, w ∈ wsL_law := fun _ h => List.mem_append_left _ (List.mem_append_left _ (List.mem_append_left _ (List.mem_append_left _ (List.mem_append_left _ (List.mem_append_left _ (List.mem_append_right _ h))))))
theorem inX3 : ∀ w ∈ wsX30, w ∈ lw_tbl := fun w h => wsL_law_in w (inlX3 w h)
theorem inlX4 : ∀ w ∈ wsX40, w ∈ wsL_law := fun _ h => List.mem_append_left _ (List.mem_append_left _ (List.mem_append_left _ (List.mem_append_left _ (List.mem_append_left _ (List.mem_append_left _ (List.mem_append_left _ (List.mem_append_left _ (List.mem_append_right _ h))))))))
theorem inX4 : ∀ w ∈ wsX40, w ∈ lw_tbl := fun w h => wsL_law_in w (inlX4 w h)
theorem inlX5 : ∀ w ∈ wsX50, w ∈ wsL_law := fun _ h => List.mem_append_left _ (List.mem_append_left _ (List.mem_append_left _ (List.mem_append_left _ (List.mem_append_left _ (List.mem_append_left _ (List.mem_append_left _ (List.mem_append_right _ h)))))))
theorem inX5 : ∀ w ∈ wsX50, w ∈ lw_tbl := fun w h => wsL_law_in w (inlX5 w h)
theorem inJxe99ae : ∀ w ∈ wsJxe99ae0, w ∈ lw_tbl := by decide +kernel
theorem inJ9 : ∀ w ∈ wsJ90, w ∈ lw_tbl := by decide +kernel
theorem inJ0 : ∀ w ∈ wsJ00, w ∈ lw_tbl := by decide +kernel
theorem inJ10 : ∀ w ∈ wsJ100, w ∈ lw_tbl := by decide +kernel
abbrev vwCl : List vw_C := [(RX0, TX0, 2), (RX2, TX2, 4), (RX3, TX3, 17), (RX4, TX4, 5), (RX5, TX5, 14)]

/-! ===== END printed: names ===== -/
end
section
theorem dX0_init_0 : decode cX0_init 0 = .ok (.aload_n 0, 1) := by decide +kernel
theorem dX0_init_1 : decode cX0_init 1 = .ok (.invokespecial 3, 3) := by decide +kernel
theorem dX0_init_4 : decode cX0_init 4 = .ok (.aload_n 0, 1) := by decide +kernel
theorem dX0_init_5 : decode cX0_init 5 = .ok (.bipush 60, 2) := by decide +kernel
theorem dX0_init_7 : decode cX0_init 7 = .ok (.newarray .int, 2) := by decide +kernel
theorem dX0_init_9 : decode cX0_init 9 = .ok (.putfield 11, 3) := by decide +kernel
theorem dX0_init_12 : decode cX0_init 12 = .ok (.aload_n 0, 1) := by decide +kernel
theorem dX0_init_13 : decode cX0_init 13 = .ok (.iconst 0, 1) := by decide +kernel
theorem dX0_init_14 : decode cX0_init 14 = .ok (.putfield 15, 3) := by decide +kernel
theorem dX0_init_17 : decode cX0_init 17 = .ok (.return_, 1) := by decide +kernel
theorem dX0_isFull_0 : decode cX0_isFull 0 = .ok (.aload_n 0, 1) := by decide +kernel
theorem dX0_isFull_1 : decode cX0_isFull 1 = .ok (.getfield 15, 3) := by decide +kernel
theorem dX0_isFull_4 : decode cX0_isFull 4 = .ok (.bipush 60, 2) := by decide +kernel
theorem dX0_isFull_6 : decode cX0_isFull 6 = .ok (.if_icmp .lt 7, 3) := by decide +kernel
theorem dX0_isFull_9 : decode cX0_isFull 9 = .ok (.iconst 1, 1) := by decide +kernel
theorem dX0_isFull_10 : decode cX0_isFull 10 = .ok (.goto 4, 3) := by decide +kernel
theorem dX0_isFull_13 : decode cX0_isFull 13 = .ok (.iconst 0, 1) := by decide +kernel
theorem dX0_isFull_14 : decode cX0_isFull 14 = .ok (.ireturn, 1) := by decide +kernel
theorem dX0_addCode_0 : decode cX0_addCode 0 = .ok (.aload_n 0, 1) := by decide +kernel
theorem dX0_addCode_1 : decode cX0_addCode 1 = .ok (.getfield 11, 3) := by decide +kernel
theorem dX0_addCode_4 : decode cX0_addCode 4 = .ok (.aload_n 0, 1) := by decide +kernel
theorem dX0_addCode_5 : decode cX0_addCode 5 = .ok (.getfield 15, 3) := by decide +kernel
theorem dX0_addCode_8 : decode cX0_addCode 8 = .ok (.iload_n 1, 1) := by decide +kernel
theorem dX0_addCode_9 : decode cX0_addCode 9 = .ok (.iastore, 1) := by decide +kernel
theorem dX0_addCode_10 : decode cX0_addCode 10 = .ok (.aload_n 0, 1) := by decide +kernel
theorem dX0_addCode_11 : decode cX0_addCode 11 = .ok (.dup, 1) := by decide +kernel
theorem dX0_addCode_12 : decode cX0_addCode 12 = .ok (.getfield 15, 3) := by decide +kernel
theorem dX0_addCode_15 : decode cX0_addCode 15 = .ok (.iconst 1, 1) := by decide +kernel
theorem dX0_addCode_16 : decode cX0_addCode 16 = .ok (.iadd, 1) := by decide +kernel
theorem dX0_addCode_17 : decode cX0_addCode 17 = .ok (.putfield 15, 3) := by decide +kernel
theorem dX0_addCode_20 : decode cX0_addCode 20 = .ok (.return_, 1) := by decide +kernel
theorem dX0_findError_0 : decode cX0_findError 0 = .ok (.iconst 0, 1) := by decide +kernel
theorem dX0_findError_1 : decode cX0_findError 1 = .ok (.istore_n 1, 1) := by decide +kernel
theorem dX0_findError_2 : decode cX0_findError 2 = .ok (.iconst 0, 1) := by decide +kernel
theorem dX0_findError_3 : decode cX0_findError 3 = .ok (.istore_n 2, 1) := by decide +kernel
theorem dX0_findError_4 : decode cX0_findError 4 = .ok (.iload_n 2, 1) := by decide +kernel
theorem dX0_findError_5 : decode cX0_findError 5 = .ok (.aload_n 0, 1) := by decide +kernel
theorem dX0_findError_6 : decode cX0_findError 6 = .ok (.getfield 15, 3) := by decide +kernel
theorem dX0_findError_9 : decode cX0_findError 9 = .ok (.if_icmp .ge 27, 3) := by decide +kernel
theorem dX0_findError_12 : decode cX0_findError 12 = .ok (.iload_n 1, 1) := by decide +kernel
theorem dX0_findError_13 : decode cX0_findError 13 = .ok (.aload_n 0, 1) := by decide +kernel
theorem dX0_findError_14 : decode cX0_findError 14 = .ok (.getfield 11, 3) := by decide +kernel
theorem dX0_findError_17 : decode cX0_findError 17 = .ok (.iload_n 2, 1) := by decide +kernel
theorem dX0_findError_18 : decode cX0_findError 18 = .ok (.iaload, 1) := by decide +kernel
theorem dX0_findError_19 : decode cX0_findError 19 = .ok (.invokestatic 19, 3) := by decide +kernel
theorem dX0_findError_22 : decode cX0_findError 22 = .ok (.istore_n 1, 1) := by decide +kernel
theorem dX0_findError_23 : decode cX0_findError 23 = .ok (.iload_n 1, 1) := by decide +kernel
theorem dX0_findError_24 : decode cX0_findError 24 = .ok (.iconst (-1), 1) := by decide +kernel
theorem dX0_findError_25 : decode cX0_findError 25 = .ok (.if_icmp .ne 5, 3) := by decide +kernel
theorem dX0_findError_28 : decode cX0_findError 28 = .ok (.iload_n 2, 1) := by decide +kernel
theorem dX0_findError_29 : decode cX0_findError 29 = .ok (.ireturn, 1) := by decide +kernel
theorem dX0_findError_30 : decode cX0_findError 30 = .ok (.iinc 2 1, 3) := by decide +kernel
theorem dX0_findError_33 : decode cX0_findError 33 = .ok (.goto (-29), 3) := by decide +kernel
theorem dX0_findError_36 : decode cX0_findError 36 = .ok (.aload_n 0, 1) := by decide +kernel
theorem dX0_findError_37 : decode cX0_findError 37 = .ok (.getfield 15, 3) := by decide +kernel
theorem dX0_findError_40 : decode cX0_findError 40 = .ok (.ireturn, 1) := by decide +kernel
theorem dX0_isComplete_0 : decode cX0_isComplete 0 = .ok (.iconst 0, 1) := by decide +kernel
theorem dX0_isComplete_1 : decode cX0_isComplete 1 = .ok (.istore_n 1, 1) := by decide +kernel
theorem dX0_isComplete_2 : decode cX0_isComplete 2 = .ok (.iconst 0, 1) := by decide +kernel
theorem dX0_isComplete_3 : decode cX0_isComplete 3 = .ok (.istore_n 2, 1) := by decide +kernel
theorem dX0_isComplete_4 : decode cX0_isComplete 4 = .ok (.iload_n 2, 1) := by decide +kernel
theorem dX0_isComplete_5 : decode cX0_isComplete 5 = .ok (.aload_n 0, 1) := by decide +kernel
theorem dX0_isComplete_6 : decode cX0_isComplete 6 = .ok (.getfield 15, 3) := by decide +kernel
theorem dX0_isComplete_9 : decode cX0_isComplete 9 = .ok (.if_icmp .ge 25, 3) := by decide +kernel
theorem dX0_isComplete_12 : decode cX0_isComplete 12 = .ok (.iload_n 1, 1) := by decide +kernel
theorem dX0_isComplete_13 : decode cX0_isComplete 13 = .ok (.iconst (-1), 1) := by decide +kernel
theorem dX0_isComplete_14 : decode cX0_isComplete 14 = .ok (.if_icmp .eq 20, 3) := by decide +kernel
theorem dX0_isComplete_17 : decode cX0_isComplete 17 = .ok (.iload_n 1, 1) := by decide +kernel
theorem dX0_isComplete_18 : decode cX0_isComplete 18 = .ok (.aload_n 0, 1) := by decide +kernel
theorem dX0_isComplete_19 : decode cX0_isComplete 19 = .ok (.getfield 11, 3) := by decide +kernel
theorem dX0_isComplete_22 : decode cX0_isComplete 22 = .ok (.iload_n 2, 1) := by decide +kernel
theorem dX0_isComplete_23 : decode cX0_isComplete 23 = .ok (.iaload, 1) := by decide +kernel
theorem dX0_isComplete_24 : decode cX0_isComplete 24 = .ok (.invokestatic 19, 3) := by decide +kernel
theorem dX0_isComplete_27 : decode cX0_isComplete 27 = .ok (.istore_n 1, 1) := by decide +kernel
theorem dX0_isComplete_28 : decode cX0_isComplete 28 = .ok (.iinc 2 1, 3) := by decide +kernel
theorem dX0_isComplete_31 : decode cX0_isComplete 31 = .ok (.goto (-27), 3) := by decide +kernel
theorem dX0_isComplete_34 : decode cX0_isComplete 34 = .ok (.iload_n 1, 1) := by decide +kernel
theorem dX0_isComplete_35 : decode cX0_isComplete 35 = .ok (.iconst 5, 1) := by decide +kernel
theorem dX0_isComplete_36 : decode cX0_isComplete 36 = .ok (.if_icmp .ne 7, 3) := by decide +kernel
theorem dX0_isComplete_39 : decode cX0_isComplete 39 = .ok (.iconst 1, 1) := by decide +kernel
theorem dX0_isComplete_40 : decode cX0_isComplete 40 = .ok (.goto 4, 3) := by decide +kernel
theorem dX0_isComplete_43 : decode cX0_isComplete 43 = .ok (.iconst 0, 1) := by decide +kernel
theorem dX0_isComplete_44 : decode cX0_isComplete 44 = .ok (.ireturn, 1) := by decide +kernel
theorem dX0_stateBehind_0 : decode cX0_stateBehind 0 = .ok (.iload_n 0, 1) := by decide +kernel
theorem dX0_stateBehind_1 : decode cX0_stateBehind 1 = .ok (.tableswitch 87 0 4 #[35, 49, 54, 67, 82], 35) := by decide +kernel
theorem dX0_stateBehind_36 : decode cX0_stateBehind 36 = .ok (.iload_n 1, 1) := by decide +kernel
theorem dX0_stateBehind_37 : decode cX0_stateBehind 37 = .ok (.invokestatic 23, 3) := by decide +kernel
theorem dX0_stateBehind_40 : decode cX0_stateBehind 40 = .ok (.iconst (-1), 1) := by decide +kernel
theorem dX0_stateBehind_41 : decode cX0_stateBehind 41 = .ok (.if_icmp .eq 7, 3) := by decide +kernel
theorem dX0_stateBehind_44 : decode cX0_stateBehind 44 = .ok (.iconst 1, 1) := by decide +kernel
theorem dX0_stateBehind_45 : decode cX0_stateBehind 45 = .ok (.goto 4, 3) := by decide +kernel
theorem dX0_stateBehind_48 : decode cX0_stateBehind 48 = .ok (.iconst (-1), 1) := by decide +kernel
theorem dX0_stateBehind_49 : decode cX0_stateBehind 49 = .ok (.ireturn, 1) := by decide +kernel
theorem dX0_stateBehind_50 : decode cX0_stateBehind 50 = .ok (.iload_n 1, 1) := by decide +kernel
theorem dX0_stateBehind_51 : decode cX0_stateBehind 51 = .ok (.invokestatic 27, 3) := by decide +kernel
theorem dX0_stateBehind_54 : decode cX0_stateBehind 54 = .ok (.ireturn, 1) := by decide +kernel
theorem dX0_stateBehind_55 : decode cX0_stateBehind 55 = .ok (.iload_n 1, 1) := by decide +kernel
theorem dX0_stateBehind_56 : decode cX0_stateBehind 56 = .ok (.invokestatic 30, 3) := by decide +kernel
theorem dX0_stateBehind_59 : decode cX0_stateBehind 59 = .ok (.ifCond .eq 7, 3) := by decide +kernel
theorem dX0_stateBehind_62 : decode cX0_stateBehind 62 = .ok (.iconst 4, 1) := by decide +kernel
theorem dX0_stateBehind_63 : decode cX0_stateBehind 63 = .ok (.goto 4, 3) := by decide +kernel
theorem dX0_stateBehind_66 : decode cX0_stateBehind 66 = .ok (.iconst (-1), 1) := by decide +kernel
theorem dX0_stateBehind_67 : decode cX0_stateBehind 67 = .ok (.ireturn, 1) := by decide +kernel
theorem dX0_stateBehind_68 : decode cX0_stateBehind 68 = .ok (.iload_n 1, 1) := by decide +kernel
theorem dX0_stateBehind_69 : decode cX0_stateBehind 69 = .ok (.bipush 48, 2) := by decide +kernel
theorem dX0_stateBehind_71 : decode cX0_stateBehind 71 = .ok (.if_icmp .ne 7, 3) := by decide +kernel
theorem dX0_stateBehind_74 : decode cX0_stateBehind 74 = .ok (.iconst 4, 1) := by decide +kernel
theorem dX0_stateBehind_75 : decode cX0_stateBehind 75 = .ok (.goto 7, 3) := by decide +kernel
theorem dX0_stateBehind_78 : decode cX0_stateBehind 78 = .ok (.iload_n 1, 1) := by decide +kernel
theorem dX0_stateBehind_79 : decode cX0_stateBehind 79 = .ok (.invokestatic 34, 3) := by decide +kernel
theorem dX0_stateBehind_82 : decode cX0_stateBehind 82 = .ok (.ireturn, 1) := by decide +kernel
theorem dX0_stateBehind_83 : decode cX0_stateBehind 83 = .ok (.iload_n 1, 1) := by decide +kernel
theorem dX0_stateBehind_84 : decode cX0_stateBehind 84 = .ok (.invokestatic 34, 3) := by decide +kernel
theorem dX0_stateBehind_87 : decode cX0_stateBehind 87 = .ok (.ireturn, 1) := by decide +kernel
theorem dX0_stateBehind_88 : decode cX0_stateBehind 88 = .ok (.iload_n 1, 1) := by decide +kernel
theorem dX0_stateBehind_89 : decode cX0_stateBehind 89 = .ok (.bipush 44, 2) := by decide +kernel
theorem dX0_stateBehind_91 : decode cX0_stateBehind 91 = .ok (.if_icmp .ne 7, 3) := by decide +kernel
theorem dX0_stateBehind_94 : decode cX0_stateBehind 94 = .ok (.iconst 0, 1) := by decide +kernel
theorem dX0_stateBehind_95 : decode cX0_stateBehind 95 = .ok (.goto 4, 3) := by decide +kernel
theorem dX0_stateBehind_98 : decode cX0_stateBehind 98 = .ok (.iconst (-1), 1) := by decide +kernel
theorem dX0_stateBehind_99 : decode cX0_stateBehind 99 = .ok (.ireturn, 1) := by decide +kernel
theorem dX0_stateBehindFirstDigit_0 : decode cX0_stateBehindFirstDigit 0 = .ok (.iload_n 0, 1) := by decide +kernel
theorem dX0_stateBehindFirstDigit_1 : decode cX0_stateBehindFirstDigit 1 = .ok (.invokestatic 30, 3) := by decide +kernel
theorem dX0_stateBehindFirstDigit_4 : decode cX0_stateBehindFirstDigit 4 = .ok (.ifCond .eq 9, 3) := by decide +kernel
theorem dX0_stateBehindFirstDigit_7 : decode cX0_stateBehindFirstDigit 7 = .ok (.iload_n 0, 1) := by decide +kernel
theorem dX0_stateBehindFirstDigit_8 : decode cX0_stateBehindFirstDigit 8 = .ok (.bipush 48, 2) := by decide +kernel
theorem dX0_stateBehindFirstDigit_10 : decode cX0_stateBehindFirstDigit 10 = .ok (.if_icmp .ne 5, 3) := by decide +kernel
theorem dX0_stateBehindFirstDigit_13 : decode cX0_stateBehindFirstDigit 13 = .ok (.iconst (-1), 1) := by decide +kernel
theorem dX0_stateBehindFirstDigit_14 : decode cX0_stateBehindFirstDigit 14 = .ok (.ireturn, 1) := by decide +kernel
theorem dX0_stateBehindFirstDigit_15 : decode cX0_stateBehindFirstDigit 15 = .ok (.iload_n 0, 1) := by decide +kernel
theorem dX0_stateBehindFirstDigit_16 : decode cX0_stateBehindFirstDigit 16 = .ok (.bipush 53, 2) := by decide +kernel
theorem dX0_stateBehindFirstDigit_18 : decode cX0_stateBehindFirstDigit 18 = .ok (.if_icmp .ne 5, 3) := by decide +kernel
theorem dX0_stateBehindFirstDigit_21 : decode cX0_stateBehindFirstDigit 21 = .ok (.iconst 3, 1) := by decide +kernel
theorem dX0_stateBehindFirstDigit_22 : decode cX0_stateBehindFirstDigit 22 = .ok (.ireturn, 1) := by decide +kernel
theorem dX0_stateBehindFirstDigit_23 : decode cX0_stateBehindFirstDigit 23 = .ok (.iload_n 0, 1) := by decide +kernel
theorem dX0_stateBehindFirstDigit_24 : decode cX0_stateBehindFirstDigit 24 = .ok (.bipush 53, 2) := by decide +kernel
theorem dX0_stateBehindFirstDigit_26 : decode cX0_stateBehindFirstDigit 26 = .ok (.if_icmp .ge 7, 3) := by decide +kernel
theorem dX0_stateBehindFirstDigit_29 : decode cX0_stateBehindFirstDigit 29 = .ok (.iconst 2, 1) := by decide +kernel
theorem dX0_stateBehindFirstDigit_30 : decode cX0_stateBehindFirstDigit 30 = .ok (.goto 4, 3) := by decide +kernel
theorem dX0_stateBehindFirstDigit_33 : decode cX0_stateBehindFirstDigit 33 = .ok (.iconst 4, 1) := by decide +kernel
theorem dX0_stateBehindFirstDigit_34 : decode cX0_stateBehindFirstDigit 34 = .ok (.ireturn, 1) := by decide +kernel
theorem dX0_stateBehindCoupling_0 : decode cX0_stateBehindCoupling 0 = .ok (.iload_n 0, 1) := by decide +kernel
theorem dX0_stateBehindCoupling_1 : decode cX0_stateBehindCoupling 1 = .ok (.invokestatic 37, 3) := by decide +kernel
theorem dX0_stateBehindCoupling_4 : decode cX0_stateBehindCoupling 4 = .ok (.iconst (-1), 1) := by decide +kernel
theorem dX0_stateBehindCoupling_5 : decode cX0_stateBehindCoupling 5 = .ok (.if_icmp .eq 7, 3) := by decide +kernel
theorem dX0_stateBehindCoupling_8 : decode cX0_stateBehindCoupling 8 = .ok (.iconst 5, 1) := by decide +kernel
theorem dX0_stateBehindCoupling_9 : decode cX0_stateBehindCoupling 9 = .ok (.goto 4, 3) := by decide +kernel
theorem dX0_stateBehindCoupling_12 : decode cX0_stateBehindCoupling 12 = .ok (.iconst (-1), 1) := by decide +kernel
theorem dX0_stateBehindCoupling_13 : decode cX0_stateBehindCoupling 13 = .ok (.ireturn, 1) := by decide +kernel
theorem dX0_isDigit_0 : decode cX0_isDigit 0 = .ok (.iload_n 0, 1) := by decide +kernel
theorem dX0_isDigit_1 : decode cX0_isDigit 1 = .ok (.bipush 48, 2) := by decide +kernel
theorem dX0_isDigit_3 : decode cX0_isDigit 3 = .ok (.if_icmp .lt 13, 3) := by decide +kernel
theorem dX0_isDigit_6 : decode cX0_isDigit 6 = .ok (.iload_n 0, 1) := by decide +kernel
theorem dX0_isDigit_7 : decode cX0_isDigit 7 = .ok (.bipush 57, 2) := by decide +kernel
theorem dX0_isDigit_9 : decode cX0_isDigit 9 = .ok (.if_icmp .gt 7, 3) := by decide +kernel
theorem dX0_isDigit_12 : decode cX0_isDigit 12 = .ok (.iconst 1, 1) := by decide +kernel
theorem dX0_isDigit_13 : decode cX0_isDigit 13 = .ok (.goto 4, 3) := by decide +kernel
theorem dX0_isDigit_16 : decode cX0_isDigit 16 = .ok (.iconst 0, 1) := by decide +kernel
theorem dX0_isDigit_17 : decode cX0_isDigit 17 = .ok (.ireturn, 1) := by decide +kernel
theorem dX0_kindOf_0 : decode cX0_kindOf 0 = .ok (.iload_n 0, 1) := by decide +kernel
theorem dX0_kindOf_1 : decode cX0_kindOf 1 = .ok (.lookupswitch 41 #[(108, 39), (110, 35), (114, 37)], 35) := by decide +kernel
theorem dX0_kindOf_36 : decode cX0_kindOf 36 = .ok (.iconst 0, 1) := by decide +kernel
theorem dX0_kindOf_37 : decode cX0_kindOf 37 = .ok (.ireturn, 1) := by decide +kernel
theorem dX0_kindOf_38 : decode cX0_kindOf 38 = .ok (.iconst 1, 1) := by decide +kernel
theorem dX0_kindOf_39 : decode cX0_kindOf 39 = .ok (.ireturn, 1) := by decide +kernel
theorem dX0_kindOf_40 : decode cX0_kindOf 40 = .ok (.iconst 2, 1) := by decide +kernel
theorem dX0_kindOf_41 : decode cX0_kindOf 41 = .ok (.ireturn, 1) := by decide +kernel
theorem dX0_kindOf_42 : decode cX0_kindOf 42 = .ok (.iconst (-1), 1) := by decide +kernel
theorem dX0_kindOf_43 : decode cX0_kindOf 43 = .ok (.ireturn, 1) := by decide +kernel
theorem dX0_couplingOf_0 : decode cX0_couplingOf 0 = .ok (.iload_n 0, 1) := by decide +kernel
theorem dX0_couplingOf_1 : decode cX0_couplingOf 1 = .ok (.bipush 97, 2) := by decide +kernel
theorem dX0_couplingOf_3 : decode cX0_couplingOf 3 = .ok (.if_icmp .lt 16, 3) := by decide +kernel
theorem dX0_couplingOf_6 : decode cX0_couplingOf 6 = .ok (.iload_n 0, 1) := by decide +kernel
theorem dX0_couplingOf_7 : decode cX0_couplingOf 7 = .ok (.bipush 99, 2) := by decide +kernel
theorem dX0_couplingOf_9 : decode cX0_couplingOf 9 = .ok (.if_icmp .gt 10, 3) := by decide +kernel
theorem dX0_couplingOf_12 : decode cX0_couplingOf 12 = .ok (.iload_n 0, 1) := by decide +kernel
theorem dX0_couplingOf_13 : decode cX0_couplingOf 13 = .ok (.bipush 97, 2) := by decide +kernel
theorem dX0_couplingOf_15 : decode cX0_couplingOf 15 = .ok (.isub, 1) := by decide +kernel
theorem dX0_couplingOf_16 : decode cX0_couplingOf 16 = .ok (.goto 4, 3) := by decide +kernel
theorem dX0_couplingOf_19 : decode cX0_couplingOf 19 = .ok (.iconst (-1), 1) := by decide +kernel
theorem dX0_couplingOf_20 : decode cX0_couplingOf 20 = .ok (.ireturn, 1) := by decide +kernel
theorem dX1_strengthOf_0 : decode cX1_strengthOf 0 = .ok (.iload_n 0, 1) := by decide +kernel
theorem dX1_strengthOf_1 : decode cX1_strengthOf 1 = .ok (.lookupswitch 57 #[(0, 27), (1, 41)], 27) := by decide +kernel
theorem dX1_strengthOf_28 : decode cX1_strengthOf 28 = .ok (.iconst 0, 1) := by decide +kernel
theorem dX1_strengthOf_29 : decode cX1_strengthOf 29 = .ok (.bipush 16, 2) := by decide +kernel
theorem dX1_strengthOf_31 : decode cX1_strengthOf 31 = .ok (.iload_n 1, 1) := by decide +kernel
theorem dX1_strengthOf_32 : decode cX1_strengthOf 32 = .ok (.bipush 10, 2) := by decide +kernel
theorem dX1_strengthOf_34 : decode cX1_strengthOf 34 = .ok (.idiv, 1) := by decide +kernel
theorem dX1_strengthOf_35 : decode cX1_strengthOf 35 = .ok (.isub, 1) := by decide +kernel
theorem dX1_strengthOf_36 : decode cX1_strengthOf 36 = .ok (.iload_n 2, 1) := by decide +kernel
theorem dX1_strengthOf_37 : decode cX1_strengthOf 37 = .ok (.isub, 1) := by decide +kernel
theorem dX1_strengthOf_38 : decode cX1_strengthOf 38 = .ok (.invokestatic 9, 3) := by decide +kernel
theorem dX1_strengthOf_41 : decode cX1_strengthOf 41 = .ok (.ireturn, 1) := by decide +kernel
theorem dX1_strengthOf_42 : decode cX1_strengthOf 42 = .ok (.iconst 0, 1) := by decide +kernel
theorem dX1_strengthOf_43 : decode cX1_strengthOf 43 = .ok (.bipush 20, 2) := by decide +kernel
theorem dX1_strengthOf_45 : decode cX1_strengthOf 45 = .ok (.iload_n 1, 1) := by decide +kernel
theorem dX1_strengthOf_46 : decode cX1_strengthOf 46 = .ok (.bipush 8, 2) := by decide +kernel
theorem dX1_strengthOf_48 : decode cX1_strengthOf 48 = .ok (.idiv, 1) := by decide +kernel
theorem dX1_strengthOf_49 : decode cX1_strengthOf 49 = .ok (.isub, 1) := by decide +kernel
theorem dX1_strengthOf_50 : decode cX1_strengthOf 50 = .ok (.iload_n 2, 1) := by decide +kernel
theorem dX1_strengthOf_51 : decode cX1_strengthOf 51 = .ok (.iconst 2, 1) := by decide +kernel
theorem dX1_strengthOf_52 : decode cX1_strengthOf 52 = .ok (.idiv, 1) := by decide +kernel
theorem dX1_strengthOf_53 : decode cX1_strengthOf 53 = .ok (.isub, 1) := by decide +kernel
theorem dX1_strengthOf_54 : decode cX1_strengthOf 54 = .ok (.invokestatic 9, 3) := by decide +kernel
theorem dX1_strengthOf_57 : decode cX1_strengthOf 57 = .ok (.ireturn, 1) := by decide +kernel
theorem dX1_strengthOf_58 : decode cX1_strengthOf 58 = .ok (.iconst 0, 1) := by decide +kernel
theorem dX1_strengthOf_59 : decode cX1_strengthOf 59 = .ok (.bipush 24, 2) := by decide +kernel
theorem dX1_strengthOf_61 : decode cX1_strengthOf 61 = .ok (.iload_n 1, 1) := by decide +kernel
theorem dX1_strengthOf_62 : decode cX1_strengthOf 62 = .ok (.iconst 5, 1) := by decide +kernel
theorem dX1_strengthOf_63 : decode cX1_strengthOf 63 = .ok (.idiv, 1) := by decide +kernel
theorem dX1_strengthOf_64 : decode cX1_strengthOf 64 = .ok (.isub, 1) := by decide +kernel
theorem dX1_strengthOf_65 : decode cX1_strengthOf 65 = .ok (.invokestatic 9, 3) := by decide +kernel
theorem dX1_strengthOf_68 : decode cX1_strengthOf 68 = .ok (.ireturn, 1) := by decide +kernel
theorem dX1_lifeOf_0 : decode cX1_lifeOf 0 = .ok (.iload_n 0, 1) := by decide +kernel
theorem dX1_lifeOf_1 : decode cX1_lifeOf 1 = .ok (.lookupswitch 35 #[(0, 27), (1, 31)], 27) := by decide +kernel
theorem dX1_lifeOf_28 : decode cX1_lifeOf 28 = .ok (.sipush 900, 3) := by decide +kernel
theorem dX1_lifeOf_31 : decode cX1_lifeOf 31 = .ok (.ireturn, 1) := by decide +kernel
theorem dX1_lifeOf_32 : decode cX1_lifeOf 32 = .ok (.sipush 1500, 3) := by decide +kernel
theorem dX1_lifeOf_35 : decode cX1_lifeOf 35 = .ok (.ireturn, 1) := by decide +kernel
theorem dX1_lifeOf_36 : decode cX1_lifeOf 36 = .ok (.sipush 1200, 3) := by decide +kernel
theorem dX1_lifeOf_39 : decode cX1_lifeOf 39 = .ok (.ireturn, 1) := by decide +kernel
theorem dX1_daysInForce_0 : decode cX1_daysInForce 0 = .ok (.iload_n 0, 1) := by decide +kernel
theorem dX1_daysInForce_1 : decode cX1_daysInForce 1 = .ok (.lookupswitch 34 #[(0, 27), (1, 30)], 27) := by decide +kernel
theorem dX1_daysInForce_28 : decode cX1_daysInForce 28 = .ok (.bipush 100, 2) := by decide +kernel
theorem dX1_daysInForce_30 : decode cX1_daysInForce 30 = .ok (.ireturn, 1) := by decide +kernel
theorem dX1_daysInForce_31 : decode cX1_daysInForce 31 = .ok (.sipush 150, 3) := by decide +kernel
theorem dX1_daysInForce_34 : decode cX1_daysInForce 34 = .ok (.ireturn, 1) := by decide +kernel
theorem dX1_daysInForce_35 : decode cX1_daysInForce 35 = .ok (.sipush 200, 3) := by decide +kernel
theorem dX1_daysInForce_38 : decode cX1_daysInForce 38 = .ok (.ireturn, 1) := by decide +kernel
theorem dX1_costOf_0 : decode cX1_costOf 0 = .ok (.iload_n 0, 1) := by decide +kernel
theorem dX1_costOf_1 : decode cX1_costOf 1 = .ok (.lookupswitch 35 #[(0, 27), (1, 31)], 27) := by decide +kernel
theorem dX1_costOf_28 : decode cX1_costOf 28 = .ok (.iconst 2, 1) := by decide +kernel
theorem dX1_costOf_29 : decode cX1_costOf 29 = .ok (.iload_n 1, 1) := by decide +kernel
theorem dX1_costOf_30 : decode cX1_costOf 30 = .ok (.imul, 1) := by decide +kernel
theorem dX1_costOf_31 : decode cX1_costOf 31 = .ok (.ireturn, 1) := by decide +kernel
theorem dX1_costOf_32 : decode cX1_costOf 32 = .ok (.iconst 3, 1) := by decide +kernel
theorem dX1_costOf_33 : decode cX1_costOf 33 = .ok (.iload_n 1, 1) := by decide +kernel
theorem dX1_costOf_34 : decode cX1_costOf 34 = .ok (.imul, 1) := by decide +kernel
theorem dX1_costOf_35 : decode cX1_costOf 35 = .ok (.ireturn, 1) := by decide +kernel
theorem dX1_costOf_36 : decode cX1_costOf 36 = .ok (.iconst 4, 1) := by decide +kernel
theorem dX1_costOf_37 : decode cX1_costOf 37 = .ok (.iload_n 1, 1) := by decide +kernel
theorem dX1_costOf_38 : decode cX1_costOf 38 = .ok (.imul, 1) := by decide +kernel
theorem dX1_costOf_39 : decode cX1_costOf 39 = .ok (.bipush 10, 2) := by decide +kernel
theorem dX1_costOf_41 : decode cX1_costOf 41 = .ok (.iadd, 1) := by decide +kernel
theorem dX1_costOf_42 : decode cX1_costOf 42 = .ok (.ireturn, 1) := by decide +kernel
theorem dX2_init_0 : decode cX2_init 0 = .ok (.aload_n 0, 1) := by decide +kernel
theorem dX2_init_1 : decode cX2_init 1 = .ok (.invokespecial 3, 3) := by decide +kernel
theorem dX2_init_4 : decode cX2_init 4 = .ok (.return_, 1) := by decide +kernel
theorem dX2_begin_0 : decode cX2_begin 0 = .ok (.aload_n 0, 1) := by decide +kernel
theorem dX2_begin_1 : decode cX2_begin 1 = .ok (.iconst 0, 1) := by decide +kernel
theorem dX2_begin_2 : decode cX2_begin 2 = .ok (.putfield 9, 3) := by decide +kernel
theorem dX2_begin_5 : decode cX2_begin 5 = .ok (.aload_n 0, 1) := by decide +kernel
theorem dX2_begin_6 : decode cX2_begin 6 = .ok (.iconst 0, 1) := by decide +kernel
theorem dX2_begin_7 : decode cX2_begin 7 = .ok (.putfield 15, 3) := by decide +kernel
theorem dX2_begin_10 : decode cX2_begin 10 = .ok (.aload_n 0, 1) := by decide +kernel
theorem dX2_begin_11 : decode cX2_begin 11 = .ok (.iconst 0, 1) := by decide +kernel
theorem dX2_begin_12 : decode cX2_begin 12 = .ok (.putfield 18, 3) := by decide +kernel
theorem dX2_begin_15 : decode cX2_begin 15 = .ok (.aload_n 0, 1) := by decide +kernel
theorem dX2_begin_16 : decode cX2_begin 16 = .ok (.iconst (-1), 1) := by decide +kernel
theorem dX2_begin_17 : decode cX2_begin 17 = .ok (.putfield 21, 3) := by decide +kernel
theorem dX2_begin_20 : decode cX2_begin 20 = .ok (.return_, 1) := by decide +kernel
theorem dX2_join_0 : decode cX2_join 0 = .ok (.aload_n 0, 1) := by decide +kernel
theorem dX2_join_1 : decode cX2_join 1 = .ok (.getfield 21, 3) := by decide +kernel
theorem dX2_join_4 : decode cX2_join 4 = .ok (.iconst (-1), 1) := by decide +kernel
theorem dX2_join_5 : decode cX2_join 5 = .ok (.if_icmp .eq 31, 3) := by decide +kernel
theorem dX2_join_8 : decode cX2_join 8 = .ok (.aload_n 0, 1) := by decide +kernel
theorem dX2_join_9 : decode cX2_join 9 = .ok (.getfield 21, 3) := by decide +kernel
theorem dX2_join_12 : decode cX2_join 12 = .ok (.iload_n 3, 1) := by decide +kernel
theorem dX2_join_13 : decode cX2_join 13 = .ok (.if_icmp .eq 23, 3) := by decide +kernel
theorem dX2_join_16 : decode cX2_join 16 = .ok (.aload_n 0, 1) := by decide +kernel
theorem dX2_join_17 : decode cX2_join 17 = .ok (.getfield 15, 3) := by decide +kernel
theorem dX2_join_20 : decode cX2_join 20 = .ok (.iload 4, 2) := by decide +kernel
theorem dX2_join_22 : decode cX2_join 22 = .ok (.if_icmp .lt 4, 3) := by decide +kernel
theorem dX2_join_25 : decode cX2_join 25 = .ok (.return_, 1) := by decide +kernel
theorem dX2_join_26 : decode cX2_join 26 = .ok (.aload_n 0, 1) := by decide +kernel
theorem dX2_join_27 : decode cX2_join 27 = .ok (.dup, 1) := by decide +kernel
theorem dX2_join_28 : decode cX2_join 28 = .ok (.getfield 15, 3) := by decide +kernel
theorem dX2_join_31 : decode cX2_join 31 = .ok (.iconst 1, 1) := by decide +kernel
theorem dX2_join_32 : decode cX2_join 32 = .ok (.iadd, 1) := by decide +kernel
theorem dX2_join_33 : decode cX2_join 33 = .ok (.putfield 15, 3) := by decide +kernel
theorem dX2_join_36 : decode cX2_join 36 = .ok (.aload_n 0, 1) := by decide +kernel
theorem dX2_join_37 : decode cX2_join 37 = .ok (.iload_n 3, 1) := by decide +kernel
theorem dX2_join_38 : decode cX2_join 38 = .ok (.putfield 21, 3) := by decide +kernel
theorem dX2_join_41 : decode cX2_join 41 = .ok (.aload_n 0, 1) := by decide +kernel
theorem dX2_join_42 : decode cX2_join 42 = .ok (.dup, 1) := by decide +kernel
theorem dX2_join_43 : decode cX2_join 43 = .ok (.getfield 9, 3) := by decide +kernel
theorem dX2_join_46 : decode cX2_join 46 = .ok (.iload_n 2, 1) := by decide +kernel
theorem dX2_join_47 : decode cX2_join 47 = .ok (.iadd, 1) := by decide +kernel
theorem dX2_join_48 : decode cX2_join 48 = .ok (.putfield 9, 3) := by decide +kernel
theorem dX2_join_51 : decode cX2_join 51 = .ok (.aload_n 0, 1) := by decide +kernel
theorem dX2_join_52 : decode cX2_join 52 = .ok (.dup, 1) := by decide +kernel
theorem dX2_join_53 : decode cX2_join 53 = .ok (.getfield 18, 3) := by decide +kernel
theorem dX2_join_56 : decode cX2_join 56 = .ok (.iconst 1, 1) := by decide +kernel
theorem dX2_join_57 : decode cX2_join 57 = .ok (.iload_n 1, 1) := by decide +kernel
theorem dX2_join_58 : decode cX2_join 58 = .ok (.ishl, 1) := by decide +kernel
theorem dX2_join_59 : decode cX2_join 59 = .ok (.ior, 1) := by decide +kernel
theorem dX2_join_60 : decode cX2_join 60 = .ok (.putfield 18, 3) := by decide +kernel
theorem dX2_join_63 : decode cX2_join 63 = .ok (.return_, 1) := by decide +kernel
theorem dX3_init_0 : decode cX3_init 0 = .ok (.aload_n 0, 1) := by decide +kernel
theorem dX3_init_1 : decode cX3_init 1 = .ok (.invokespecial 3, 3) := by decide +kernel
theorem dX3_init_4 : decode cX3_init 4 = .ok (.aload_n 0, 1) := by decide +kernel
theorem dX3_init_5 : decode cX3_init 5 = .ok (.iconst 0, 1) := by decide +kernel
theorem dX3_init_6 : decode cX3_init 6 = .ok (.putfield 9, 3) := by decide +kernel
theorem dX3_init_9 : decode cX3_init 9 = .ok (.aload_n 0, 1) := by decide +kernel
theorem dX3_init_10 : decode cX3_init 10 = .ok (.sipush 200, 3) := by decide +kernel
theorem dX3_init_13 : decode cX3_init 13 = .ok (.putfield 15, 3) := by decide +kernel
theorem dX3_init_16 : decode cX3_init 16 = .ok (.aload_n 0, 1) := by decide +kernel
theorem dX3_init_17 : decode cX3_init 17 = .ok (.iconst 3, 1) := by decide +kernel
theorem dX3_init_18 : decode cX3_init 18 = .ok (.newarray .int, 2) := by decide +kernel
theorem dX3_init_20 : decode cX3_init 20 = .ok (.dup, 1) := by decide +kernel
theorem dX3_init_21 : decode cX3_init 21 = .ok (.iconst 0, 1) := by decide +kernel
theorem dX3_init_22 : decode cX3_init 22 = .ok (.bipush 60, 2) := by decide +kernel
theorem dX3_init_24 : decode cX3_init 24 = .ok (.iastore, 1) := by decide +kernel
theorem dX3_init_25 : decode cX3_init 25 = .ok (.dup, 1) := by decide +kernel
theorem dX3_init_26 : decode cX3_init 26 = .ok (.iconst 1, 1) := by decide +kernel
theorem dX3_init_27 : decode cX3_init 27 = .ok (.bipush 60, 2) := by decide +kernel
theorem dX3_init_29 : decode cX3_init 29 = .ok (.iastore, 1) := by decide +kernel
theorem dX3_init_30 : decode cX3_init 30 = .ok (.dup, 1) := by decide +kernel
theorem dX3_init_31 : decode cX3_init 31 = .ok (.iconst 2, 1) := by decide +kernel
theorem dX3_init_32 : decode cX3_init 32 = .ok (.bipush 60, 2) := by decide +kernel
theorem dX3_init_34 : decode cX3_init 34 = .ok (.iastore, 1) := by decide +kernel
theorem dX3_init_35 : decode cX3_init 35 = .ok (.putfield 18, 3) := by decide +kernel
theorem dX3_init_38 : decode cX3_init 38 = .ok (.aload_n 0, 1) := by decide +kernel
theorem dX3_init_39 : decode cX3_init 39 = .ok (.iconst 3, 1) := by decide +kernel
theorem dX3_init_40 : decode cX3_init 40 = .ok (.newarray .int, 2) := by decide +kernel
theorem dX3_init_42 : decode cX3_init 42 = .ok (.dup, 1) := by decide +kernel
theorem dX3_init_43 : decode cX3_init 43 = .ok (.iconst 0, 1) := by decide +kernel
theorem dX3_init_44 : decode cX3_init 44 = .ok (.bipush 12, 2) := by decide +kernel
theorem dX3_init_46 : decode cX3_init 46 = .ok (.iastore, 1) := by decide +kernel
theorem dX3_init_47 : decode cX3_init 47 = .ok (.dup, 1) := by decide +kernel
theorem dX3_init_48 : decode cX3_init 48 = .ok (.iconst 1, 1) := by decide +kernel
theorem dX3_init_49 : decode cX3_init 49 = .ok (.iconst 1, 1) := by decide +kernel
theorem dX3_init_50 : decode cX3_init 50 = .ok (.iastore, 1) := by decide +kernel
theorem dX3_init_51 : decode cX3_init 51 = .ok (.dup, 1) := by decide +kernel
theorem dX3_init_52 : decode cX3_init 52 = .ok (.iconst 2, 1) := by decide +kernel
theorem dX3_init_53 : decode cX3_init 53 = .ok (.bipush 50, 2) := by decide +kernel
theorem dX3_init_55 : decode cX3_init 55 = .ok (.iastore, 1) := by decide +kernel
theorem dX3_init_56 : decode cX3_init 56 = .ok (.putfield 22, 3) := by decide +kernel
theorem dX3_init_59 : decode cX3_init 59 = .ok (.aload_n 0, 1) := by decide +kernel
theorem dX3_init_60 : decode cX3_init 60 = .ok (.bipush 14, 2) := by decide +kernel
theorem dX3_init_62 : decode cX3_init 62 = .ok (.newarray .int, 2) := by decide +kernel
theorem dX3_init_64 : decode cX3_init 64 = .ok (.putfield 25, 3) := by decide +kernel
theorem dX3_init_67 : decode cX3_init 67 = .ok (.aload_n 0, 1) := by decide +kernel
theorem dX3_init_68 : decode cX3_init 68 = .ok (.bipush 14, 2) := by decide +kernel
theorem dX3_init_70 : decode cX3_init 70 = .ok (.newarray .int, 2) := by decide +kernel
theorem dX3_init_72 : decode cX3_init 72 = .ok (.putfield 28, 3) := by decide +kernel
theorem dX3_init_75 : decode cX3_init 75 = .ok (.aload_n 0, 1) := by decide +kernel
theorem dX3_init_76 : decode cX3_init 76 = .ok (.bipush 14, 2) := by decide +kernel
theorem dX3_init_78 : decode cX3_init 78 = .ok (.newarray .int, 2) := by decide +kernel
theorem dX3_init_80 : decode cX3_init 80 = .ok (.putfield 31, 3) := by decide +kernel
theorem dX3_init_83 : decode cX3_init 83 = .ok (.aload_n 0, 1) := by decide +kernel
theorem dX3_init_84 : decode cX3_init 84 = .ok (.bipush 14, 2) := by decide +kernel
theorem dX3_init_86 : decode cX3_init 86 = .ok (.newarray .int, 2) := by decide +kernel
theorem dX3_init_88 : decode cX3_init 88 = .ok (.putfield 34, 3) := by decide +kernel
theorem dX3_init_91 : decode cX3_init 91 = .ok (.aload_n 0, 1) := by decide +kernel
theorem dX3_init_92 : decode cX3_init 92 = .ok (.bipush 14, 2) := by decide +kernel
theorem dX3_init_94 : decode cX3_init 94 = .ok (.newarray .int, 2) := by decide +kernel
theorem dX3_init_96 : decode cX3_init 96 = .ok (.putfield 37, 3) := by decide +kernel
theorem dX3_init_99 : decode cX3_init 99 = .ok (.aload_n 0, 1) := by decide +kernel
theorem dX3_init_100 : decode cX3_init 100 = .ok (.bipush 14, 2) := by decide +kernel
theorem dX3_init_102 : decode cX3_init 102 = .ok (.newarray .int, 2) := by decide +kernel
theorem dX3_init_104 : decode cX3_init 104 = .ok (.putfield 40, 3) := by decide +kernel
theorem dX3_init_107 : decode cX3_init 107 = .ok (.aload_n 0, 1) := by decide +kernel
theorem dX3_init_108 : decode cX3_init 108 = .ok (.bipush 14, 2) := by decide +kernel
theorem dX3_init_110 : decode cX3_init 110 = .ok (.newarray .int, 2) := by decide +kernel
theorem dX3_init_112 : decode cX3_init 112 = .ok (.putfield 43, 3) := by decide +kernel
theorem dX3_init_115 : decode cX3_init 115 = .ok (.aload_n 0, 1) := by decide +kernel
theorem dX3_init_116 : decode cX3_init 116 = .ok (.bipush 14, 2) := by decide +kernel
theorem dX3_init_118 : decode cX3_init 118 = .ok (.newarray .int, 2) := by decide +kernel
theorem dX3_init_120 : decode cX3_init 120 = .ok (.putfield 46, 3) := by decide +kernel
theorem dX3_init_123 : decode cX3_init 123 = .ok (.aload_n 0, 1) := by decide +kernel
theorem dX3_init_124 : decode cX3_init 124 = .ok (.new 49, 3) := by decide +kernel
theorem dX3_init_127 : decode cX3_init 127 = .ok (.dup, 1) := by decide +kernel
theorem dX3_init_128 : decode cX3_init 128 = .ok (.invokespecial 51, 3) := by decide +kernel
theorem dX3_init_131 : decode cX3_init 131 = .ok (.putfield 52, 3) := by decide +kernel
theorem dX3_init_134 : decode cX3_init 134 = .ok (.return_, 1) := by decide +kernel
theorem dX3_copyFrom_0 : decode cX3_copyFrom 0 = .ok (.aload_n 0, 1) := by decide +kernel
theorem dX3_copyFrom_1 : decode cX3_copyFrom 1 = .ok (.aload_n 1, 1) := by decide +kernel
theorem dX3_copyFrom_2 : decode cX3_copyFrom 2 = .ok (.getfield 9, 3) := by decide +kernel
theorem dX3_copyFrom_5 : decode cX3_copyFrom 5 = .ok (.putfield 9, 3) := by decide +kernel
theorem dX3_copyFrom_8 : decode cX3_copyFrom 8 = .ok (.aload_n 0, 1) := by decide +kernel
theorem dX3_copyFrom_9 : decode cX3_copyFrom 9 = .ok (.aload_n 1, 1) := by decide +kernel
theorem dX3_copyFrom_10 : decode cX3_copyFrom 10 = .ok (.getfield 15, 3) := by decide +kernel
theorem dX3_copyFrom_13 : decode cX3_copyFrom 13 = .ok (.putfield 15, 3) := by decide +kernel
theorem dX3_copyFrom_16 : decode cX3_copyFrom 16 = .ok (.aload_n 0, 1) := by decide +kernel
theorem dX3_copyFrom_17 : decode cX3_copyFrom 17 = .ok (.aload_n 1, 1) := by decide +kernel
theorem dX3_copyFrom_18 : decode cX3_copyFrom 18 = .ok (.getfield 56, 3) := by decide +kernel
theorem dX3_copyFrom_21 : decode cX3_copyFrom 21 = .ok (.putfield 56, 3) := by decide +kernel
theorem dX3_copyFrom_24 : decode cX3_copyFrom 24 = .ok (.aload_n 0, 1) := by decide +kernel
theorem dX3_copyFrom_25 : decode cX3_copyFrom 25 = .ok (.aload_n 1, 1) := by decide +kernel
theorem dX3_copyFrom_26 : decode cX3_copyFrom 26 = .ok (.getfield 59, 3) := by decide +kernel
theorem dX3_copyFrom_29 : decode cX3_copyFrom 29 = .ok (.putfield 59, 3) := by decide +kernel
theorem dX3_copyFrom_32 : decode cX3_copyFrom 32 = .ok (.aload_n 0, 1) := by decide +kernel
theorem dX3_copyFrom_33 : decode cX3_copyFrom 33 = .ok (.aload_n 1, 1) := by decide +kernel
theorem dX3_copyFrom_34 : decode cX3_copyFrom 34 = .ok (.getfield 62, 3) := by decide +kernel
theorem dX3_copyFrom_37 : decode cX3_copyFrom 37 = .ok (.putfield 62, 3) := by decide +kernel
theorem dX3_copyFrom_40 : decode cX3_copyFrom 40 = .ok (.aload_n 0, 1) := by decide +kernel
theorem dX3_copyFrom_41 : decode cX3_copyFrom 41 = .ok (.aload_n 1, 1) := by decide +kernel
theorem dX3_copyFrom_42 : decode cX3_copyFrom 42 = .ok (.getfield 65, 3) := by decide +kernel
theorem dX3_copyFrom_45 : decode cX3_copyFrom 45 = .ok (.putfield 65, 3) := by decide +kernel
theorem dX3_copyFrom_48 : decode cX3_copyFrom 48 = .ok (.aload_n 1, 1) := by decide +kernel
theorem dX3_copyFrom_49 : decode cX3_copyFrom 49 = .ok (.getfield 18, 3) := by decide +kernel
theorem dX3_copyFrom_52 : decode cX3_copyFrom 52 = .ok (.iconst 0, 1) := by decide +kernel
theorem dX3_copyFrom_53 : decode cX3_copyFrom 53 = .ok (.aload_n 0, 1) := by decide +kernel
theorem dX3_copyFrom_54 : decode cX3_copyFrom 54 = .ok (.getfield 18, 3) := by decide +kernel
theorem dX3_copyFrom_57 : decode cX3_copyFrom 57 = .ok (.iconst 0, 1) := by decide +kernel
theorem dX3_copyFrom_58 : decode cX3_copyFrom 58 = .ok (.iconst 3, 1) := by decide +kernel
theorem dX3_copyFrom_59 : decode cX3_copyFrom 59 = .ok (.invokestatic 68, 3) := by decide +kernel
theorem dX3_copyFrom_62 : decode cX3_copyFrom 62 = .ok (.aload_n 1, 1) := by decide +kernel
theorem dX3_copyFrom_63 : decode cX3_copyFrom 63 = .ok (.getfield 22, 3) := by decide +kernel
theorem dX3_copyFrom_66 : decode cX3_copyFrom 66 = .ok (.iconst 0, 1) := by decide +kernel
theorem dX3_copyFrom_67 : decode cX3_copyFrom 67 = .ok (.aload_n 0, 1) := by decide +kernel
theorem dX3_copyFrom_68 : decode cX3_copyFrom 68 = .ok (.getfield 22, 3) := by decide +kernel
theorem dX3_copyFrom_71 : decode cX3_copyFrom 71 = .ok (.iconst 0, 1) := by decide +kernel
theorem dX3_copyFrom_72 : decode cX3_copyFrom 72 = .ok (.iconst 3, 1) := by decide +kernel
theorem dX3_copyFrom_73 : decode cX3_copyFrom 73 = .ok (.invokestatic 68, 3) := by decide +kernel
theorem dX3_copyFrom_76 : decode cX3_copyFrom 76 = .ok (.aload_n 1, 1) := by decide +kernel
theorem dX3_copyFrom_77 : decode cX3_copyFrom 77 = .ok (.getfield 25, 3) := by decide +kernel
theorem dX3_copyFrom_80 : decode cX3_copyFrom 80 = .ok (.iconst 0, 1) := by decide +kernel
theorem dX3_copyFrom_81 : decode cX3_copyFrom 81 = .ok (.aload_n 0, 1) := by decide +kernel
theorem dX3_copyFrom_82 : decode cX3_copyFrom 82 = .ok (.getfield 25, 3) := by decide +kernel
theorem dX3_copyFrom_85 : decode cX3_copyFrom 85 = .ok (.iconst 0, 1) := by decide +kernel
theorem dX3_copyFrom_86 : decode cX3_copyFrom 86 = .ok (.bipush 14, 2) := by decide +kernel
theorem dX3_copyFrom_88 : decode cX3_copyFrom 88 = .ok (.invokestatic 68, 3) := by decide +kernel
theorem dX3_copyFrom_91 : decode cX3_copyFrom 91 = .ok (.aload_n 1, 1) := by decide +kernel
theorem dX3_copyFrom_92 : decode cX3_copyFrom 92 = .ok (.getfield 28, 3) := by decide +kernel
theorem dX3_copyFrom_95 : decode cX3_copyFrom 95 = .ok (.iconst 0, 1) := by decide +kernel
theorem dX3_copyFrom_96 : decode cX3_copyFrom 96 = .ok (.aload_n 0, 1) := by decide +kernel
theorem dX3_copyFrom_97 : decode cX3_copyFrom 97 = .ok (.getfield 28, 3) := by decide +kernel
theorem dX3_copyFrom_100 : decode cX3_copyFrom 100 = .ok (.iconst 0, 1) := by decide +kernel
theorem dX3_copyFrom_101 : decode cX3_copyFrom 101 = .ok (.bipush 14, 2) := by decide +kernel
theorem dX3_copyFrom_103 : decode cX3_copyFrom 103 = .ok (.invokestatic 68, 3) := by decide +kernel
theorem dX3_copyFrom_106 : decode cX3_copyFrom 106 = .ok (.aload_n 1, 1) := by decide +kernel
theorem dX3_copyFrom_107 : decode cX3_copyFrom 107 = .ok (.getfield 31, 3) := by decide +kernel
theorem dX3_copyFrom_110 : decode cX3_copyFrom 110 = .ok (.iconst 0, 1) := by decide +kernel
theorem dX3_copyFrom_111 : decode cX3_copyFrom 111 = .ok (.aload_n 0, 1) := by decide +kernel
theorem dX3_copyFrom_112 : decode cX3_copyFrom 112 = .ok (.getfield 31, 3) := by decide +kernel
theorem dX3_copyFrom_115 : decode cX3_copyFrom 115 = .ok (.iconst 0, 1) := by decide +kernel
theorem dX3_copyFrom_116 : decode cX3_copyFrom 116 = .ok (.bipush 14, 2) := by decide +kernel
theorem dX3_copyFrom_118 : decode cX3_copyFrom 118 = .ok (.invokestatic 68, 3) := by decide +kernel
theorem dX3_copyFrom_121 : decode cX3_copyFrom 121 = .ok (.aload_n 1, 1) := by decide +kernel
theorem dX3_copyFrom_122 : decode cX3_copyFrom 122 = .ok (.getfield 34, 3) := by decide +kernel
theorem dX3_copyFrom_125 : decode cX3_copyFrom 125 = .ok (.iconst 0, 1) := by decide +kernel
theorem dX3_copyFrom_126 : decode cX3_copyFrom 126 = .ok (.aload_n 0, 1) := by decide +kernel
theorem dX3_copyFrom_127 : decode cX3_copyFrom 127 = .ok (.getfield 34, 3) := by decide +kernel
theorem dX3_copyFrom_130 : decode cX3_copyFrom 130 = .ok (.iconst 0, 1) := by decide +kernel
theorem dX3_copyFrom_131 : decode cX3_copyFrom 131 = .ok (.bipush 14, 2) := by decide +kernel
theorem dX3_copyFrom_133 : decode cX3_copyFrom 133 = .ok (.invokestatic 68, 3) := by decide +kernel
theorem dX3_copyFrom_136 : decode cX3_copyFrom 136 = .ok (.aload_n 1, 1) := by decide +kernel
theorem dX3_copyFrom_137 : decode cX3_copyFrom 137 = .ok (.getfield 37, 3) := by decide +kernel
theorem dX3_copyFrom_140 : decode cX3_copyFrom 140 = .ok (.iconst 0, 1) := by decide +kernel
theorem dX3_copyFrom_141 : decode cX3_copyFrom 141 = .ok (.aload_n 0, 1) := by decide +kernel
theorem dX3_copyFrom_142 : decode cX3_copyFrom 142 = .ok (.getfield 37, 3) := by decide +kernel
theorem dX3_copyFrom_145 : decode cX3_copyFrom 145 = .ok (.iconst 0, 1) := by decide +kernel
theorem dX3_copyFrom_146 : decode cX3_copyFrom 146 = .ok (.bipush 14, 2) := by decide +kernel
theorem dX3_copyFrom_148 : decode cX3_copyFrom 148 = .ok (.invokestatic 68, 3) := by decide +kernel
theorem dX3_copyFrom_151 : decode cX3_copyFrom 151 = .ok (.aload_n 1, 1) := by decide +kernel
theorem dX3_copyFrom_152 : decode cX3_copyFrom 152 = .ok (.getfield 40, 3) := by decide +kernel
theorem dX3_copyFrom_155 : decode cX3_copyFrom 155 = .ok (.iconst 0, 1) := by decide +kernel
theorem dX3_copyFrom_156 : decode cX3_copyFrom 156 = .ok (.aload_n 0, 1) := by decide +kernel
theorem dX3_copyFrom_157 : decode cX3_copyFrom 157 = .ok (.getfield 40, 3) := by decide +kernel
theorem dX3_copyFrom_160 : decode cX3_copyFrom 160 = .ok (.iconst 0, 1) := by decide +kernel
theorem dX3_copyFrom_161 : decode cX3_copyFrom 161 = .ok (.bipush 14, 2) := by decide +kernel
theorem dX3_copyFrom_163 : decode cX3_copyFrom 163 = .ok (.invokestatic 68, 3) := by decide +kernel
theorem dX3_copyFrom_166 : decode cX3_copyFrom 166 = .ok (.aload_n 1, 1) := by decide +kernel
theorem dX3_copyFrom_167 : decode cX3_copyFrom 167 = .ok (.getfield 43, 3) := by decide +kernel
theorem dX3_copyFrom_170 : decode cX3_copyFrom 170 = .ok (.iconst 0, 1) := by decide +kernel
theorem dX3_copyFrom_171 : decode cX3_copyFrom 171 = .ok (.aload_n 0, 1) := by decide +kernel
theorem dX3_copyFrom_172 : decode cX3_copyFrom 172 = .ok (.getfield 43, 3) := by decide +kernel
theorem dX3_copyFrom_175 : decode cX3_copyFrom 175 = .ok (.iconst 0, 1) := by decide +kernel
theorem dX3_copyFrom_176 : decode cX3_copyFrom 176 = .ok (.bipush 14, 2) := by decide +kernel
theorem dX3_copyFrom_178 : decode cX3_copyFrom 178 = .ok (.invokestatic 68, 3) := by decide +kernel
theorem dX3_copyFrom_181 : decode cX3_copyFrom 181 = .ok (.aload_n 1, 1) := by decide +kernel
theorem dX3_copyFrom_182 : decode cX3_copyFrom 182 = .ok (.getfield 46, 3) := by decide +kernel
theorem dX3_copyFrom_185 : decode cX3_copyFrom 185 = .ok (.iconst 0, 1) := by decide +kernel
theorem dX3_copyFrom_186 : decode cX3_copyFrom 186 = .ok (.aload_n 0, 1) := by decide +kernel
theorem dX3_copyFrom_187 : decode cX3_copyFrom 187 = .ok (.getfield 46, 3) := by decide +kernel
theorem dX3_copyFrom_190 : decode cX3_copyFrom 190 = .ok (.iconst 0, 1) := by decide +kernel
theorem dX3_copyFrom_191 : decode cX3_copyFrom 191 = .ok (.bipush 14, 2) := by decide +kernel
theorem dX3_copyFrom_193 : decode cX3_copyFrom 193 = .ok (.invokestatic 68, 3) := by decide +kernel
theorem dX3_copyFrom_196 : decode cX3_copyFrom 196 = .ok (.return_, 1) := by decide +kernel
theorem dX3_isGone_0 : decode cX3_isGone 0 = .ok (.aload_n 0, 1) := by decide +kernel
theorem dX3_isGone_1 : decode cX3_isGone 1 = .ok (.getfield 43, 3) := by decide +kernel
theorem dX3_isGone_4 : decode cX3_isGone 4 = .ok (.iload_n 1, 1) := by decide +kernel
theorem dX3_isGone_5 : decode cX3_isGone 5 = .ok (.iaload, 1) := by decide +kernel
theorem dX3_isGone_6 : decode cX3_isGone 6 = .ok (.iconst (-1), 1) := by decide +kernel
theorem dX3_isGone_7 : decode cX3_isGone 7 = .ok (.if_icmp .ne 7, 3) := by decide +kernel
theorem dX3_isGone_10 : decode cX3_isGone 10 = .ok (.iconst 1, 1) := by decide +kernel
theorem dX3_isGone_11 : decode cX3_isGone 11 = .ok (.goto 4, 3) := by decide +kernel
theorem dX3_isGone_14 : decode cX3_isGone 14 = .ok (.iconst 0, 1) := by decide +kernel
theorem dX3_isGone_15 : decode cX3_isGone 15 = .ok (.ireturn, 1) := by decide +kernel
theorem dX3_isLent_0 : decode cX3_isLent 0 = .ok (.aload_n 0, 1) := by decide +kernel
theorem dX3_isLent_1 : decode cX3_isLent 1 = .ok (.getfield 43, 3) := by decide +kernel
theorem dX3_isLent_4 : decode cX3_isLent 4 = .ok (.iload_n 1, 1) := by decide +kernel
theorem dX3_isLent_5 : decode cX3_isLent 5 = .ok (.iaload, 1) := by decide +kernel
theorem dX3_isLent_6 : decode cX3_isLent 6 = .ok (.iconst 4, 1) := by decide +kernel
theorem dX3_isLent_7 : decode cX3_isLent 7 = .ok (.if_icmp .ne 7, 3) := by decide +kernel
theorem dX3_isLent_10 : decode cX3_isLent 10 = .ok (.iconst 1, 1) := by decide +kernel
theorem dX3_isLent_11 : decode cX3_isLent 11 = .ok (.goto 4, 3) := by decide +kernel
theorem dX3_isLent_14 : decode cX3_isLent 14 = .ok (.iconst 0, 1) := by decide +kernel
theorem dX3_isLent_15 : decode cX3_isLent 15 = .ok (.ireturn, 1) := by decide +kernel
theorem dX3_isOnTruck_0 : decode cX3_isOnTruck 0 = .ok (.aload_n 0, 1) := by decide +kernel
theorem dX3_isOnTruck_1 : decode cX3_isOnTruck 1 = .ok (.getfield 43, 3) := by decide +kernel
theorem dX3_isOnTruck_4 : decode cX3_isOnTruck 4 = .ok (.iload_n 1, 1) := by decide +kernel
theorem dX3_isOnTruck_5 : decode cX3_isOnTruck 5 = .ok (.iaload, 1) := by decide +kernel
theorem dX3_isOnTruck_6 : decode cX3_isOnTruck 6 = .ok (.iconst 0, 1) := by decide +kernel
theorem dX3_isOnTruck_7 : decode cX3_isOnTruck 7 = .ok (.iconst 2, 1) := by decide +kernel
theorem dX3_isOnTruck_8 : decode cX3_isOnTruck 8 = .ok (.invokestatic 74, 3) := by decide +kernel
theorem dX3_isOnTruck_11 : decode cX3_isOnTruck 11 = .ok (.ireturn, 1) := by decide +kernel
theorem dX3_isReady_0 : decode cX3_isReady 0 = .ok (.aload_n 0, 1) := by decide +kernel
theorem dX3_isReady_1 : decode cX3_isReady 1 = .ok (.iload_n 1, 1) := by decide +kernel
theorem dX3_isReady_2 : decode cX3_isReady 2 = .ok (.invokevirtual 78, 3) := by decide +kernel
theorem dX3_isReady_5 : decode cX3_isReady 5 = .ok (.ifCond .ne 7, 3) := by decide +kernel
theorem dX3_isReady_8 : decode cX3_isReady 8 = .ok (.iconst 1, 1) := by decide +kernel
theorem dX3_isReady_9 : decode cX3_isReady 9 = .ok (.goto 4, 3) := by decide +kernel
theorem dX3_isReady_12 : decode cX3_isReady 12 = .ok (.iconst 0, 1) := by decide +kernel
theorem dX3_isReady_13 : decode cX3_isReady 13 = .ok (.ireturn, 1) := by decide +kernel
theorem dX3_reasonOf_0 : decode cX3_reasonOf 0 = .ok (.aload_n 0, 1) := by decide +kernel
theorem dX3_reasonOf_1 : decode cX3_reasonOf 1 = .ok (.iload_n 1, 1) := by decide +kernel
theorem dX3_reasonOf_2 : decode cX3_reasonOf 2 = .ok (.invokevirtual 82, 3) := by decide +kernel
theorem dX3_reasonOf_5 : decode cX3_reasonOf 5 = .ok (.ifCond .eq 5, 3) := by decide +kernel
theorem dX3_reasonOf_8 : decode cX3_reasonOf 8 = .ok (.iconst 1, 1) := by decide +kernel
theorem dX3_reasonOf_9 : decode cX3_reasonOf 9 = .ok (.ireturn, 1) := by decide +kernel
theorem dX3_reasonOf_10 : decode cX3_reasonOf 10 = .ok (.aload_n 0, 1) := by decide +kernel
theorem dX3_reasonOf_11 : decode cX3_reasonOf 11 = .ok (.iload_n 1, 1) := by decide +kernel
theorem dX3_reasonOf_12 : decode cX3_reasonOf 12 = .ok (.invokevirtual 86, 3) := by decide +kernel
theorem dX3_reasonOf_15 : decode cX3_reasonOf 15 = .ok (.ifCond .eq 5, 3) := by decide +kernel
theorem dX3_reasonOf_18 : decode cX3_reasonOf 18 = .ok (.iconst 2, 1) := by decide +kernel
theorem dX3_reasonOf_19 : decode cX3_reasonOf 19 = .ok (.ireturn, 1) := by decide +kernel
theorem dX3_reasonOf_20 : decode cX3_reasonOf 20 = .ok (.aload_n 0, 1) := by decide +kernel
theorem dX3_reasonOf_21 : decode cX3_reasonOf 21 = .ok (.getfield 9, 3) := by decide +kernel
theorem dX3_reasonOf_24 : decode cX3_reasonOf 24 = .ok (.aload_n 0, 1) := by decide +kernel
theorem dX3_reasonOf_25 : decode cX3_reasonOf 25 = .ok (.getfield 34, 3) := by decide +kernel
theorem dX3_reasonOf_28 : decode cX3_reasonOf 28 = .ok (.iload_n 1, 1) := by decide +kernel
theorem dX3_reasonOf_29 : decode cX3_reasonOf 29 = .ok (.iaload, 1) := by decide +kernel
theorem dX3_reasonOf_30 : decode cX3_reasonOf 30 = .ok (.isub, 1) := by decide +kernel
theorem dX3_reasonOf_31 : decode cX3_reasonOf 31 = .ok (.aload_n 0, 1) := by decide +kernel
theorem dX3_reasonOf_32 : decode cX3_reasonOf 32 = .ok (.getfield 25, 3) := by decide +kernel
theorem dX3_reasonOf_35 : decode cX3_reasonOf 35 = .ok (.iload_n 1, 1) := by decide +kernel
theorem dX3_reasonOf_36 : decode cX3_reasonOf 36 = .ok (.iaload, 1) := by decide +kernel
theorem dX3_reasonOf_37 : decode cX3_reasonOf 37 = .ok (.invokestatic 89, 3) := by decide +kernel
theorem dX3_reasonOf_40 : decode cX3_reasonOf 40 = .ok (.if_icmp .le 5, 3) := by decide +kernel
theorem dX3_reasonOf_43 : decode cX3_reasonOf 43 = .ok (.iconst 3, 1) := by decide +kernel
theorem dX3_reasonOf_44 : decode cX3_reasonOf 44 = .ok (.ireturn, 1) := by decide +kernel
theorem dX3_reasonOf_45 : decode cX3_reasonOf 45 = .ok (.aload_n 0, 1) := by decide +kernel
theorem dX3_reasonOf_46 : decode cX3_reasonOf 46 = .ok (.getfield 40, 3) := by decide +kernel
theorem dX3_reasonOf_49 : decode cX3_reasonOf 49 = .ok (.iload_n 1, 1) := by decide +kernel
theorem dX3_reasonOf_50 : decode cX3_reasonOf 50 = .ok (.iaload, 1) := by decide +kernel
theorem dX3_reasonOf_51 : decode cX3_reasonOf 51 = .ok (.iconst (-1), 1) := by decide +kernel
theorem dX3_reasonOf_52 : decode cX3_reasonOf 52 = .ok (.if_icmp .eq 16, 3) := by decide +kernel
theorem dX3_reasonOf_55 : decode cX3_reasonOf 55 = .ok (.aload_n 0, 1) := by decide +kernel
theorem dX3_reasonOf_56 : decode cX3_reasonOf 56 = .ok (.getfield 9, 3) := by decide +kernel
theorem dX3_reasonOf_59 : decode cX3_reasonOf 59 = .ok (.aload_n 0, 1) := by decide +kernel
theorem dX3_reasonOf_60 : decode cX3_reasonOf 60 = .ok (.getfield 40, 3) := by decide +kernel
theorem dX3_reasonOf_63 : decode cX3_reasonOf 63 = .ok (.iload_n 1, 1) := by decide +kernel
theorem dX3_reasonOf_64 : decode cX3_reasonOf 64 = .ok (.iaload, 1) := by decide +kernel
theorem dX3_reasonOf_65 : decode cX3_reasonOf 65 = .ok (.if_icmp .le 7, 3) := by decide +kernel
theorem dX3_reasonOf_68 : decode cX3_reasonOf 68 = .ok (.iconst 4, 1) := by decide +kernel
theorem dX3_reasonOf_69 : decode cX3_reasonOf 69 = .ok (.goto 4, 3) := by decide +kernel
theorem dX3_reasonOf_72 : decode cX3_reasonOf 72 = .ok (.iconst 0, 1) := by decide +kernel
theorem dX3_reasonOf_73 : decode cX3_reasonOf 73 = .ok (.ireturn, 1) := by decide +kernel
theorem dX3_strengthAt_0 : decode cX3_strengthAt 0 = .ok (.aload_n 0, 1) := by decide +kernel
theorem dX3_strengthAt_1 : decode cX3_strengthAt 1 = .ok (.getfield 25, 3) := by decide +kernel
theorem dX3_strengthAt_4 : decode cX3_strengthAt 4 = .ok (.iload_n 1, 1) := by decide +kernel
theorem dX3_strengthAt_5 : decode cX3_strengthAt 5 = .ok (.iaload, 1) := by decide +kernel
theorem dX3_strengthAt_6 : decode cX3_strengthAt 6 = .ok (.iload_n 2, 1) := by decide +kernel
theorem dX3_strengthAt_7 : decode cX3_strengthAt 7 = .ok (.aload_n 0, 1) := by decide +kernel
theorem dX3_strengthAt_8 : decode cX3_strengthAt 8 = .ok (.getfield 9, 3) := by decide +kernel
theorem dX3_strengthAt_11 : decode cX3_strengthAt 11 = .ok (.aload_n 0, 1) := by decide +kernel
theorem dX3_strengthAt_12 : decode cX3_strengthAt 12 = .ok (.getfield 34, 3) := by decide +kernel
theorem dX3_strengthAt_15 : decode cX3_strengthAt 15 = .ok (.iload_n 1, 1) := by decide +kernel
theorem dX3_strengthAt_16 : decode cX3_strengthAt 16 = .ok (.iaload, 1) := by decide +kernel
theorem dX3_strengthAt_17 : decode cX3_strengthAt 17 = .ok (.isub, 1) := by decide +kernel
theorem dX3_strengthAt_18 : decode cX3_strengthAt 18 = .ok (.bipush 100, 2) := by decide +kernel
theorem dX3_strengthAt_20 : decode cX3_strengthAt 20 = .ok (.idiv, 1) := by decide +kernel
theorem dX3_strengthAt_21 : decode cX3_strengthAt 21 = .ok (.invokestatic 94, 3) := by decide +kernel
theorem dX3_strengthAt_24 : decode cX3_strengthAt 24 = .ok (.ireturn, 1) := by decide +kernel
theorem dX3_priceOf_0 : decode cX3_priceOf 0 = .ok (.aload_n 0, 1) := by decide +kernel
theorem dX3_priceOf_1 : decode cX3_priceOf 1 = .ok (.getfield 25, 3) := by decide +kernel
theorem dX3_priceOf_4 : decode cX3_priceOf 4 = .ok (.iload_n 1, 1) := by decide +kernel
theorem dX3_priceOf_5 : decode cX3_priceOf 5 = .ok (.iaload, 1) := by decide +kernel
theorem dX3_priceOf_6 : decode cX3_priceOf 6 = .ok (.aload_n 0, 1) := by decide +kernel
theorem dX3_priceOf_7 : decode cX3_priceOf 7 = .ok (.getfield 28, 3) := by decide +kernel
theorem dX3_priceOf_10 : decode cX3_priceOf 10 = .ok (.iload_n 1, 1) := by decide +kernel
theorem dX3_priceOf_11 : decode cX3_priceOf 11 = .ok (.iaload, 1) := by decide +kernel
theorem dX3_priceOf_12 : decode cX3_priceOf 12 = .ok (.invokestatic 98, 3) := by decide +kernel
theorem dX3_priceOf_15 : decode cX3_priceOf 15 = .ok (.ireturn, 1) := by decide +kernel
theorem dX3_canBuy_0 : decode cX3_canBuy 0 = .ok (.aload_n 0, 1) := by decide +kernel
theorem dX3_canBuy_1 : decode cX3_canBuy 1 = .ok (.getfield 56, 3) := by decide +kernel
theorem dX3_canBuy_4 : decode cX3_canBuy 4 = .ok (.bipush 14, 2) := by decide +kernel
theorem dX3_canBuy_6 : decode cX3_canBuy 6 = .ok (.if_icmp .ge 19, 3) := by decide +kernel
theorem dX3_canBuy_9 : decode cX3_canBuy 9 = .ok (.iload_n 1, 1) := by decide +kernel
theorem dX3_canBuy_10 : decode cX3_canBuy 10 = .ok (.iload_n 2, 1) := by decide +kernel
theorem dX3_canBuy_11 : decode cX3_canBuy 11 = .ok (.invokestatic 98, 3) := by decide +kernel
theorem dX3_canBuy_14 : decode cX3_canBuy 14 = .ok (.aload_n 0, 1) := by decide +kernel
theorem dX3_canBuy_15 : decode cX3_canBuy 15 = .ok (.getfield 15, 3) := by decide +kernel
theorem dX3_canBuy_18 : decode cX3_canBuy 18 = .ok (.if_icmp .gt 7, 3) := by decide +kernel
theorem dX3_canBuy_21 : decode cX3_canBuy 21 = .ok (.iconst 1, 1) := by decide +kernel
theorem dX3_canBuy_22 : decode cX3_canBuy 22 = .ok (.goto 4, 3) := by decide +kernel
theorem dX3_canBuy_25 : decode cX3_canBuy 25 = .ok (.iconst 0, 1) := by decide +kernel
theorem dX3_canBuy_26 : decode cX3_canBuy 26 = .ok (.ireturn, 1) := by decide +kernel
theorem dX3_addHose_0 : decode cX3_addHose 0 = .ok (.aload_n 0, 1) := by decide +kernel
theorem dX3_addHose_1 : decode cX3_addHose 1 = .ok (.getfield 56, 3) := by decide +kernel
theorem dX3_addHose_4 : decode cX3_addHose 4 = .ok (.istore 5, 2) := by decide +kernel
theorem dX3_addHose_6 : decode cX3_addHose 6 = .ok (.aload_n 0, 1) := by decide +kernel
theorem dX3_addHose_7 : decode cX3_addHose 7 = .ok (.getfield 25, 3) := by decide +kernel
theorem dX3_addHose_10 : decode cX3_addHose 10 = .ok (.iload 5, 2) := by decide +kernel
theorem dX3_addHose_12 : decode cX3_addHose 12 = .ok (.iload_n 1, 1) := by decide +kernel
theorem dX3_addHose_13 : decode cX3_addHose 13 = .ok (.iastore, 1) := by decide +kernel
theorem dX3_addHose_14 : decode cX3_addHose 14 = .ok (.aload_n 0, 1) := by decide +kernel
theorem dX3_addHose_15 : decode cX3_addHose 15 = .ok (.getfield 28, 3) := by decide +kernel
theorem dX3_addHose_18 : decode cX3_addHose 18 = .ok (.iload 5, 2) := by decide +kernel
theorem dX3_addHose_20 : decode cX3_addHose 20 = .ok (.iload_n 2, 1) := by decide +kernel
theorem dX3_addHose_21 : decode cX3_addHose 21 = .ok (.iastore, 1) := by decide +kernel
theorem dX3_addHose_22 : decode cX3_addHose 22 = .ok (.aload_n 0, 1) := by decide +kernel
theorem dX3_addHose_23 : decode cX3_addHose 23 = .ok (.getfield 31, 3) := by decide +kernel
theorem dX3_addHose_26 : decode cX3_addHose 26 = .ok (.iload 5, 2) := by decide +kernel
theorem dX3_addHose_28 : decode cX3_addHose 28 = .ok (.iload_n 3, 1) := by decide +kernel
theorem dX3_addHose_29 : decode cX3_addHose 29 = .ok (.iastore, 1) := by decide +kernel
theorem dX3_addHose_30 : decode cX3_addHose 30 = .ok (.aload_n 0, 1) := by decide +kernel
theorem dX3_addHose_31 : decode cX3_addHose 31 = .ok (.getfield 34, 3) := by decide +kernel
theorem dX3_addHose_34 : decode cX3_addHose 34 = .ok (.iload 5, 2) := by decide +kernel
theorem dX3_addHose_36 : decode cX3_addHose 36 = .ok (.aload_n 0, 1) := by decide +kernel
theorem dX3_addHose_37 : decode cX3_addHose 37 = .ok (.getfield 9, 3) := by decide +kernel
theorem dX3_addHose_40 : decode cX3_addHose 40 = .ok (.iastore, 1) := by decide +kernel
theorem dX3_addHose_41 : decode cX3_addHose 41 = .ok (.aload_n 0, 1) := by decide +kernel
theorem dX3_addHose_42 : decode cX3_addHose 42 = .ok (.getfield 37, 3) := by decide +kernel
theorem dX3_addHose_45 : decode cX3_addHose 45 = .ok (.iload 5, 2) := by decide +kernel
theorem dX3_addHose_47 : decode cX3_addHose 47 = .ok (.iconst 0, 1) := by decide +kernel
theorem dX3_addHose_48 : decode cX3_addHose 48 = .ok (.iastore, 1) := by decide +kernel
theorem dX3_addHose_49 : decode cX3_addHose 49 = .ok (.aload_n 0, 1) := by decide +kernel
theorem dX3_addHose_50 : decode cX3_addHose 50 = .ok (.getfield 40, 3) := by decide +kernel
theorem dX3_addHose_53 : decode cX3_addHose 53 = .ok (.iload 5, 2) := by decide +kernel
theorem dX3_addHose_55 : decode cX3_addHose 55 = .ok (.iconst (-1), 1) := by decide +kernel
theorem dX3_addHose_56 : decode cX3_addHose 56 = .ok (.iastore, 1) := by decide +kernel
theorem dX3_addHose_57 : decode cX3_addHose 57 = .ok (.aload_n 0, 1) := by decide +kernel
theorem dX3_addHose_58 : decode cX3_addHose 58 = .ok (.getfield 43, 3) := by decide +kernel
theorem dX3_addHose_61 : decode cX3_addHose 61 = .ok (.iload 5, 2) := by decide +kernel
theorem dX3_addHose_63 : decode cX3_addHose 63 = .ok (.iload 4, 2) := by decide +kernel
theorem dX3_addHose_65 : decode cX3_addHose 65 = .ok (.iastore, 1) := by decide +kernel
theorem dX3_addHose_66 : decode cX3_addHose 66 = .ok (.aload_n 0, 1) := by decide +kernel
theorem dX3_addHose_67 : decode cX3_addHose 67 = .ok (.getfield 46, 3) := by decide +kernel
theorem dX3_addHose_70 : decode cX3_addHose 70 = .ok (.iload 5, 2) := by decide +kernel
theorem dX3_addHose_72 : decode cX3_addHose 72 = .ok (.iconst (-1), 1) := by decide +kernel
theorem dX3_addHose_73 : decode cX3_addHose 73 = .ok (.iastore, 1) := by decide +kernel
theorem dX3_addHose_74 : decode cX3_addHose 74 = .ok (.aload_n 0, 1) := by decide +kernel
theorem dX3_addHose_75 : decode cX3_addHose 75 = .ok (.dup, 1) := by decide +kernel
theorem dX3_addHose_76 : decode cX3_addHose 76 = .ok (.getfield 56, 3) := by decide +kernel
theorem dX3_addHose_79 : decode cX3_addHose 79 = .ok (.iconst 1, 1) := by decide +kernel
theorem dX3_addHose_80 : decode cX3_addHose 80 = .ok (.iadd, 1) := by decide +kernel
theorem dX3_addHose_81 : decode cX3_addHose 81 = .ok (.putfield 56, 3) := by decide +kernel
theorem dX3_addHose_84 : decode cX3_addHose 84 = .ok (.aload_n 0, 1) := by decide +kernel
theorem dX3_addHose_85 : decode cX3_addHose 85 = .ok (.dup, 1) := by decide +kernel
theorem dX3_addHose_86 : decode cX3_addHose 86 = .ok (.getfield 15, 3) := by decide +kernel
theorem dX3_addHose_89 : decode cX3_addHose 89 = .ok (.aload_n 0, 1) := by decide +kernel
theorem dX3_addHose_90 : decode cX3_addHose 90 = .ok (.iload 5, 2) := by decide +kernel
theorem dX3_addHose_92 : decode cX3_addHose 92 = .ok (.invokevirtual 102, 3) := by decide +kernel
theorem dX3_addHose_95 : decode cX3_addHose 95 = .ok (.isub, 1) := by decide +kernel
theorem dX3_addHose_96 : decode cX3_addHose 96 = .ok (.putfield 15, 3) := by decide +kernel
theorem dX3_addHose_99 : decode cX3_addHose 99 = .ok (.aload_n 0, 1) := by decide +kernel
theorem dX3_addHose_100 : decode cX3_addHose 100 = .ok (.dup, 1) := by decide +kernel
theorem dX3_addHose_101 : decode cX3_addHose 101 = .ok (.getfield 65, 3) := by decide +kernel
theorem dX3_addHose_104 : decode cX3_addHose 104 = .ok (.aload_n 0, 1) := by decide +kernel
theorem dX3_addHose_105 : decode cX3_addHose 105 = .ok (.iload 5, 2) := by decide +kernel
theorem dX3_addHose_107 : decode cX3_addHose 107 = .ok (.invokevirtual 102, 3) := by decide +kernel
theorem dX3_addHose_110 : decode cX3_addHose 110 = .ok (.iadd, 1) := by decide +kernel
theorem dX3_addHose_111 : decode cX3_addHose 111 = .ok (.putfield 65, 3) := by decide +kernel
theorem dX3_addHose_114 : decode cX3_addHose 114 = .ok (.iload 5, 2) := by decide +kernel
theorem dX3_addHose_116 : decode cX3_addHose 116 = .ok (.ireturn, 1) := by decide +kernel
theorem dX3_replaceHose_0 : decode cX3_replaceHose 0 = .ok (.aload_n 0, 1) := by decide +kernel
theorem dX3_replaceHose_1 : decode cX3_replaceHose 1 = .ok (.getfield 43, 3) := by decide +kernel
theorem dX3_replaceHose_4 : decode cX3_replaceHose 4 = .ok (.iload_n 1, 1) := by decide +kernel
theorem dX3_replaceHose_5 : decode cX3_replaceHose 5 = .ok (.iaload, 1) := by decide +kernel
theorem dX3_replaceHose_6 : decode cX3_replaceHose 6 = .ok (.istore_n 2, 1) := by decide +kernel
theorem dX3_replaceHose_7 : decode cX3_replaceHose 7 = .ok (.aload_n 0, 1) := by decide +kernel
theorem dX3_replaceHose_8 : decode cX3_replaceHose 8 = .ok (.getfield 43, 3) := by decide +kernel
theorem dX3_replaceHose_11 : decode cX3_replaceHose 11 = .ok (.iload_n 1, 1) := by decide +kernel
theorem dX3_replaceHose_12 : decode cX3_replaceHose 12 = .ok (.iconst (-1), 1) := by decide +kernel
theorem dX3_replaceHose_13 : decode cX3_replaceHose 13 = .ok (.iastore, 1) := by decide +kernel
theorem dX3_replaceHose_14 : decode cX3_replaceHose 14 = .ok (.aload_n 0, 1) := by decide +kernel
theorem dX3_replaceHose_15 : decode cX3_replaceHose 15 = .ok (.aload_n 0, 1) := by decide +kernel
theorem dX3_replaceHose_16 : decode cX3_replaceHose 16 = .ok (.getfield 25, 3) := by decide +kernel
theorem dX3_replaceHose_19 : decode cX3_replaceHose 19 = .ok (.iload_n 1, 1) := by decide +kernel
theorem dX3_replaceHose_20 : decode cX3_replaceHose 20 = .ok (.iaload, 1) := by decide +kernel
theorem dX3_replaceHose_21 : decode cX3_replaceHose 21 = .ok (.aload_n 0, 1) := by decide +kernel
theorem dX3_replaceHose_22 : decode cX3_replaceHose 22 = .ok (.getfield 28, 3) := by decide +kernel
theorem dX3_replaceHose_25 : decode cX3_replaceHose 25 = .ok (.iload_n 1, 1) := by decide +kernel
theorem dX3_replaceHose_26 : decode cX3_replaceHose 26 = .ok (.iaload, 1) := by decide +kernel
theorem dX3_replaceHose_27 : decode cX3_replaceHose 27 = .ok (.aload_n 0, 1) := by decide +kernel
theorem dX3_replaceHose_28 : decode cX3_replaceHose 28 = .ok (.getfield 31, 3) := by decide +kernel
theorem dX3_replaceHose_31 : decode cX3_replaceHose 31 = .ok (.iload_n 1, 1) := by decide +kernel
theorem dX3_replaceHose_32 : decode cX3_replaceHose 32 = .ok (.iaload, 1) := by decide +kernel
theorem dX3_replaceHose_33 : decode cX3_replaceHose 33 = .ok (.iload_n 2, 1) := by decide +kernel
theorem dX3_replaceHose_34 : decode cX3_replaceHose 34 = .ok (.invokevirtual 105, 3) := by decide +kernel
theorem dX3_replaceHose_37 : decode cX3_replaceHose 37 = .ok (.ireturn, 1) := by decide +kernel
theorem dX3_lendOut_0 : decode cX3_lendOut 0 = .ok (.aload_n 0, 1) := by decide +kernel
theorem dX3_lendOut_1 : decode cX3_lendOut 1 = .ok (.getfield 43, 3) := by decide +kernel
theorem dX3_lendOut_4 : decode cX3_lendOut 4 = .ok (.iload_n 1, 1) := by decide +kernel
theorem dX3_lendOut_5 : decode cX3_lendOut 5 = .ok (.iconst 4, 1) := by decide +kernel
theorem dX3_lendOut_6 : decode cX3_lendOut 6 = .ok (.iastore, 1) := by decide +kernel
theorem dX3_lendOut_7 : decode cX3_lendOut 7 = .ok (.aload_n 0, 1) := by decide +kernel
theorem dX3_lendOut_8 : decode cX3_lendOut 8 = .ok (.getfield 46, 3) := by decide +kernel
theorem dX3_lendOut_11 : decode cX3_lendOut 11 = .ok (.iload_n 1, 1) := by decide +kernel
theorem dX3_lendOut_12 : decode cX3_lendOut 12 = .ok (.aload_n 0, 1) := by decide +kernel
theorem dX3_lendOut_13 : decode cX3_lendOut 13 = .ok (.getfield 9, 3) := by decide +kernel
theorem dX3_lendOut_16 : decode cX3_lendOut 16 = .ok (.iload_n 2, 1) := by decide +kernel
theorem dX3_lendOut_17 : decode cX3_lendOut 17 = .ok (.iadd, 1) := by decide +kernel
theorem dX3_lendOut_18 : decode cX3_lendOut 18 = .ok (.iastore, 1) := by decide +kernel
theorem dX3_lendOut_19 : decode cX3_lendOut 19 = .ok (.aload_n 0, 1) := by decide +kernel
theorem dX3_lendOut_20 : decode cX3_lendOut 20 = .ok (.getfield 46, 3) := by decide +kernel
theorem dX3_lendOut_23 : decode cX3_lendOut 23 = .ok (.iload_n 1, 1) := by decide +kernel
theorem dX3_lendOut_24 : decode cX3_lendOut 24 = .ok (.iaload, 1) := by decide +kernel
theorem dX3_lendOut_25 : decode cX3_lendOut 25 = .ok (.ireturn, 1) := by decide +kernel
theorem dX3_stepsUpTo_0 : decode cX3_stepsUpTo 0 = .ok (.iload_n 0, 1) := by decide +kernel
theorem dX3_stepsUpTo_1 : decode cX3_stepsUpTo 1 = .ok (.iconst 4, 1) := by decide +kernel
theorem dX3_stepsUpTo_2 : decode cX3_stepsUpTo 2 = .ok (.iadd, 1) := by decide +kernel
theorem dX3_stepsUpTo_3 : decode cX3_stepsUpTo 3 = .ok (.iconst 1, 1) := by decide +kernel
theorem dX3_stepsUpTo_4 : decode cX3_stepsUpTo 4 = .ok (.isub, 1) := by decide +kernel
theorem dX3_stepsUpTo_5 : decode cX3_stepsUpTo 5 = .ok (.iconst 4, 1) := by decide +kernel
theorem dX3_stepsUpTo_6 : decode cX3_stepsUpTo 6 = .ok (.idiv, 1) := by decide +kernel
theorem dX3_stepsUpTo_7 : decode cX3_stepsUpTo 7 = .ok (.ireturn, 1) := by decide +kernel
theorem dX3_stepsHeld_0 : decode cX3_stepsHeld 0 = .ok (.iload_n 2, 1) := by decide +kernel
theorem dX3_stepsHeld_1 : decode cX3_stepsHeld 1 = .ok (.invokestatic 109, 3) := by decide +kernel
theorem dX3_stepsHeld_4 : decode cX3_stepsHeld 4 = .ok (.istore_n 3, 1) := by decide +kernel
theorem dX3_stepsHeld_5 : decode cX3_stepsHeld 5 = .ok (.aload_n 0, 1) := by decide +kernel
theorem dX3_stepsHeld_6 : decode cX3_stepsHeld 6 = .ok (.getfield 37, 3) := by decide +kernel
theorem dX3_stepsHeld_9 : decode cX3_stepsHeld 9 = .ok (.iload_n 1, 1) := by decide +kernel
theorem dX3_stepsHeld_10 : decode cX3_stepsHeld 10 = .ok (.iaload, 1) := by decide +kernel
theorem dX3_stepsHeld_11 : decode cX3_stepsHeld 11 = .ok (.istore 4, 2) := by decide +kernel
theorem dX3_stepsHeld_13 : decode cX3_stepsHeld 13 = .ok (.iconst 0, 1) := by decide +kernel
theorem dX3_stepsHeld_14 : decode cX3_stepsHeld 14 = .ok (.istore 5, 2) := by decide +kernel
theorem dX3_stepsHeld_16 : decode cX3_stepsHeld 16 = .ok (.iload 5, 2) := by decide +kernel
theorem dX3_stepsHeld_18 : decode cX3_stepsHeld 18 = .ok (.iload_n 3, 1) := by decide +kernel
theorem dX3_stepsHeld_19 : decode cX3_stepsHeld 19 = .ok (.if_icmp .ge 47, 3) := by decide +kernel
theorem dX3_stepsHeld_22 : decode cX3_stepsHeld 22 = .ok (.iconst 4, 1) := by decide +kernel
theorem dX3_stepsHeld_23 : decode cX3_stepsHeld 23 = .ok (.iload 5, 2) := by decide +kernel
theorem dX3_stepsHeld_25 : decode cX3_stepsHeld 25 = .ok (.iconst 1, 1) := by decide +kernel
theorem dX3_stepsHeld_26 : decode cX3_stepsHeld 26 = .ok (.iadd, 1) := by decide +kernel
theorem dX3_stepsHeld_27 : decode cX3_stepsHeld 27 = .ok (.imul, 1) := by decide +kernel
theorem dX3_stepsHeld_28 : decode cX3_stepsHeld 28 = .ok (.iload_n 2, 1) := by decide +kernel
theorem dX3_stepsHeld_29 : decode cX3_stepsHeld 29 = .ok (.invokestatic 112, 3) := by decide +kernel
theorem dX3_stepsHeld_32 : decode cX3_stepsHeld 32 = .ok (.istore 6, 2) := by decide +kernel
theorem dX3_stepsHeld_34 : decode cX3_stepsHeld 34 = .ok (.aload_n 0, 1) := by decide +kernel
theorem dX3_stepsHeld_35 : decode cX3_stepsHeld 35 = .ok (.iload_n 1, 1) := by decide +kernel
theorem dX3_stepsHeld_36 : decode cX3_stepsHeld 36 = .ok (.iload 4, 2) := by decide +kernel
theorem dX3_stepsHeld_38 : decode cX3_stepsHeld 38 = .ok (.invokevirtual 117, 3) := by decide +kernel
theorem dX3_stepsHeld_41 : decode cX3_stepsHeld 41 = .ok (.iload 6, 2) := by decide +kernel
theorem dX3_stepsHeld_43 : decode cX3_stepsHeld 43 = .ok (.if_icmp .ge 6, 3) := by decide +kernel
theorem dX3_stepsHeld_46 : decode cX3_stepsHeld 46 = .ok (.iload 5, 2) := by decide +kernel
theorem dX3_stepsHeld_48 : decode cX3_stepsHeld 48 = .ok (.ireturn, 1) := by decide +kernel
theorem dX3_stepsHeld_49 : decode cX3_stepsHeld 49 = .ok (.bipush 99, 2) := by decide +kernel
theorem dX3_stepsHeld_51 : decode cX3_stepsHeld 51 = .ok (.iload 4, 2) := by decide +kernel
theorem dX3_stepsHeld_53 : decode cX3_stepsHeld 53 = .ok (.iconst 1, 1) := by decide +kernel
theorem dX3_stepsHeld_54 : decode cX3_stepsHeld 54 = .ok (.iadd, 1) := by decide +kernel
theorem dX3_stepsHeld_55 : decode cX3_stepsHeld 55 = .ok (.invokestatic 112, 3) := by decide +kernel
theorem dX3_stepsHeld_58 : decode cX3_stepsHeld 58 = .ok (.istore 4, 2) := by decide +kernel
theorem dX3_stepsHeld_60 : decode cX3_stepsHeld 60 = .ok (.iinc 5 1, 3) := by decide +kernel
theorem dX3_stepsHeld_63 : decode cX3_stepsHeld 63 = .ok (.goto (-47), 3) := by decide +kernel
theorem dX3_stepsHeld_66 : decode cX3_stepsHeld 66 = .ok (.iload_n 3, 1) := by decide +kernel
theorem dX3_stepsHeld_67 : decode cX3_stepsHeld 67 = .ok (.ireturn, 1) := by decide +kernel
theorem dX3_outcomeOf_0 : decode cX3_outcomeOf 0 = .ok (.aload_n 0, 1) := by decide +kernel
theorem dX3_outcomeOf_1 : decode cX3_outcomeOf 1 = .ok (.iload_n 1, 1) := by decide +kernel
theorem dX3_outcomeOf_2 : decode cX3_outcomeOf 2 = .ok (.iload_n 2, 1) := by decide +kernel
theorem dX3_outcomeOf_3 : decode cX3_outcomeOf 3 = .ok (.invokevirtual 120, 3) := by decide +kernel
theorem dX3_outcomeOf_6 : decode cX3_outcomeOf 6 = .ok (.istore_n 3, 1) := by decide +kernel
theorem dX3_outcomeOf_7 : decode cX3_outcomeOf 7 = .ok (.iload_n 3, 1) := by decide +kernel
theorem dX3_outcomeOf_8 : decode cX3_outcomeOf 8 = .ok (.iload_n 2, 1) := by decide +kernel
theorem dX3_outcomeOf_9 : decode cX3_outcomeOf 9 = .ok (.invokestatic 109, 3) := by decide +kernel
theorem dX3_outcomeOf_12 : decode cX3_outcomeOf 12 = .ok (.if_icmp .ge 10, 3) := by decide +kernel
theorem dX3_outcomeOf_15 : decode cX3_outcomeOf 15 = .ok (.iload_n 3, 1) := by decide +kernel
theorem dX3_outcomeOf_16 : decode cX3_outcomeOf 16 = .ok (.bipush 100, 2) := by decide +kernel
theorem dX3_outcomeOf_18 : decode cX3_outcomeOf 18 = .ok (.iadd, 1) := by decide +kernel
theorem dX3_outcomeOf_19 : decode cX3_outcomeOf 19 = .ok (.goto 4, 3) := by decide +kernel
theorem dX3_outcomeOf_22 : decode cX3_outcomeOf 22 = .ok (.iload_n 3, 1) := by decide +kernel
theorem dX3_outcomeOf_23 : decode cX3_outcomeOf 23 = .ok (.ireturn, 1) := by decide +kernel
theorem dX3_runTest_0 : decode cX3_runTest 0 = .ok (.aload_n 0, 1) := by decide +kernel
theorem dX3_runTest_1 : decode cX3_runTest 1 = .ok (.iload_n 1, 1) := by decide +kernel
theorem dX3_runTest_2 : decode cX3_runTest 2 = .ok (.iload_n 2, 1) := by decide +kernel
theorem dX3_runTest_3 : decode cX3_runTest 3 = .ok (.invokevirtual 123, 3) := by decide +kernel
theorem dX3_runTest_6 : decode cX3_runTest 6 = .ok (.istore_n 3, 1) := by decide +kernel
theorem dX3_runTest_7 : decode cX3_runTest 7 = .ok (.iload_n 3, 1) := by decide +kernel
theorem dX3_runTest_8 : decode cX3_runTest 8 = .ok (.bipush 100, 2) := by decide +kernel
theorem dX3_runTest_10 : decode cX3_runTest 10 = .ok (.if_icmp .lt 7, 3) := by decide +kernel
theorem dX3_runTest_13 : decode cX3_runTest 13 = .ok (.iconst 1, 1) := by decide +kernel
theorem dX3_runTest_14 : decode cX3_runTest 14 = .ok (.goto 4, 3) := by decide +kernel
theorem dX3_runTest_17 : decode cX3_runTest 17 = .ok (.iconst 0, 1) := by decide +kernel
theorem dX3_runTest_18 : decode cX3_runTest 18 = .ok (.istore 4, 2) := by decide +kernel
theorem dX3_runTest_20 : decode cX3_runTest 20 = .ok (.aload_n 0, 1) := by decide +kernel
theorem dX3_runTest_21 : decode cX3_runTest 21 = .ok (.getfield 37, 3) := by decide +kernel
theorem dX3_runTest_24 : decode cX3_runTest 24 = .ok (.iload_n 1, 1) := by decide +kernel
theorem dX3_runTest_25 : decode cX3_runTest 25 = .ok (.bipush 99, 2) := by decide +kernel
theorem dX3_runTest_27 : decode cX3_runTest 27 = .ok (.aload_n 0, 1) := by decide +kernel
theorem dX3_runTest_28 : decode cX3_runTest 28 = .ok (.getfield 37, 3) := by decide +kernel
theorem dX3_runTest_31 : decode cX3_runTest 31 = .ok (.iload_n 1, 1) := by decide +kernel
theorem dX3_runTest_32 : decode cX3_runTest 32 = .ok (.iaload, 1) := by decide +kernel
theorem dX3_runTest_33 : decode cX3_runTest 33 = .ok (.iload 4, 2) := by decide +kernel
theorem dX3_runTest_35 : decode cX3_runTest 35 = .ok (.ifCond .eq 10, 3) := by decide +kernel
theorem dX3_runTest_38 : decode cX3_runTest 38 = .ok (.iload_n 3, 1) := by decide +kernel
theorem dX3_runTest_39 : decode cX3_runTest 39 = .ok (.bipush 100, 2) := by decide +kernel
theorem dX3_runTest_41 : decode cX3_runTest 41 = .ok (.isub, 1) := by decide +kernel
theorem dX3_runTest_42 : decode cX3_runTest 42 = .ok (.goto 4, 3) := by decide +kernel
theorem dX3_runTest_45 : decode cX3_runTest 45 = .ok (.iload_n 3, 1) := by decide +kernel
theorem dX3_runTest_46 : decode cX3_runTest 46 = .ok (.iadd, 1) := by decide +kernel
theorem dX3_runTest_47 : decode cX3_runTest 47 = .ok (.invokestatic 112, 3) := by decide +kernel
theorem dX3_runTest_50 : decode cX3_runTest 50 = .ok (.iastore, 1) := by decide +kernel
theorem dX3_runTest_51 : decode cX3_runTest 51 = .ok (.aload_n 0, 1) := by decide +kernel
theorem dX3_runTest_52 : decode cX3_runTest 52 = .ok (.dup, 1) := by decide +kernel
theorem dX3_runTest_53 : decode cX3_runTest 53 = .ok (.getfield 59, 3) := by decide +kernel
theorem dX3_runTest_56 : decode cX3_runTest 56 = .ok (.iconst 1, 1) := by decide +kernel
theorem dX3_runTest_57 : decode cX3_runTest 57 = .ok (.iadd, 1) := by decide +kernel
theorem dX3_runTest_58 : decode cX3_runTest 58 = .ok (.putfield 59, 3) := by decide +kernel
theorem dX3_runTest_61 : decode cX3_runTest 61 = .ok (.iload 4, 2) := by decide +kernel
theorem dX3_runTest_63 : decode cX3_runTest 63 = .ok (.ifCond .eq 23, 3) := by decide +kernel
theorem dX3_runTest_66 : decode cX3_runTest 66 = .ok (.aload_n 0, 1) := by decide +kernel
theorem dX3_runTest_67 : decode cX3_runTest 67 = .ok (.dup, 1) := by decide +kernel
theorem dX3_runTest_68 : decode cX3_runTest 68 = .ok (.getfield 62, 3) := by decide +kernel
theorem dX3_runTest_71 : decode cX3_runTest 71 = .ok (.iconst 1, 1) := by decide +kernel
theorem dX3_runTest_72 : decode cX3_runTest 72 = .ok (.iadd, 1) := by decide +kernel
theorem dX3_runTest_73 : decode cX3_runTest 73 = .ok (.putfield 62, 3) := by decide +kernel
theorem dX3_runTest_76 : decode cX3_runTest 76 = .ok (.aload_n 0, 1) := by decide +kernel
theorem dX3_runTest_77 : decode cX3_runTest 77 = .ok (.getfield 43, 3) := by decide +kernel
theorem dX3_runTest_80 : decode cX3_runTest 80 = .ok (.iload_n 1, 1) := by decide +kernel
theorem dX3_runTest_81 : decode cX3_runTest 81 = .ok (.iconst (-1), 1) := by decide +kernel
theorem dX3_runTest_82 : decode cX3_runTest 82 = .ok (.iastore, 1) := by decide +kernel
theorem dX3_runTest_83 : decode cX3_runTest 83 = .ok (.goto 33, 3) := by decide +kernel
theorem dX3_runTest_86 : decode cX3_runTest 86 = .ok (.iload_n 2, 1) := by decide +kernel
theorem dX3_runTest_87 : decode cX3_runTest 87 = .ok (.aload_n 0, 1) := by decide +kernel
theorem dX3_runTest_88 : decode cX3_runTest 88 = .ok (.getfield 22, 3) := by decide +kernel
theorem dX3_runTest_91 : decode cX3_runTest 91 = .ok (.iconst 0, 1) := by decide +kernel
theorem dX3_runTest_92 : decode cX3_runTest 92 = .ok (.iaload, 1) := by decide +kernel
theorem dX3_runTest_93 : decode cX3_runTest 93 = .ok (.if_icmp .lt 23, 3) := by decide +kernel
theorem dX3_runTest_96 : decode cX3_runTest 96 = .ok (.aload_n 0, 1) := by decide +kernel
theorem dX3_runTest_97 : decode cX3_runTest 97 = .ok (.getfield 40, 3) := by decide +kernel
theorem dX3_runTest_100 : decode cX3_runTest 100 = .ok (.iload_n 1, 1) := by decide +kernel
theorem dX3_runTest_101 : decode cX3_runTest 101 = .ok (.aload_n 0, 1) := by decide +kernel
theorem dX3_runTest_102 : decode cX3_runTest 102 = .ok (.getfield 9, 3) := by decide +kernel
theorem dX3_runTest_105 : decode cX3_runTest 105 = .ok (.aload_n 0, 1) := by decide +kernel
theorem dX3_runTest_106 : decode cX3_runTest 106 = .ok (.getfield 25, 3) := by decide +kernel
theorem dX3_runTest_109 : decode cX3_runTest 109 = .ok (.iload_n 1, 1) := by decide +kernel
theorem dX3_runTest_110 : decode cX3_runTest 110 = .ok (.iaload, 1) := by decide +kernel
theorem dX3_runTest_111 : decode cX3_runTest 111 = .ok (.invokestatic 126, 3) := by decide +kernel
theorem dX3_runTest_114 : decode cX3_runTest 114 = .ok (.iadd, 1) := by decide +kernel
theorem dX3_runTest_115 : decode cX3_runTest 115 = .ok (.iastore, 1) := by decide +kernel
theorem dX3_runTest_116 : decode cX3_runTest 116 = .ok (.iload_n 3, 1) := by decide +kernel
theorem dX3_runTest_117 : decode cX3_runTest 117 = .ok (.ireturn, 1) := by decide +kernel
theorem dX3_greatestSafePressure_0 : decode cX3_greatestSafePressure 0 = .ok (.bipush 24, 2) := by decide +kernel
theorem dX3_greatestSafePressure_2 : decode cX3_greatestSafePressure 2 = .ok (.istore_n 2, 1) := by decide +kernel
theorem dX3_greatestSafePressure_3 : decode cX3_greatestSafePressure 3 = .ok (.iload_n 2, 1) := by decide +kernel
theorem dX3_greatestSafePressure_4 : decode cX3_greatestSafePressure 4 = .ok (.iconst 4, 1) := by decide +kernel
theorem dX3_greatestSafePressure_5 : decode cX3_greatestSafePressure 5 = .ok (.if_icmp .lt 24, 3) := by decide +kernel
theorem dX3_greatestSafePressure_8 : decode cX3_greatestSafePressure 8 = .ok (.aload_n 0, 1) := by decide +kernel
theorem dX3_greatestSafePressure_9 : decode cX3_greatestSafePressure 9 = .ok (.iload_n 1, 1) := by decide +kernel
theorem dX3_greatestSafePressure_10 : decode cX3_greatestSafePressure 10 = .ok (.iload_n 2, 1) := by decide +kernel
theorem dX3_greatestSafePressure_11 : decode cX3_greatestSafePressure 11 = .ok (.invokevirtual 120, 3) := by decide +kernel
theorem dX3_greatestSafePressure_14 : decode cX3_greatestSafePressure 14 = .ok (.iload_n 2, 1) := by decide +kernel
theorem dX3_greatestSafePressure_15 : decode cX3_greatestSafePressure 15 = .ok (.invokestatic 109, 3) := by decide +kernel
theorem dX3_greatestSafePressure_18 : decode cX3_greatestSafePressure 18 = .ok (.if_icmp .ne 5, 3) := by decide +kernel
theorem dX3_greatestSafePressure_21 : decode cX3_greatestSafePressure 21 = .ok (.iload_n 2, 1) := by decide +kernel
theorem dX3_greatestSafePressure_22 : decode cX3_greatestSafePressure 22 = .ok (.ireturn, 1) := by decide +kernel
theorem dX3_greatestSafePressure_23 : decode cX3_greatestSafePressure 23 = .ok (.iinc 2 (-1), 3) := by decide +kernel
theorem dX3_greatestSafePressure_26 : decode cX3_greatestSafePressure 26 = .ok (.goto (-23), 3) := by decide +kernel
theorem dX3_greatestSafePressure_29 : decode cX3_greatestSafePressure 29 = .ok (.iconst (-1), 1) := by decide +kernel
theorem dX3_greatestSafePressure_30 : decode cX3_greatestSafePressure 30 = .ok (.ireturn, 1) := by decide +kernel
theorem dX3_passDay_0 : decode cX3_passDay 0 = .ok (.aload_n 0, 1) := by decide +kernel
theorem dX3_passDay_1 : decode cX3_passDay 1 = .ok (.dup, 1) := by decide +kernel
theorem dX3_passDay_2 : decode cX3_passDay 2 = .ok (.getfield 9, 3) := by decide +kernel
theorem dX3_passDay_5 : decode cX3_passDay 5 = .ok (.iconst 1, 1) := by decide +kernel
theorem dX3_passDay_6 : decode cX3_passDay 6 = .ok (.iadd, 1) := by decide +kernel
theorem dX3_passDay_7 : decode cX3_passDay 7 = .ok (.putfield 9, 3) := by decide +kernel
theorem dX3_passDay_10 : decode cX3_passDay 10 = .ok (.aload_n 0, 1) := by decide +kernel
theorem dX3_passDay_11 : decode cX3_passDay 11 = .ok (.invokevirtual 129, 3) := by decide +kernel
theorem dX3_passDay_14 : decode cX3_passDay 14 = .ok (.aload_n 0, 1) := by decide +kernel
theorem dX3_passDay_15 : decode cX3_passDay 15 = .ok (.getfield 9, 3) := by decide +kernel
theorem dX3_passDay_18 : decode cX3_passDay 18 = .ok (.bipush 10, 2) := by decide +kernel
theorem dX3_passDay_20 : decode cX3_passDay 20 = .ok (.irem, 1) := by decide +kernel
theorem dX3_passDay_21 : decode cX3_passDay 21 = .ok (.ifCond .ne 7, 3) := by decide +kernel
theorem dX3_passDay_24 : decode cX3_passDay 24 = .ok (.aload_n 0, 1) := by decide +kernel
theorem dX3_passDay_25 : decode cX3_passDay 25 = .ok (.invokevirtual 132, 3) := by decide +kernel
theorem dX3_passDay_28 : decode cX3_passDay 28 = .ok (.aload_n 0, 1) := by decide +kernel
theorem dX3_passDay_29 : decode cX3_passDay 29 = .ok (.getfield 9, 3) := by decide +kernel
theorem dX3_passDay_32 : decode cX3_passDay 32 = .ok (.bipush 30, 2) := by decide +kernel
theorem dX3_passDay_34 : decode cX3_passDay 34 = .ok (.irem, 1) := by decide +kernel
theorem dX3_passDay_35 : decode cX3_passDay 35 = .ok (.ifCond .ne 24, 3) := by decide +kernel
theorem dX3_passDay_38 : decode cX3_passDay 38 = .ok (.aload_n 0, 1) := by decide +kernel
theorem dX3_passDay_39 : decode cX3_passDay 39 = .ok (.sipush 9999, 3) := by decide +kernel
theorem dX3_passDay_42 : decode cX3_passDay 42 = .ok (.aload_n 0, 1) := by decide +kernel
theorem dX3_passDay_43 : decode cX3_passDay 43 = .ok (.getfield 15, 3) := by decide +kernel
theorem dX3_passDay_46 : decode cX3_passDay 46 = .ok (.aload_n 0, 1) := by decide +kernel
theorem dX3_passDay_47 : decode cX3_passDay 47 = .ok (.getfield 22, 3) := by decide +kernel
theorem dX3_passDay_50 : decode cX3_passDay 50 = .ok (.iconst 2, 1) := by decide +kernel
theorem dX3_passDay_51 : decode cX3_passDay 51 = .ok (.iaload, 1) := by decide +kernel
theorem dX3_passDay_52 : decode cX3_passDay 52 = .ok (.iadd, 1) := by decide +kernel
theorem dX3_passDay_53 : decode cX3_passDay 53 = .ok (.invokestatic 112, 3) := by decide +kernel
theorem dX3_passDay_56 : decode cX3_passDay 56 = .ok (.putfield 15, 3) := by decide +kernel
theorem dX3_passDay_59 : decode cX3_passDay 59 = .ok (.return_, 1) := by decide +kernel
theorem dX3_takeBackLent_0 : decode cX3_takeBackLent 0 = .ok (.iconst 0, 1) := by decide +kernel
theorem dX3_takeBackLent_1 : decode cX3_takeBackLent 1 = .ok (.istore_n 1, 1) := by decide +kernel
theorem dX3_takeBackLent_2 : decode cX3_takeBackLent 2 = .ok (.iload_n 1, 1) := by decide +kernel
theorem dX3_takeBackLent_3 : decode cX3_takeBackLent 3 = .ok (.aload_n 0, 1) := by decide +kernel
theorem dX3_takeBackLent_4 : decode cX3_takeBackLent 4 = .ok (.getfield 56, 3) := by decide +kernel
theorem dX3_takeBackLent_7 : decode cX3_takeBackLent 7 = .ok (.if_icmp .ge 44, 3) := by decide +kernel
theorem dX3_takeBackLent_10 : decode cX3_takeBackLent 10 = .ok (.aload_n 0, 1) := by decide +kernel
theorem dX3_takeBackLent_11 : decode cX3_takeBackLent 11 = .ok (.iload_n 1, 1) := by decide +kernel
theorem dX3_takeBackLent_12 : decode cX3_takeBackLent 12 = .ok (.invokevirtual 86, 3) := by decide +kernel
theorem dX3_takeBackLent_15 : decode cX3_takeBackLent 15 = .ok (.ifCond .eq 30, 3) := by decide +kernel
theorem dX3_takeBackLent_18 : decode cX3_takeBackLent 18 = .ok (.aload_n 0, 1) := by decide +kernel
theorem dX3_takeBackLent_19 : decode cX3_takeBackLent 19 = .ok (.getfield 46, 3) := by decide +kernel
theorem dX3_takeBackLent_22 : decode cX3_takeBackLent 22 = .ok (.iload_n 1, 1) := by decide +kernel
theorem dX3_takeBackLent_23 : decode cX3_takeBackLent 23 = .ok (.iaload, 1) := by decide +kernel
theorem dX3_takeBackLent_24 : decode cX3_takeBackLent 24 = .ok (.aload_n 0, 1) := by decide +kernel
theorem dX3_takeBackLent_25 : decode cX3_takeBackLent 25 = .ok (.getfield 9, 3) := by decide +kernel
theorem dX3_takeBackLent_28 : decode cX3_takeBackLent 28 = .ok (.if_icmp .ne 17, 3) := by decide +kernel
theorem dX3_takeBackLent_31 : decode cX3_takeBackLent 31 = .ok (.aload_n 0, 1) := by decide +kernel
theorem dX3_takeBackLent_32 : decode cX3_takeBackLent 32 = .ok (.getfield 43, 3) := by decide +kernel
theorem dX3_takeBackLent_35 : decode cX3_takeBackLent 35 = .ok (.iload_n 1, 1) := by decide +kernel
theorem dX3_takeBackLent_36 : decode cX3_takeBackLent 36 = .ok (.iconst 3, 1) := by decide +kernel
theorem dX3_takeBackLent_37 : decode cX3_takeBackLent 37 = .ok (.iastore, 1) := by decide +kernel
theorem dX3_takeBackLent_38 : decode cX3_takeBackLent 38 = .ok (.aload_n 0, 1) := by decide +kernel
theorem dX3_takeBackLent_39 : decode cX3_takeBackLent 39 = .ok (.getfield 46, 3) := by decide +kernel
theorem dX3_takeBackLent_42 : decode cX3_takeBackLent 42 = .ok (.iload_n 1, 1) := by decide +kernel
theorem dX3_takeBackLent_43 : decode cX3_takeBackLent 43 = .ok (.iconst (-1), 1) := by decide +kernel
theorem dX3_takeBackLent_44 : decode cX3_takeBackLent 44 = .ok (.iastore, 1) := by decide +kernel
theorem dX3_takeBackLent_45 : decode cX3_takeBackLent 45 = .ok (.iinc 1 1, 3) := by decide +kernel
theorem dX3_takeBackLent_48 : decode cX3_takeBackLent 48 = .ok (.goto (-46), 3) := by decide +kernel
theorem dX3_takeBackLent_51 : decode cX3_takeBackLent 51 = .ok (.return_, 1) := by decide +kernel
theorem dX3_wearOnTrucks_0 : decode cX3_wearOnTrucks 0 = .ok (.iconst 0, 1) := by decide +kernel
theorem dX3_wearOnTrucks_1 : decode cX3_wearOnTrucks 1 = .ok (.istore_n 1, 1) := by decide +kernel
theorem dX3_wearOnTrucks_2 : decode cX3_wearOnTrucks 2 = .ok (.iload_n 1, 1) := by decide +kernel
theorem dX3_wearOnTrucks_3 : decode cX3_wearOnTrucks 3 = .ok (.aload_n 0, 1) := by decide +kernel
theorem dX3_wearOnTrucks_4 : decode cX3_wearOnTrucks 4 = .ok (.getfield 56, 3) := by decide +kernel
theorem dX3_wearOnTrucks_7 : decode cX3_wearOnTrucks 7 = .ok (.if_icmp .ge 44, 3) := by decide +kernel
theorem dX3_wearOnTrucks_10 : decode cX3_wearOnTrucks 10 = .ok (.aload_n 0, 1) := by decide +kernel
theorem dX3_wearOnTrucks_11 : decode cX3_wearOnTrucks 11 = .ok (.iload_n 1, 1) := by decide +kernel
theorem dX3_wearOnTrucks_12 : decode cX3_wearOnTrucks 12 = .ok (.invokevirtual 135, 3) := by decide +kernel
theorem dX3_wearOnTrucks_15 : decode cX3_wearOnTrucks 15 = .ok (.ifCond .eq 30, 3) := by decide +kernel
theorem dX3_wearOnTrucks_18 : decode cX3_wearOnTrucks 18 = .ok (.aload_n 0, 1) := by decide +kernel
theorem dX3_wearOnTrucks_19 : decode cX3_wearOnTrucks 19 = .ok (.iload_n 1, 1) := by decide +kernel
theorem dX3_wearOnTrucks_20 : decode cX3_wearOnTrucks 20 = .ok (.invokevirtual 138, 3) := by decide +kernel
theorem dX3_wearOnTrucks_23 : decode cX3_wearOnTrucks 23 = .ok (.ifCond .eq 22, 3) := by decide +kernel
theorem dX3_wearOnTrucks_26 : decode cX3_wearOnTrucks 26 = .ok (.aload_n 0, 1) := by decide +kernel
theorem dX3_wearOnTrucks_27 : decode cX3_wearOnTrucks 27 = .ok (.getfield 37, 3) := by decide +kernel
theorem dX3_wearOnTrucks_30 : decode cX3_wearOnTrucks 30 = .ok (.iload_n 1, 1) := by decide +kernel
theorem dX3_wearOnTrucks_31 : decode cX3_wearOnTrucks 31 = .ok (.bipush 99, 2) := by decide +kernel
theorem dX3_wearOnTrucks_33 : decode cX3_wearOnTrucks 33 = .ok (.aload_n 0, 1) := by decide +kernel
theorem dX3_wearOnTrucks_34 : decode cX3_wearOnTrucks 34 = .ok (.getfield 37, 3) := by decide +kernel
theorem dX3_wearOnTrucks_37 : decode cX3_wearOnTrucks 37 = .ok (.iload_n 1, 1) := by decide +kernel
theorem dX3_wearOnTrucks_38 : decode cX3_wearOnTrucks 38 = .ok (.iaload, 1) := by decide +kernel
theorem dX3_wearOnTrucks_39 : decode cX3_wearOnTrucks 39 = .ok (.iconst 1, 1) := by decide +kernel
theorem dX3_wearOnTrucks_40 : decode cX3_wearOnTrucks 40 = .ok (.iadd, 1) := by decide +kernel
theorem dX3_wearOnTrucks_41 : decode cX3_wearOnTrucks 41 = .ok (.invokestatic 112, 3) := by decide +kernel
theorem dX3_wearOnTrucks_44 : decode cX3_wearOnTrucks 44 = .ok (.iastore, 1) := by decide +kernel
theorem dX3_wearOnTrucks_45 : decode cX3_wearOnTrucks 45 = .ok (.iinc 1 1, 3) := by decide +kernel
theorem dX3_wearOnTrucks_48 : decode cX3_wearOnTrucks 48 = .ok (.goto (-46), 3) := by decide +kernel
theorem dX3_wearOnTrucks_51 : decode cX3_wearOnTrucks 51 = .ok (.return_, 1) := by decide +kernel
theorem dX3_hosesAt_0 : decode cX3_hosesAt 0 = .ok (.iconst 0, 1) := by decide +kernel
theorem dX3_hosesAt_1 : decode cX3_hosesAt 1 = .ok (.istore_n 2, 1) := by decide +kernel
theorem dX3_hosesAt_2 : decode cX3_hosesAt 2 = .ok (.iconst 0, 1) := by decide +kernel
theorem dX3_hosesAt_3 : decode cX3_hosesAt 3 = .ok (.istore_n 3, 1) := by decide +kernel
theorem dX3_hosesAt_4 : decode cX3_hosesAt 4 = .ok (.iload_n 3, 1) := by decide +kernel
theorem dX3_hosesAt_5 : decode cX3_hosesAt 5 = .ok (.aload_n 0, 1) := by decide +kernel
theorem dX3_hosesAt_6 : decode cX3_hosesAt 6 = .ok (.getfield 56, 3) := by decide +kernel
theorem dX3_hosesAt_9 : decode cX3_hosesAt 9 = .ok (.if_icmp .ge 22, 3) := by decide +kernel
theorem dX3_hosesAt_12 : decode cX3_hosesAt 12 = .ok (.aload_n 0, 1) := by decide +kernel
theorem dX3_hosesAt_13 : decode cX3_hosesAt 13 = .ok (.getfield 43, 3) := by decide +kernel
theorem dX3_hosesAt_16 : decode cX3_hosesAt 16 = .ok (.iload_n 3, 1) := by decide +kernel
theorem dX3_hosesAt_17 : decode cX3_hosesAt 17 = .ok (.iaload, 1) := by decide +kernel
theorem dX3_hosesAt_18 : decode cX3_hosesAt 18 = .ok (.iload_n 1, 1) := by decide +kernel
theorem dX3_hosesAt_19 : decode cX3_hosesAt 19 = .ok (.if_icmp .ne 6, 3) := by decide +kernel
theorem dX3_hosesAt_22 : decode cX3_hosesAt 22 = .ok (.iinc 2 1, 3) := by decide +kernel
theorem dX3_hosesAt_25 : decode cX3_hosesAt 25 = .ok (.iinc 3 1, 3) := by decide +kernel
theorem dX3_hosesAt_28 : decode cX3_hosesAt 28 = .ok (.goto (-24), 3) := by decide +kernel
theorem dX3_hosesAt_31 : decode cX3_hosesAt 31 = .ok (.iload_n 2, 1) := by decide +kernel
theorem dX3_hosesAt_32 : decode cX3_hosesAt 32 = .ok (.ireturn, 1) := by decide +kernel
theorem dX3_readyHosesAt_0 : decode cX3_readyHosesAt 0 = .ok (.iconst 0, 1) := by decide +kernel
theorem dX3_readyHosesAt_1 : decode cX3_readyHosesAt 1 = .ok (.istore_n 2, 1) := by decide +kernel
theorem dX3_readyHosesAt_2 : decode cX3_readyHosesAt 2 = .ok (.iconst 0, 1) := by decide +kernel
theorem dX3_readyHosesAt_3 : decode cX3_readyHosesAt 3 = .ok (.istore_n 3, 1) := by decide +kernel
theorem dX3_readyHosesAt_4 : decode cX3_readyHosesAt 4 = .ok (.iload_n 3, 1) := by decide +kernel
theorem dX3_readyHosesAt_5 : decode cX3_readyHosesAt 5 = .ok (.aload_n 0, 1) := by decide +kernel
theorem dX3_readyHosesAt_6 : decode cX3_readyHosesAt 6 = .ok (.getfield 56, 3) := by decide +kernel
theorem dX3_readyHosesAt_9 : decode cX3_readyHosesAt 9 = .ok (.if_icmp .ge 30, 3) := by decide +kernel
theorem dX3_readyHosesAt_12 : decode cX3_readyHosesAt 12 = .ok (.aload_n 0, 1) := by decide +kernel
theorem dX3_readyHosesAt_13 : decode cX3_readyHosesAt 13 = .ok (.getfield 43, 3) := by decide +kernel
theorem dX3_readyHosesAt_16 : decode cX3_readyHosesAt 16 = .ok (.iload_n 3, 1) := by decide +kernel
theorem dX3_readyHosesAt_17 : decode cX3_readyHosesAt 17 = .ok (.iaload, 1) := by decide +kernel
theorem dX3_readyHosesAt_18 : decode cX3_readyHosesAt 18 = .ok (.iload_n 1, 1) := by decide +kernel
theorem dX3_readyHosesAt_19 : decode cX3_readyHosesAt 19 = .ok (.if_icmp .ne 14, 3) := by decide +kernel
theorem dX3_readyHosesAt_22 : decode cX3_readyHosesAt 22 = .ok (.aload_n 0, 1) := by decide +kernel
theorem dX3_readyHosesAt_23 : decode cX3_readyHosesAt 23 = .ok (.iload_n 3, 1) := by decide +kernel
theorem dX3_readyHosesAt_24 : decode cX3_readyHosesAt 24 = .ok (.invokevirtual 138, 3) := by decide +kernel
theorem dX3_readyHosesAt_27 : decode cX3_readyHosesAt 27 = .ok (.ifCond .eq 6, 3) := by decide +kernel
theorem dX3_readyHosesAt_30 : decode cX3_readyHosesAt 30 = .ok (.iinc 2 1, 3) := by decide +kernel
theorem dX3_readyHosesAt_33 : decode cX3_readyHosesAt 33 = .ok (.iinc 3 1, 3) := by decide +kernel
theorem dX3_readyHosesAt_36 : decode cX3_readyHosesAt 36 = .ok (.goto (-32), 3) := by decide +kernel
theorem dX3_readyHosesAt_39 : decode cX3_readyHosesAt 39 = .ok (.iload_n 2, 1) := by decide +kernel
theorem dX3_readyHosesAt_40 : decode cX3_readyHosesAt 40 = .ok (.ireturn, 1) := by decide +kernel
theorem dX3_readyHoses_0 : decode cX3_readyHoses 0 = .ok (.iconst 0, 1) := by decide +kernel
theorem dX3_readyHoses_1 : decode cX3_readyHoses 1 = .ok (.istore_n 1, 1) := by decide +kernel
theorem dX3_readyHoses_2 : decode cX3_readyHoses 2 = .ok (.iconst 0, 1) := by decide +kernel
theorem dX3_readyHoses_3 : decode cX3_readyHoses 3 = .ok (.istore_n 2, 1) := by decide +kernel
theorem dX3_readyHoses_4 : decode cX3_readyHoses 4 = .ok (.iload_n 2, 1) := by decide +kernel
theorem dX3_readyHoses_5 : decode cX3_readyHoses 5 = .ok (.aload_n 0, 1) := by decide +kernel
theorem dX3_readyHoses_6 : decode cX3_readyHoses 6 = .ok (.getfield 56, 3) := by decide +kernel
theorem dX3_readyHoses_9 : decode cX3_readyHoses 9 = .ok (.if_icmp .ge 20, 3) := by decide +kernel
theorem dX3_readyHoses_12 : decode cX3_readyHoses 12 = .ok (.aload_n 0, 1) := by decide +kernel
theorem dX3_readyHoses_13 : decode cX3_readyHoses 13 = .ok (.iload_n 2, 1) := by decide +kernel
theorem dX3_readyHoses_14 : decode cX3_readyHoses 14 = .ok (.invokevirtual 138, 3) := by decide +kernel
theorem dX3_readyHoses_17 : decode cX3_readyHoses 17 = .ok (.ifCond .eq 6, 3) := by decide +kernel
theorem dX3_readyHoses_20 : decode cX3_readyHoses 20 = .ok (.iinc 1 1, 3) := by decide +kernel
theorem dX3_readyHoses_23 : decode cX3_readyHoses 23 = .ok (.iinc 2 1, 3) := by decide +kernel
theorem dX3_readyHoses_26 : decode cX3_readyHoses 26 = .ok (.goto (-22), 3) := by decide +kernel
theorem dX3_readyHoses_29 : decode cX3_readyHoses 29 = .ok (.iload_n 1, 1) := by decide +kernel
theorem dX3_readyHoses_30 : decode cX3_readyHoses 30 = .ok (.ireturn, 1) := by decide +kernel
theorem dX3_layLine_0 : decode cX3_layLine 0 = .ok (.aload_n 0, 1) := by decide +kernel
theorem dX3_layLine_1 : decode cX3_layLine 1 = .ok (.getfield 52, 3) := by decide +kernel
theorem dX3_layLine_4 : decode cX3_layLine 4 = .ok (.invokevirtual 141, 3) := by decide +kernel
theorem dX3_layLine_7 : decode cX3_layLine 7 = .ok (.iconst 0, 1) := by decide +kernel
theorem dX3_layLine_8 : decode cX3_layLine 8 = .ok (.istore_n 3, 1) := by decide +kernel
theorem dX3_layLine_9 : decode cX3_layLine 9 = .ok (.iload_n 3, 1) := by decide +kernel
theorem dX3_layLine_10 : decode cX3_layLine 10 = .ok (.aload_n 0, 1) := by decide +kernel
theorem dX3_layLine_11 : decode cX3_layLine 11 = .ok (.getfield 56, 3) := by decide +kernel
theorem dX3_layLine_14 : decode cX3_layLine 14 = .ok (.if_icmp .ge 58, 3) := by decide +kernel
theorem dX3_layLine_17 : decode cX3_layLine 17 = .ok (.aload_n 0, 1) := by decide +kernel
theorem dX3_layLine_18 : decode cX3_layLine 18 = .ok (.getfield 43, 3) := by decide +kernel
theorem dX3_layLine_21 : decode cX3_layLine 21 = .ok (.iload_n 3, 1) := by decide +kernel
theorem dX3_layLine_22 : decode cX3_layLine 22 = .ok (.iaload, 1) := by decide +kernel
theorem dX3_layLine_23 : decode cX3_layLine 23 = .ok (.iload_n 1, 1) := by decide +kernel
theorem dX3_layLine_24 : decode cX3_layLine 24 = .ok (.if_icmp .eq 8, 3) := by decide +kernel
theorem dX3_layLine_27 : decode cX3_layLine 27 = .ok (.iload_n 3, 1) := by decide +kernel
theorem dX3_layLine_28 : decode cX3_layLine 28 = .ok (.iload_n 2, 1) := by decide +kernel
theorem dX3_layLine_29 : decode cX3_layLine 29 = .ok (.if_icmp .ne 37, 3) := by decide +kernel
theorem dX3_layLine_32 : decode cX3_layLine 32 = .ok (.aload_n 0, 1) := by decide +kernel
theorem dX3_layLine_33 : decode cX3_layLine 33 = .ok (.iload_n 3, 1) := by decide +kernel
theorem dX3_layLine_34 : decode cX3_layLine 34 = .ok (.invokevirtual 138, 3) := by decide +kernel
theorem dX3_layLine_37 : decode cX3_layLine 37 = .ok (.ifCond .eq 29, 3) := by decide +kernel
theorem dX3_layLine_40 : decode cX3_layLine 40 = .ok (.aload_n 0, 1) := by decide +kernel
theorem dX3_layLine_41 : decode cX3_layLine 41 = .ok (.getfield 52, 3) := by decide +kernel
theorem dX3_layLine_44 : decode cX3_layLine 44 = .ok (.iload_n 3, 1) := by decide +kernel
theorem dX3_layLine_45 : decode cX3_layLine 45 = .ok (.aload_n 0, 1) := by decide +kernel
theorem dX3_layLine_46 : decode cX3_layLine 46 = .ok (.getfield 28, 3) := by decide +kernel
theorem dX3_layLine_49 : decode cX3_layLine 49 = .ok (.iload_n 3, 1) := by decide +kernel
theorem dX3_layLine_50 : decode cX3_layLine 50 = .ok (.iaload, 1) := by decide +kernel
theorem dX3_layLine_51 : decode cX3_layLine 51 = .ok (.aload_n 0, 1) := by decide +kernel
theorem dX3_layLine_52 : decode cX3_layLine 52 = .ok (.getfield 31, 3) := by decide +kernel
theorem dX3_layLine_55 : decode cX3_layLine 55 = .ok (.iload_n 3, 1) := by decide +kernel
theorem dX3_layLine_56 : decode cX3_layLine 56 = .ok (.iaload, 1) := by decide +kernel
theorem dX3_layLine_57 : decode cX3_layLine 57 = .ok (.aload_n 0, 1) := by decide +kernel
theorem dX3_layLine_58 : decode cX3_layLine 58 = .ok (.getfield 22, 3) := by decide +kernel
theorem dX3_layLine_61 : decode cX3_layLine 61 = .ok (.iconst 1, 1) := by decide +kernel
theorem dX3_layLine_62 : decode cX3_layLine 62 = .ok (.iaload, 1) := by decide +kernel
theorem dX3_layLine_63 : decode cX3_layLine 63 = .ok (.invokevirtual 144, 3) := by decide +kernel
theorem dX3_layLine_66 : decode cX3_layLine 66 = .ok (.iinc 3 1, 3) := by decide +kernel
theorem dX3_layLine_69 : decode cX3_layLine 69 = .ok (.goto (-60), 3) := by decide +kernel
theorem dX3_layLine_72 : decode cX3_layLine 72 = .ok (.aload_n 0, 1) := by decide +kernel
theorem dX3_layLine_73 : decode cX3_layLine 73 = .ok (.getfield 52, 3) := by decide +kernel
theorem dX3_layLine_76 : decode cX3_layLine 76 = .ok (.getfield 148, 3) := by decide +kernel
theorem dX3_layLine_79 : decode cX3_layLine 79 = .ok (.aload_n 0, 1) := by decide +kernel
theorem dX3_layLine_80 : decode cX3_layLine 80 = .ok (.getfield 18, 3) := by decide +kernel
theorem dX3_layLine_83 : decode cX3_layLine 83 = .ok (.iload_n 1, 1) := by decide +kernel
theorem dX3_layLine_84 : decode cX3_layLine 84 = .ok (.iaload, 1) := by decide +kernel
theorem dX3_layLine_85 : decode cX3_layLine 85 = .ok (.if_icmp .lt 7, 3) := by decide +kernel
theorem dX3_layLine_88 : decode cX3_layLine 88 = .ok (.iconst 1, 1) := by decide +kernel
theorem dX3_layLine_89 : decode cX3_layLine 89 = .ok (.goto 4, 3) := by decide +kernel
theorem dX3_layLine_92 : decode cX3_layLine 92 = .ok (.iconst 0, 1) := by decide +kernel
theorem dX3_layLine_93 : decode cX3_layLine 93 = .ok (.ireturn, 1) := by decide +kernel
theorem dX3_wholeTrucks_0 : decode cX3_wholeTrucks 0 = .ok (.iconst 0, 1) := by decide +kernel
theorem dX3_wholeTrucks_1 : decode cX3_wholeTrucks 1 = .ok (.istore_n 1, 1) := by decide +kernel
theorem dX3_wholeTrucks_2 : decode cX3_wholeTrucks 2 = .ok (.iconst 0, 1) := by decide +kernel
theorem dX3_wholeTrucks_3 : decode cX3_wholeTrucks 3 = .ok (.istore_n 2, 1) := by decide +kernel
theorem dX3_wholeTrucks_4 : decode cX3_wholeTrucks 4 = .ok (.iload_n 2, 1) := by decide +kernel
theorem dX3_wholeTrucks_5 : decode cX3_wholeTrucks 5 = .ok (.iconst 3, 1) := by decide +kernel
theorem dX3_wholeTrucks_6 : decode cX3_wholeTrucks 6 = .ok (.if_icmp .ge 21, 3) := by decide +kernel
theorem dX3_wholeTrucks_9 : decode cX3_wholeTrucks 9 = .ok (.aload_n 0, 1) := by decide +kernel
theorem dX3_wholeTrucks_10 : decode cX3_wholeTrucks 10 = .ok (.iload_n 2, 1) := by decide +kernel
theorem dX3_wholeTrucks_11 : decode cX3_wholeTrucks 11 = .ok (.iconst (-1), 1) := by decide +kernel
theorem dX3_wholeTrucks_12 : decode cX3_wholeTrucks 12 = .ok (.invokevirtual 151, 3) := by decide +kernel
theorem dX3_wholeTrucks_15 : decode cX3_wholeTrucks 15 = .ok (.ifCond .eq 6, 3) := by decide +kernel
theorem dX3_wholeTrucks_18 : decode cX3_wholeTrucks 18 = .ok (.iinc 1 1, 3) := by decide +kernel
theorem dX3_wholeTrucks_21 : decode cX3_wholeTrucks 21 = .ok (.iinc 2 1, 3) := by decide +kernel
theorem dX3_wholeTrucks_24 : decode cX3_wholeTrucks 24 = .ok (.goto (-20), 3) := by decide +kernel
theorem dX3_wholeTrucks_27 : decode cX3_wholeTrucks 27 = .ok (.iload_n 1, 1) := by decide +kernel
theorem dX3_wholeTrucks_28 : decode cX3_wholeTrucks 28 = .ok (.ireturn, 1) := by decide +kernel
theorem dX3_cheapestHelp_0 : decode cX3_cheapestHelp 0 = .ok (.aload_n 0, 1) := by decide +kernel
theorem dX3_cheapestHelp_1 : decode cX3_cheapestHelp 1 = .ok (.iload_n 1, 1) := by decide +kernel
theorem dX3_cheapestHelp_2 : decode cX3_cheapestHelp 2 = .ok (.iconst (-1), 1) := by decide +kernel
theorem dX3_cheapestHelp_3 : decode cX3_cheapestHelp 3 = .ok (.invokevirtual 151, 3) := by decide +kernel
theorem dX3_cheapestHelp_6 : decode cX3_cheapestHelp 6 = .ok (.ifCond .eq 5, 3) := by decide +kernel
theorem dX3_cheapestHelp_9 : decode cX3_cheapestHelp 9 = .ok (.iconst (-1), 1) := by decide +kernel
theorem dX3_cheapestHelp_10 : decode cX3_cheapestHelp 10 = .ok (.ireturn, 1) := by decide +kernel
theorem dX3_cheapestHelp_11 : decode cX3_cheapestHelp 11 = .ok (.iconst (-1), 1) := by decide +kernel
theorem dX3_cheapestHelp_12 : decode cX3_cheapestHelp 12 = .ok (.istore_n 2, 1) := by decide +kernel
theorem dX3_cheapestHelp_13 : decode cX3_cheapestHelp 13 = .ok (.iconst 0, 1) := by decide +kernel
theorem dX3_cheapestHelp_14 : decode cX3_cheapestHelp 14 = .ok (.istore_n 3, 1) := by decide +kernel
theorem dX3_cheapestHelp_15 : decode cX3_cheapestHelp 15 = .ok (.iconst 0, 1) := by decide +kernel
theorem dX3_cheapestHelp_16 : decode cX3_cheapestHelp 16 = .ok (.istore 4, 2) := by decide +kernel
theorem dX3_cheapestHelp_18 : decode cX3_cheapestHelp 18 = .ok (.iload 4, 2) := by decide +kernel
theorem dX3_cheapestHelp_20 : decode cX3_cheapestHelp 20 = .ok (.aload_n 0, 1) := by decide +kernel
theorem dX3_cheapestHelp_21 : decode cX3_cheapestHelp 21 = .ok (.getfield 56, 3) := by decide +kernel
theorem dX3_cheapestHelp_24 : decode cX3_cheapestHelp 24 = .ok (.if_icmp .ge 76, 3) := by decide +kernel
theorem dX3_cheapestHelp_27 : decode cX3_cheapestHelp 27 = .ok (.aload_n 0, 1) := by decide +kernel
theorem dX3_cheapestHelp_28 : decode cX3_cheapestHelp 28 = .ok (.getfield 43, 3) := by decide +kernel
theorem dX3_cheapestHelp_31 : decode cX3_cheapestHelp 31 = .ok (.iload 4, 2) := by decide +kernel
theorem dX3_cheapestHelp_33 : decode cX3_cheapestHelp 33 = .ok (.iaload, 1) := by decide +kernel
theorem dX3_cheapestHelp_34 : decode cX3_cheapestHelp 34 = .ok (.iconst 3, 1) := by decide +kernel
theorem dX3_cheapestHelp_35 : decode cX3_cheapestHelp 35 = .ok (.if_icmp .ne 26, 3) := by decide +kernel
theorem dX3_cheapestHelp_38 : decode cX3_cheapestHelp 38 = .ok (.aload_n 0, 1) := by decide +kernel
theorem dX3_cheapestHelp_39 : decode cX3_cheapestHelp 39 = .ok (.iload 4, 2) := by decide +kernel
theorem dX3_cheapestHelp_41 : decode cX3_cheapestHelp 41 = .ok (.invokevirtual 138, 3) := by decide +kernel
theorem dX3_cheapestHelp_44 : decode cX3_cheapestHelp 44 = .ok (.ifCond .eq 17, 3) := by decide +kernel
theorem dX3_cheapestHelp_47 : decode cX3_cheapestHelp 47 = .ok (.aload_n 0, 1) := by decide +kernel
theorem dX3_cheapestHelp_48 : decode cX3_cheapestHelp 48 = .ok (.iload_n 1, 1) := by decide +kernel
theorem dX3_cheapestHelp_49 : decode cX3_cheapestHelp 49 = .ok (.iload 4, 2) := by decide +kernel
theorem dX3_cheapestHelp_51 : decode cX3_cheapestHelp 51 = .ok (.invokevirtual 151, 3) := by decide +kernel
theorem dX3_cheapestHelp_54 : decode cX3_cheapestHelp 54 = .ok (.ifCond .eq 7, 3) := by decide +kernel
theorem dX3_cheapestHelp_57 : decode cX3_cheapestHelp 57 = .ok (.iconst 1, 1) := by decide +kernel
theorem dX3_cheapestHelp_58 : decode cX3_cheapestHelp 58 = .ok (.goto 4, 3) := by decide +kernel
theorem dX3_cheapestHelp_61 : decode cX3_cheapestHelp 61 = .ok (.iconst 0, 1) := by decide +kernel
theorem dX3_cheapestHelp_62 : decode cX3_cheapestHelp 62 = .ok (.istore 5, 2) := by decide +kernel
theorem dX3_cheapestHelp_64 : decode cX3_cheapestHelp 64 = .ok (.iload 5, 2) := by decide +kernel
theorem dX3_cheapestHelp_66 : decode cX3_cheapestHelp 66 = .ok (.ifCond .eq 28, 3) := by decide +kernel
theorem dX3_cheapestHelp_69 : decode cX3_cheapestHelp 69 = .ok (.iload_n 2, 1) := by decide +kernel
theorem dX3_cheapestHelp_70 : decode cX3_cheapestHelp 70 = .ok (.iconst (-1), 1) := by decide +kernel
theorem dX3_cheapestHelp_71 : decode cX3_cheapestHelp 71 = .ok (.if_icmp .eq 13, 3) := by decide +kernel
theorem dX3_cheapestHelp_74 : decode cX3_cheapestHelp 74 = .ok (.aload_n 0, 1) := by decide +kernel
theorem dX3_cheapestHelp_75 : decode cX3_cheapestHelp 75 = .ok (.iload 4, 2) := by decide +kernel
theorem dX3_cheapestHelp_77 : decode cX3_cheapestHelp 77 = .ok (.invokevirtual 102, 3) := by decide +kernel
theorem dX3_cheapestHelp_80 : decode cX3_cheapestHelp 80 = .ok (.iload_n 3, 1) := by decide +kernel
theorem dX3_cheapestHelp_81 : decode cX3_cheapestHelp 81 = .ok (.if_icmp .ge 13, 3) := by decide +kernel
theorem dX3_cheapestHelp_84 : decode cX3_cheapestHelp 84 = .ok (.iload 4, 2) := by decide +kernel
theorem dX3_cheapestHelp_86 : decode cX3_cheapestHelp 86 = .ok (.istore_n 2, 1) := by decide +kernel
theorem dX3_cheapestHelp_87 : decode cX3_cheapestHelp 87 = .ok (.aload_n 0, 1) := by decide +kernel
theorem dX3_cheapestHelp_88 : decode cX3_cheapestHelp 88 = .ok (.iload 4, 2) := by decide +kernel
theorem dX3_cheapestHelp_90 : decode cX3_cheapestHelp 90 = .ok (.invokevirtual 102, 3) := by decide +kernel
theorem dX3_cheapestHelp_93 : decode cX3_cheapestHelp 93 = .ok (.istore_n 3, 1) := by decide +kernel
theorem dX3_cheapestHelp_94 : decode cX3_cheapestHelp 94 = .ok (.iinc 4 1, 3) := by decide +kernel
theorem dX3_cheapestHelp_97 : decode cX3_cheapestHelp 97 = .ok (.goto (-79), 3) := by decide +kernel
theorem dX3_cheapestHelp_100 : decode cX3_cheapestHelp 100 = .ok (.iload_n 2, 1) := by decide +kernel
theorem dX3_cheapestHelp_101 : decode cX3_cheapestHelp 101 = .ok (.ireturn, 1) := by decide +kernel
theorem dX3_daysToFirstLapse_0 : decode cX3_daysToFirstLapse 0 = .ok (.iconst (-1), 1) := by decide +kernel
theorem dX3_daysToFirstLapse_1 : decode cX3_daysToFirstLapse 1 = .ok (.istore_n 1, 1) := by decide +kernel
theorem dX3_daysToFirstLapse_2 : decode cX3_daysToFirstLapse 2 = .ok (.iconst 0, 1) := by decide +kernel
theorem dX3_daysToFirstLapse_3 : decode cX3_daysToFirstLapse 3 = .ok (.istore_n 2, 1) := by decide +kernel
theorem dX3_daysToFirstLapse_4 : decode cX3_daysToFirstLapse 4 = .ok (.iload_n 2, 1) := by decide +kernel
theorem dX3_daysToFirstLapse_5 : decode cX3_daysToFirstLapse 5 = .ok (.aload_n 0, 1) := by decide +kernel
theorem dX3_daysToFirstLapse_6 : decode cX3_daysToFirstLapse 6 = .ok (.getfield 56, 3) := by decide +kernel
theorem dX3_daysToFirstLapse_9 : decode cX3_daysToFirstLapse 9 = .ok (.if_icmp .ge 70, 3) := by decide +kernel
theorem dX3_daysToFirstLapse_12 : decode cX3_daysToFirstLapse 12 = .ok (.aload_n 0, 1) := by decide +kernel
theorem dX3_daysToFirstLapse_13 : decode cX3_daysToFirstLapse 13 = .ok (.iload_n 2, 1) := by decide +kernel
theorem dX3_daysToFirstLapse_14 : decode cX3_daysToFirstLapse 14 = .ok (.invokevirtual 138, 3) := by decide +kernel
theorem dX3_daysToFirstLapse_17 : decode cX3_daysToFirstLapse 17 = .ok (.ifCond .eq 56, 3) := by decide +kernel
theorem dX3_daysToFirstLapse_20 : decode cX3_daysToFirstLapse 20 = .ok (.aload_n 0, 1) := by decide +kernel
theorem dX3_daysToFirstLapse_21 : decode cX3_daysToFirstLapse 21 = .ok (.getfield 40, 3) := by decide +kernel
theorem dX3_daysToFirstLapse_24 : decode cX3_daysToFirstLapse 24 = .ok (.iload_n 2, 1) := by decide +kernel
theorem dX3_daysToFirstLapse_25 : decode cX3_daysToFirstLapse 25 = .ok (.iaload, 1) := by decide +kernel
theorem dX3_daysToFirstLapse_26 : decode cX3_daysToFirstLapse 26 = .ok (.aload_n 0, 1) := by decide +kernel
theorem dX3_daysToFirstLapse_27 : decode cX3_daysToFirstLapse 27 = .ok (.getfield 34, 3) := by decide +kernel
theorem dX3_daysToFirstLapse_30 : decode cX3_daysToFirstLapse 30 = .ok (.iload_n 2, 1) := by decide +kernel
theorem dX3_daysToFirstLapse_31 : decode cX3_daysToFirstLapse 31 = .ok (.iaload, 1) := by decide +kernel
theorem dX3_daysToFirstLapse_32 : decode cX3_daysToFirstLapse 32 = .ok (.aload_n 0, 1) := by decide +kernel
theorem dX3_daysToFirstLapse_33 : decode cX3_daysToFirstLapse 33 = .ok (.getfield 25, 3) := by decide +kernel
theorem dX3_daysToFirstLapse_36 : decode cX3_daysToFirstLapse 36 = .ok (.iload_n 2, 1) := by decide +kernel
theorem dX3_daysToFirstLapse_37 : decode cX3_daysToFirstLapse 37 = .ok (.iaload, 1) := by decide +kernel
theorem dX3_daysToFirstLapse_38 : decode cX3_daysToFirstLapse 38 = .ok (.invokestatic 89, 3) := by decide +kernel
theorem dX3_daysToFirstLapse_41 : decode cX3_daysToFirstLapse 41 = .ok (.iadd, 1) := by decide +kernel
theorem dX3_daysToFirstLapse_42 : decode cX3_daysToFirstLapse 42 = .ok (.invokestatic 112, 3) := by decide +kernel
theorem dX3_daysToFirstLapse_45 : decode cX3_daysToFirstLapse 45 = .ok (.istore_n 3, 1) := by decide +kernel
theorem dX3_daysToFirstLapse_46 : decode cX3_daysToFirstLapse 46 = .ok (.iload_n 3, 1) := by decide +kernel
theorem dX3_daysToFirstLapse_47 : decode cX3_daysToFirstLapse 47 = .ok (.iconst 1, 1) := by decide +kernel
theorem dX3_daysToFirstLapse_48 : decode cX3_daysToFirstLapse 48 = .ok (.iadd, 1) := by decide +kernel
theorem dX3_daysToFirstLapse_49 : decode cX3_daysToFirstLapse 49 = .ok (.aload_n 0, 1) := by decide +kernel
theorem dX3_daysToFirstLapse_50 : decode cX3_daysToFirstLapse 50 = .ok (.getfield 9, 3) := by decide +kernel
theorem dX3_daysToFirstLapse_53 : decode cX3_daysToFirstLapse 53 = .ok (.isub, 1) := by decide +kernel
theorem dX3_daysToFirstLapse_54 : decode cX3_daysToFirstLapse 54 = .ok (.istore 4, 2) := by decide +kernel
theorem dX3_daysToFirstLapse_56 : decode cX3_daysToFirstLapse 56 = .ok (.iload_n 1, 1) := by decide +kernel
theorem dX3_daysToFirstLapse_57 : decode cX3_daysToFirstLapse 57 = .ok (.iconst (-1), 1) := by decide +kernel
theorem dX3_daysToFirstLapse_58 : decode cX3_daysToFirstLapse 58 = .ok (.if_icmp .ne 8, 3) := by decide +kernel
theorem dX3_daysToFirstLapse_61 : decode cX3_daysToFirstLapse 61 = .ok (.iload 4, 2) := by decide +kernel
theorem dX3_daysToFirstLapse_63 : decode cX3_daysToFirstLapse 63 = .ok (.goto 9, 3) := by decide +kernel
theorem dX3_daysToFirstLapse_66 : decode cX3_daysToFirstLapse 66 = .ok (.iload_n 1, 1) := by decide +kernel
theorem dX3_daysToFirstLapse_67 : decode cX3_daysToFirstLapse 67 = .ok (.iload 4, 2) := by decide +kernel
theorem dX3_daysToFirstLapse_69 : decode cX3_daysToFirstLapse 69 = .ok (.invokestatic 112, 3) := by decide +kernel
theorem dX3_daysToFirstLapse_72 : decode cX3_daysToFirstLapse 72 = .ok (.istore_n 1, 1) := by decide +kernel
theorem dX3_daysToFirstLapse_73 : decode cX3_daysToFirstLapse 73 = .ok (.iinc 2 1, 3) := by decide +kernel
theorem dX3_daysToFirstLapse_76 : decode cX3_daysToFirstLapse 76 = .ok (.goto (-72), 3) := by decide +kernel
theorem dX3_daysToFirstLapse_79 : decode cX3_daysToFirstLapse 79 = .ok (.iload_n 1, 1) := by decide +kernel
theorem dX3_daysToFirstLapse_80 : decode cX3_daysToFirstLapse 80 = .ok (.ireturn, 1) := by decide +kernel
theorem dX4_init_0 : decode cX4_init 0 = .ok (.aload_n 0, 1) := by decide +kernel
theorem dX4_init_1 : decode cX4_init 1 = .ok (.invokespecial 1, 3) := by decide +kernel
theorem dX4_init_4 : decode cX4_init 4 = .ok (.aload_n 0, 1) := by decide +kernel
theorem dX4_init_5 : decode cX4_init 5 = .ok (.new 7, 3) := by decide +kernel
theorem dX4_init_8 : decode cX4_init 8 = .ok (.dup, 1) := by decide +kernel
theorem dX4_init_9 : decode cX4_init 9 = .ok (.invokespecial 9, 3) := by decide +kernel
theorem dX4_init_12 : decode cX4_init 12 = .ok (.putfield 10, 3) := by decide +kernel
theorem dX4_init_15 : decode cX4_init 15 = .ok (.aload_n 0, 1) := by decide +kernel
theorem dX4_init_16 : decode cX4_init 16 = .ok (.bipush 6, 2) := by decide +kernel
theorem dX4_init_18 : decode cX4_init 18 = .ok (.anewarray 7, 3) := by decide +kernel
theorem dX4_init_21 : decode cX4_init 21 = .ok (.putfield 16, 3) := by decide +kernel
theorem dX4_init_24 : decode cX4_init 24 = .ok (.iconst 0, 1) := by decide +kernel
theorem dX4_init_25 : decode cX4_init 25 = .ok (.istore_n 1, 1) := by decide +kernel
theorem dX4_init_26 : decode cX4_init 26 = .ok (.iload_n 1, 1) := by decide +kernel
theorem dX4_init_27 : decode cX4_init 27 = .ok (.bipush 6, 2) := by decide +kernel
theorem dX4_init_29 : decode cX4_init 29 = .ok (.if_icmp .ge 22, 3) := by decide +kernel
theorem dX4_init_32 : decode cX4_init 32 = .ok (.aload_n 0, 1) := by decide +kernel
theorem dX4_init_33 : decode cX4_init 33 = .ok (.getfield 16, 3) := by decide +kernel
theorem dX4_init_36 : decode cX4_init 36 = .ok (.iload_n 1, 1) := by decide +kernel
theorem dX4_init_37 : decode cX4_init 37 = .ok (.new 7, 3) := by decide +kernel
theorem dX4_init_40 : decode cX4_init 40 = .ok (.dup, 1) := by decide +kernel
theorem dX4_init_41 : decode cX4_init 41 = .ok (.invokespecial 9, 3) := by decide +kernel
theorem dX4_init_44 : decode cX4_init 44 = .ok (.aastore, 1) := by decide +kernel
theorem dX4_init_45 : decode cX4_init 45 = .ok (.iinc 1 1, 3) := by decide +kernel
theorem dX4_init_48 : decode cX4_init 48 = .ok (.goto (-22), 3) := by decide +kernel
theorem dX4_init_51 : decode cX4_init 51 = .ok (.aload_n 0, 1) := by decide +kernel
theorem dX4_init_52 : decode cX4_init 52 = .ok (.iconst 0, 1) := by decide +kernel
theorem dX4_init_53 : decode cX4_init 53 = .ok (.putfield 20, 3) := by decide +kernel
theorem dX4_init_56 : decode cX4_init 56 = .ok (.aload_n 0, 1) := by decide +kernel
theorem dX4_init_57 : decode cX4_init 57 = .ok (.iconst 0, 1) := by decide +kernel
theorem dX4_init_58 : decode cX4_init 58 = .ok (.putfield 24, 3) := by decide +kernel
theorem dX4_init_61 : decode cX4_init 61 = .ok (.aload_n 0, 1) := by decide +kernel
theorem dX4_init_62 : decode cX4_init 62 = .ok (.new 27, 3) := by decide +kernel
theorem dX4_init_65 : decode cX4_init 65 = .ok (.dup, 1) := by decide +kernel
theorem dX4_init_66 : decode cX4_init 66 = .ok (.invokespecial 29, 3) := by decide +kernel
theorem dX4_init_69 : decode cX4_init 69 = .ok (.putfield 30, 3) := by decide +kernel
theorem dX4_init_72 : decode cX4_init 72 = .ok (.return_, 1) := by decide +kernel
theorem dX4_buy_0 : decode cX4_buy 0 = .ok (.iload_n 1, 1) := by decide +kernel
theorem dX4_buy_1 : decode cX4_buy 1 = .ok (.iconst 0, 1) := by decide +kernel
theorem dX4_buy_2 : decode cX4_buy 2 = .ok (.iconst 2, 1) := by decide +kernel
theorem dX4_buy_3 : decode cX4_buy 3 = .ok (.invokestatic 34, 3) := by decide +kernel
theorem dX4_buy_6 : decode cX4_buy 6 = .ok (.ifCond .eq 22, 3) := by decide +kernel
theorem dX4_buy_9 : decode cX4_buy 9 = .ok (.iload_n 2, 1) := by decide +kernel
theorem dX4_buy_10 : decode cX4_buy 10 = .ok (.iconst 5, 1) := by decide +kernel
theorem dX4_buy_11 : decode cX4_buy 11 = .ok (.bipush 50, 2) := by decide +kernel
theorem dX4_buy_13 : decode cX4_buy 13 = .ok (.invokestatic 34, 3) := by decide +kernel
theorem dX4_buy_16 : decode cX4_buy 16 = .ok (.ifCond .eq 12, 3) := by decide +kernel
theorem dX4_buy_19 : decode cX4_buy 19 = .ok (.iload_n 3, 1) := by decide +kernel
theorem dX4_buy_20 : decode cX4_buy 20 = .ok (.iconst 0, 1) := by decide +kernel
theorem dX4_buy_21 : decode cX4_buy 21 = .ok (.iconst 2, 1) := by decide +kernel
theorem dX4_buy_22 : decode cX4_buy 22 = .ok (.invokestatic 34, 3) := by decide +kernel
theorem dX4_buy_25 : decode cX4_buy 25 = .ok (.ifCond .ne 13, 3) := by decide +kernel
theorem dX4_buy_28 : decode cX4_buy 28 = .ok (.new 38, 3) := by decide +kernel
theorem dX4_buy_31 : decode cX4_buy 31 = .ok (.dup, 1) := by decide +kernel
theorem dX4_buy_32 : decode cX4_buy 32 = .ok (.ldc 40, 2) := by decide +kernel
theorem dX4_buy_34 : decode cX4_buy 34 = .ok (.invokespecial 42, 3) := by decide +kernel
theorem dX4_buy_37 : decode cX4_buy 37 = .ok (.athrow, 1) := by decide +kernel
theorem dX4_buy_38 : decode cX4_buy 38 = .ok (.aload_n 0, 1) := by decide +kernel
theorem dX4_buy_39 : decode cX4_buy 39 = .ok (.getfield 10, 3) := by decide +kernel
theorem dX4_buy_42 : decode cX4_buy 42 = .ok (.iload_n 1, 1) := by decide +kernel
theorem dX4_buy_43 : decode cX4_buy 43 = .ok (.iload_n 2, 1) := by decide +kernel
theorem dX4_buy_44 : decode cX4_buy 44 = .ok (.invokevirtual 45, 3) := by decide +kernel
theorem dX4_buy_47 : decode cX4_buy 47 = .ok (.ifCond .ne 13, 3) := by decide +kernel
theorem dX4_buy_50 : decode cX4_buy 50 = .ok (.new 49, 3) := by decide +kernel
theorem dX4_buy_53 : decode cX4_buy 53 = .ok (.dup, 1) := by decide +kernel
theorem dX4_buy_54 : decode cX4_buy 54 = .ok (.ldc 51, 2) := by decide +kernel
theorem dX4_buy_56 : decode cX4_buy 56 = .ok (.invokespecial 53, 3) := by decide +kernel
theorem dX4_buy_59 : decode cX4_buy 59 = .ok (.athrow, 1) := by decide +kernel
theorem dX4_buy_60 : decode cX4_buy 60 = .ok (.aload_n 0, 1) := by decide +kernel
theorem dX4_buy_61 : decode cX4_buy 61 = .ok (.invokevirtual 54, 3) := by decide +kernel
theorem dX4_buy_64 : decode cX4_buy 64 = .ok (.aload_n 0, 1) := by decide +kernel
theorem dX4_buy_65 : decode cX4_buy 65 = .ok (.getfield 10, 3) := by decide +kernel
theorem dX4_buy_68 : decode cX4_buy 68 = .ok (.iload_n 1, 1) := by decide +kernel
theorem dX4_buy_69 : decode cX4_buy 69 = .ok (.iload_n 2, 1) := by decide +kernel
theorem dX4_buy_70 : decode cX4_buy 70 = .ok (.iload_n 3, 1) := by decide +kernel
theorem dX4_buy_71 : decode cX4_buy 71 = .ok (.iconst 3, 1) := by decide +kernel
theorem dX4_buy_72 : decode cX4_buy 72 = .ok (.invokevirtual 57, 3) := by decide +kernel
theorem dX4_buy_75 : decode cX4_buy 75 = .ok (.ireturn, 1) := by decide +kernel
theorem dX4_renew_0 : decode cX4_renew 0 = .ok (.aload_n 0, 1) := by decide +kernel
theorem dX4_renew_1 : decode cX4_renew 1 = .ok (.iload_n 1, 1) := by decide +kernel
theorem dX4_renew_2 : decode cX4_renew 2 = .ok (.invokevirtual 61, 3) := by decide +kernel
theorem dX4_renew_5 : decode cX4_renew 5 = .ok (.aload_n 0, 1) := by decide +kernel
theorem dX4_renew_6 : decode cX4_renew 6 = .ok (.iload_n 1, 1) := by decide +kernel
theorem dX4_renew_7 : decode cX4_renew 7 = .ok (.invokevirtual 65, 3) := by decide +kernel
theorem dX4_renew_10 : decode cX4_renew 10 = .ok (.aload_n 0, 1) := by decide +kernel
theorem dX4_renew_11 : decode cX4_renew 11 = .ok (.getfield 10, 3) := by decide +kernel
theorem dX4_renew_14 : decode cX4_renew 14 = .ok (.aload_n 0, 1) := by decide +kernel
theorem dX4_renew_15 : decode cX4_renew 15 = .ok (.getfield 10, 3) := by decide +kernel
theorem dX4_renew_18 : decode cX4_renew 18 = .ok (.getfield 68, 3) := by decide +kernel
theorem dX4_renew_21 : decode cX4_renew 21 = .ok (.iload_n 1, 1) := by decide +kernel
theorem dX4_renew_22 : decode cX4_renew 22 = .ok (.iaload, 1) := by decide +kernel
theorem dX4_renew_23 : decode cX4_renew 23 = .ok (.aload_n 0, 1) := by decide +kernel
theorem dX4_renew_24 : decode cX4_renew 24 = .ok (.getfield 10, 3) := by decide +kernel
theorem dX4_renew_27 : decode cX4_renew 27 = .ok (.getfield 72, 3) := by decide +kernel
theorem dX4_renew_30 : decode cX4_renew 30 = .ok (.iload_n 1, 1) := by decide +kernel
theorem dX4_renew_31 : decode cX4_renew 31 = .ok (.iaload, 1) := by decide +kernel
theorem dX4_renew_32 : decode cX4_renew 32 = .ok (.invokevirtual 45, 3) := by decide +kernel
theorem dX4_renew_35 : decode cX4_renew 35 = .ok (.ifCond .ne 13, 3) := by decide +kernel
theorem dX4_renew_38 : decode cX4_renew 38 = .ok (.new 49, 3) := by decide +kernel
theorem dX4_renew_41 : decode cX4_renew 41 = .ok (.dup, 1) := by decide +kernel
theorem dX4_renew_42 : decode cX4_renew 42 = .ok (.ldc 51, 2) := by decide +kernel
theorem dX4_renew_44 : decode cX4_renew 44 = .ok (.invokespecial 53, 3) := by decide +kernel
theorem dX4_renew_47 : decode cX4_renew 47 = .ok (.athrow, 1) := by decide +kernel
theorem dX4_renew_48 : decode cX4_renew 48 = .ok (.aload_n 0, 1) := by decide +kernel
theorem dX4_renew_49 : decode cX4_renew 49 = .ok (.invokevirtual 54, 3) := by decide +kernel
theorem dX4_renew_52 : decode cX4_renew 52 = .ok (.aload_n 0, 1) := by decide +kernel
theorem dX4_renew_53 : decode cX4_renew 53 = .ok (.getfield 10, 3) := by decide +kernel
theorem dX4_renew_56 : decode cX4_renew 56 = .ok (.iload_n 1, 1) := by decide +kernel
theorem dX4_renew_57 : decode cX4_renew 57 = .ok (.invokevirtual 75, 3) := by decide +kernel
theorem dX4_renew_60 : decode cX4_renew 60 = .ok (.ireturn, 1) := by decide +kernel
theorem dX4_put_0 : decode cX4_put 0 = .ok (.aload_n 0, 1) := by decide +kernel
theorem dX4_put_1 : decode cX4_put 1 = .ok (.iload_n 1, 1) := by decide +kernel
theorem dX4_put_2 : decode cX4_put 2 = .ok (.invokevirtual 61, 3) := by decide +kernel
theorem dX4_put_5 : decode cX4_put 5 = .ok (.iload_n 2, 1) := by decide +kernel
theorem dX4_put_6 : decode cX4_put 6 = .ok (.iconst 0, 1) := by decide +kernel
theorem dX4_put_7 : decode cX4_put 7 = .ok (.iconst 3, 1) := by decide +kernel
theorem dX4_put_8 : decode cX4_put 8 = .ok (.invokestatic 34, 3) := by decide +kernel
theorem dX4_put_11 : decode cX4_put 11 = .ok (.ifCond .ne 13, 3) := by decide +kernel
theorem dX4_put_14 : decode cX4_put 14 = .ok (.new 38, 3) := by decide +kernel
theorem dX4_put_17 : decode cX4_put 17 = .ok (.dup, 1) := by decide +kernel
theorem dX4_put_18 : decode cX4_put 18 = .ok (.ldc 79, 2) := by decide +kernel
theorem dX4_put_20 : decode cX4_put 20 = .ok (.invokespecial 42, 3) := by decide +kernel
theorem dX4_put_23 : decode cX4_put 23 = .ok (.athrow, 1) := by decide +kernel
theorem dX4_put_24 : decode cX4_put 24 = .ok (.aload_n 0, 1) := by decide +kernel
theorem dX4_put_25 : decode cX4_put 25 = .ok (.iload_n 1, 1) := by decide +kernel
theorem dX4_put_26 : decode cX4_put 26 = .ok (.invokevirtual 65, 3) := by decide +kernel
theorem dX4_put_29 : decode cX4_put 29 = .ok (.aload_n 0, 1) := by decide +kernel
theorem dX4_put_30 : decode cX4_put 30 = .ok (.invokevirtual 54, 3) := by decide +kernel
theorem dX4_put_33 : decode cX4_put 33 = .ok (.aload_n 0, 1) := by decide +kernel
theorem dX4_put_34 : decode cX4_put 34 = .ok (.getfield 10, 3) := by decide +kernel
theorem dX4_put_37 : decode cX4_put 37 = .ok (.getfield 81, 3) := by decide +kernel
theorem dX4_put_40 : decode cX4_put 40 = .ok (.iload_n 1, 1) := by decide +kernel
theorem dX4_put_41 : decode cX4_put 41 = .ok (.iaload, 1) := by decide +kernel
theorem dX4_put_42 : decode cX4_put 42 = .ok (.istore_n 3, 1) := by decide +kernel
theorem dX4_put_43 : decode cX4_put 43 = .ok (.aload_n 0, 1) := by decide +kernel
theorem dX4_put_44 : decode cX4_put 44 = .ok (.getfield 10, 3) := by decide +kernel
theorem dX4_put_47 : decode cX4_put 47 = .ok (.getfield 81, 3) := by decide +kernel
theorem dX4_put_50 : decode cX4_put 50 = .ok (.iload_n 1, 1) := by decide +kernel
theorem dX4_put_51 : decode cX4_put 51 = .ok (.iload_n 2, 1) := by decide +kernel
theorem dX4_put_52 : decode cX4_put 52 = .ok (.iastore, 1) := by decide +kernel
theorem dX4_put_53 : decode cX4_put 53 = .ok (.iload_n 3, 1) := by decide +kernel
theorem dX4_put_54 : decode cX4_put 54 = .ok (.ireturn, 1) := by decide +kernel
theorem dX4_lend_0 : decode cX4_lend 0 = .ok (.aload_n 0, 1) := by decide +kernel
theorem dX4_lend_1 : decode cX4_lend 1 = .ok (.iload_n 1, 1) := by decide +kernel
theorem dX4_lend_2 : decode cX4_lend 2 = .ok (.invokevirtual 61, 3) := by decide +kernel
theorem dX4_lend_5 : decode cX4_lend 5 = .ok (.iload_n 2, 1) := by decide +kernel
theorem dX4_lend_6 : decode cX4_lend 6 = .ok (.iconst 1, 1) := by decide +kernel
theorem dX4_lend_7 : decode cX4_lend 7 = .ok (.bipush 99, 2) := by decide +kernel
theorem dX4_lend_9 : decode cX4_lend 9 = .ok (.invokestatic 34, 3) := by decide +kernel
theorem dX4_lend_12 : decode cX4_lend 12 = .ok (.ifCond .ne 13, 3) := by decide +kernel
theorem dX4_lend_15 : decode cX4_lend 15 = .ok (.new 38, 3) := by decide +kernel
theorem dX4_lend_18 : decode cX4_lend 18 = .ok (.dup, 1) := by decide +kernel
theorem dX4_lend_19 : decode cX4_lend 19 = .ok (.ldc 84, 2) := by decide +kernel
theorem dX4_lend_21 : decode cX4_lend 21 = .ok (.invokespecial 42, 3) := by decide +kernel
theorem dX4_lend_24 : decode cX4_lend 24 = .ok (.athrow, 1) := by decide +kernel
theorem dX4_lend_25 : decode cX4_lend 25 = .ok (.aload_n 0, 1) := by decide +kernel
theorem dX4_lend_26 : decode cX4_lend 26 = .ok (.getfield 10, 3) := by decide +kernel
theorem dX4_lend_29 : decode cX4_lend 29 = .ok (.iload_n 1, 1) := by decide +kernel
theorem dX4_lend_30 : decode cX4_lend 30 = .ok (.invokevirtual 86, 3) := by decide +kernel
theorem dX4_lend_33 : decode cX4_lend 33 = .ok (.ifCond .ne 13, 3) := by decide +kernel
theorem dX4_lend_36 : decode cX4_lend 36 = .ok (.new 49, 3) := by decide +kernel
theorem dX4_lend_39 : decode cX4_lend 39 = .ok (.dup, 1) := by decide +kernel
theorem dX4_lend_40 : decode cX4_lend 40 = .ok (.ldc 90, 2) := by decide +kernel
theorem dX4_lend_42 : decode cX4_lend 42 = .ok (.invokespecial 53, 3) := by decide +kernel
theorem dX4_lend_45 : decode cX4_lend 45 = .ok (.athrow, 1) := by decide +kernel
theorem dX4_lend_46 : decode cX4_lend 46 = .ok (.aload_n 0, 1) := by decide +kernel
theorem dX4_lend_47 : decode cX4_lend 47 = .ok (.invokevirtual 54, 3) := by decide +kernel
theorem dX4_lend_50 : decode cX4_lend 50 = .ok (.aload_n 0, 1) := by decide +kernel
theorem dX4_lend_51 : decode cX4_lend 51 = .ok (.getfield 10, 3) := by decide +kernel
theorem dX4_lend_54 : decode cX4_lend 54 = .ok (.iload_n 1, 1) := by decide +kernel
theorem dX4_lend_55 : decode cX4_lend 55 = .ok (.iload_n 2, 1) := by decide +kernel
theorem dX4_lend_56 : decode cX4_lend 56 = .ok (.invokevirtual 92, 3) := by decide +kernel
theorem dX4_lend_59 : decode cX4_lend 59 = .ok (.ireturn, 1) := by decide +kernel
theorem dX4_test_0 : decode cX4_test 0 = .ok (.aload_n 0, 1) := by decide +kernel
theorem dX4_test_1 : decode cX4_test 1 = .ok (.iload_n 1, 1) := by decide +kernel
theorem dX4_test_2 : decode cX4_test 2 = .ok (.invokevirtual 61, 3) := by decide +kernel
theorem dX4_test_5 : decode cX4_test 5 = .ok (.iload_n 2, 1) := by decide +kernel
theorem dX4_test_6 : decode cX4_test 6 = .ok (.invokestatic 96, 3) := by decide +kernel
theorem dX4_test_9 : decode cX4_test 9 = .ok (.aload_n 0, 1) := by decide +kernel
theorem dX4_test_10 : decode cX4_test 10 = .ok (.iload_n 1, 1) := by decide +kernel
theorem dX4_test_11 : decode cX4_test 11 = .ok (.invokevirtual 65, 3) := by decide +kernel
theorem dX4_test_14 : decode cX4_test 14 = .ok (.aload_n 0, 1) := by decide +kernel
theorem dX4_test_15 : decode cX4_test 15 = .ok (.invokevirtual 54, 3) := by decide +kernel
theorem dX4_test_18 : decode cX4_test 18 = .ok (.aload_n 0, 1) := by decide +kernel
theorem dX4_test_19 : decode cX4_test 19 = .ok (.getfield 10, 3) := by decide +kernel
theorem dX4_test_22 : decode cX4_test 22 = .ok (.iload_n 1, 1) := by decide +kernel
theorem dX4_test_23 : decode cX4_test 23 = .ok (.iload_n 2, 1) := by decide +kernel
theorem dX4_test_24 : decode cX4_test 24 = .ok (.invokevirtual 99, 3) := by decide +kernel
theorem dX4_test_27 : decode cX4_test 27 = .ok (.ireturn, 1) := by decide +kernel
theorem dX4_want_0 : decode cX4_want 0 = .ok (.iload_n 1, 1) := by decide +kernel
theorem dX4_want_1 : decode cX4_want 1 = .ok (.invokestatic 102, 3) := by decide +kernel
theorem dX4_want_4 : decode cX4_want 4 = .ok (.iload_n 2, 1) := by decide +kernel
theorem dX4_want_5 : decode cX4_want 5 = .ok (.iconst 0, 1) := by decide +kernel
theorem dX4_want_6 : decode cX4_want 6 = .ok (.sipush 200, 3) := by decide +kernel
theorem dX4_want_9 : decode cX4_want 9 = .ok (.invokestatic 34, 3) := by decide +kernel
theorem dX4_want_12 : decode cX4_want 12 = .ok (.ifCond .ne 13, 3) := by decide +kernel
theorem dX4_want_15 : decode cX4_want 15 = .ok (.new 38, 3) := by decide +kernel
theorem dX4_want_18 : decode cX4_want 18 = .ok (.dup, 1) := by decide +kernel
theorem dX4_want_19 : decode cX4_want 19 = .ok (.ldc 105, 2) := by decide +kernel
theorem dX4_want_21 : decode cX4_want 21 = .ok (.invokespecial 42, 3) := by decide +kernel
theorem dX4_want_24 : decode cX4_want 24 = .ok (.athrow, 1) := by decide +kernel
theorem dX4_want_25 : decode cX4_want 25 = .ok (.aload_n 0, 1) := by decide +kernel
theorem dX4_want_26 : decode cX4_want 26 = .ok (.invokevirtual 54, 3) := by decide +kernel
theorem dX4_want_29 : decode cX4_want 29 = .ok (.aload_n 0, 1) := by decide +kernel
theorem dX4_want_30 : decode cX4_want 30 = .ok (.getfield 10, 3) := by decide +kernel
theorem dX4_want_33 : decode cX4_want 33 = .ok (.getfield 107, 3) := by decide +kernel
theorem dX4_want_36 : decode cX4_want 36 = .ok (.iload_n 1, 1) := by decide +kernel
theorem dX4_want_37 : decode cX4_want 37 = .ok (.iaload, 1) := by decide +kernel
theorem dX4_want_38 : decode cX4_want 38 = .ok (.istore_n 3, 1) := by decide +kernel
theorem dX4_want_39 : decode cX4_want 39 = .ok (.aload_n 0, 1) := by decide +kernel
theorem dX4_want_40 : decode cX4_want 40 = .ok (.getfield 10, 3) := by decide +kernel
theorem dX4_want_43 : decode cX4_want 43 = .ok (.getfield 107, 3) := by decide +kernel
theorem dX4_want_46 : decode cX4_want 46 = .ok (.iload_n 1, 1) := by decide +kernel
theorem dX4_want_47 : decode cX4_want 47 = .ok (.iload_n 2, 1) := by decide +kernel
theorem dX4_want_48 : decode cX4_want 48 = .ok (.iastore, 1) := by decide +kernel
theorem dX4_want_49 : decode cX4_want 49 = .ok (.iload_n 3, 1) := by decide +kernel
theorem dX4_want_50 : decode cX4_want 50 = .ok (.ireturn, 1) := by decide +kernel
theorem dX4_set_0 : decode cX4_set 0 = .ok (.iload_n 1, 1) := by decide +kernel
theorem dX4_set_1 : decode cX4_set 1 = .ok (.invokestatic 110, 3) := by decide +kernel
theorem dX4_set_4 : decode cX4_set 4 = .ok (.iload_n 2, 1) := by decide +kernel
theorem dX4_set_5 : decode cX4_set 5 = .ok (.iload_n 1, 1) := by decide +kernel
theorem dX4_set_6 : decode cX4_set 6 = .ok (.invokestatic 113, 3) := by decide +kernel
theorem dX4_set_9 : decode cX4_set 9 = .ok (.iload_n 1, 1) := by decide +kernel
theorem dX4_set_10 : decode cX4_set 10 = .ok (.invokestatic 116, 3) := by decide +kernel
theorem dX4_set_13 : decode cX4_set 13 = .ok (.invokestatic 34, 3) := by decide +kernel
theorem dX4_set_16 : decode cX4_set 16 = .ok (.ifCond .ne 13, 3) := by decide +kernel
theorem dX4_set_19 : decode cX4_set 19 = .ok (.new 38, 3) := by decide +kernel
theorem dX4_set_22 : decode cX4_set 22 = .ok (.dup, 1) := by decide +kernel
theorem dX4_set_23 : decode cX4_set 23 = .ok (.ldc 119, 2) := by decide +kernel
theorem dX4_set_25 : decode cX4_set 25 = .ok (.invokespecial 42, 3) := by decide +kernel
theorem dX4_set_28 : decode cX4_set 28 = .ok (.athrow, 1) := by decide +kernel
theorem dX4_set_29 : decode cX4_set 29 = .ok (.aload_n 0, 1) := by decide +kernel
theorem dX4_set_30 : decode cX4_set 30 = .ok (.invokevirtual 54, 3) := by decide +kernel
theorem dX4_set_33 : decode cX4_set 33 = .ok (.aload_n 0, 1) := by decide +kernel
theorem dX4_set_34 : decode cX4_set 34 = .ok (.getfield 10, 3) := by decide +kernel
theorem dX4_set_37 : decode cX4_set 37 = .ok (.getfield 121, 3) := by decide +kernel
theorem dX4_set_40 : decode cX4_set 40 = .ok (.iload_n 1, 1) := by decide +kernel
theorem dX4_set_41 : decode cX4_set 41 = .ok (.iaload, 1) := by decide +kernel
theorem dX4_set_42 : decode cX4_set 42 = .ok (.istore_n 3, 1) := by decide +kernel
theorem dX4_set_43 : decode cX4_set 43 = .ok (.aload_n 0, 1) := by decide +kernel
theorem dX4_set_44 : decode cX4_set 44 = .ok (.getfield 10, 3) := by decide +kernel
theorem dX4_set_47 : decode cX4_set 47 = .ok (.getfield 121, 3) := by decide +kernel
theorem dX4_set_50 : decode cX4_set 50 = .ok (.iload_n 1, 1) := by decide +kernel
theorem dX4_set_51 : decode cX4_set 51 = .ok (.iload_n 2, 1) := by decide +kernel
theorem dX4_set_52 : decode cX4_set 52 = .ok (.iastore, 1) := by decide +kernel
theorem dX4_set_53 : decode cX4_set 53 = .ok (.iload_n 3, 1) := by decide +kernel
theorem dX4_set_54 : decode cX4_set 54 = .ok (.ireturn, 1) := by decide +kernel
theorem dX4_pass_0 : decode cX4_pass 0 = .ok (.iload_n 1, 1) := by decide +kernel
theorem dX4_pass_1 : decode cX4_pass 1 = .ok (.iconst 1, 1) := by decide +kernel
theorem dX4_pass_2 : decode cX4_pass 2 = .ok (.bipush 100, 2) := by decide +kernel
theorem dX4_pass_4 : decode cX4_pass 4 = .ok (.invokestatic 34, 3) := by decide +kernel
theorem dX4_pass_7 : decode cX4_pass 7 = .ok (.ifCond .ne 13, 3) := by decide +kernel
theorem dX4_pass_10 : decode cX4_pass 10 = .ok (.new 38, 3) := by decide +kernel
theorem dX4_pass_13 : decode cX4_pass 13 = .ok (.dup, 1) := by decide +kernel
theorem dX4_pass_14 : decode cX4_pass 14 = .ok (.ldc 84, 2) := by decide +kernel
theorem dX4_pass_16 : decode cX4_pass 16 = .ok (.invokespecial 42, 3) := by decide +kernel
theorem dX4_pass_19 : decode cX4_pass 19 = .ok (.athrow, 1) := by decide +kernel
theorem dX4_pass_20 : decode cX4_pass 20 = .ok (.aload_n 0, 1) := by decide +kernel
theorem dX4_pass_21 : decode cX4_pass 21 = .ok (.invokevirtual 54, 3) := by decide +kernel
theorem dX4_pass_24 : decode cX4_pass 24 = .ok (.iconst 0, 1) := by decide +kernel
theorem dX4_pass_25 : decode cX4_pass 25 = .ok (.istore_n 2, 1) := by decide +kernel
theorem dX4_pass_26 : decode cX4_pass 26 = .ok (.iload_n 2, 1) := by decide +kernel
theorem dX4_pass_27 : decode cX4_pass 27 = .ok (.iload_n 1, 1) := by decide +kernel
theorem dX4_pass_28 : decode cX4_pass 28 = .ok (.if_icmp .ge 16, 3) := by decide +kernel
theorem dX4_pass_31 : decode cX4_pass 31 = .ok (.aload_n 0, 1) := by decide +kernel
theorem dX4_pass_32 : decode cX4_pass 32 = .ok (.getfield 10, 3) := by decide +kernel
theorem dX4_pass_35 : decode cX4_pass 35 = .ok (.invokevirtual 124, 3) := by decide +kernel
theorem dX4_pass_38 : decode cX4_pass 38 = .ok (.iinc 2 1, 3) := by decide +kernel
theorem dX4_pass_41 : decode cX4_pass 41 = .ok (.goto (-15), 3) := by decide +kernel
theorem dX4_pass_44 : decode cX4_pass 44 = .ok (.aload_n 0, 1) := by decide +kernel
theorem dX4_pass_45 : decode cX4_pass 45 = .ok (.getfield 10, 3) := by decide +kernel
theorem dX4_pass_48 : decode cX4_pass 48 = .ok (.getfield 127, 3) := by decide +kernel
theorem dX4_pass_51 : decode cX4_pass 51 = .ok (.ireturn, 1) := by decide +kernel
theorem dX4_append_0 : decode cX4_append 0 = .ok (.iload_n 1, 1) := by decide +kernel
theorem dX4_append_1 : decode cX4_append 1 = .ok (.bipush 33, 2) := by decide +kernel
theorem dX4_append_3 : decode cX4_append 3 = .ok (.bipush 126, 2) := by decide +kernel
theorem dX4_append_5 : decode cX4_append 5 = .ok (.invokestatic 34, 3) := by decide +kernel
theorem dX4_append_8 : decode cX4_append 8 = .ok (.ifCond .ne 13, 3) := by decide +kernel
theorem dX4_append_11 : decode cX4_append 11 = .ok (.new 38, 3) := by decide +kernel
theorem dX4_append_14 : decode cX4_append 14 = .ok (.dup, 1) := by decide +kernel
theorem dX4_append_15 : decode cX4_append 15 = .ok (.ldc 130, 2) := by decide +kernel
theorem dX4_append_17 : decode cX4_append 17 = .ok (.invokespecial 42, 3) := by decide +kernel
theorem dX4_append_20 : decode cX4_append 20 = .ok (.athrow, 1) := by decide +kernel
theorem dX4_append_21 : decode cX4_append 21 = .ok (.aload_n 0, 1) := by decide +kernel
theorem dX4_append_22 : decode cX4_append 22 = .ok (.getfield 30, 3) := by decide +kernel
theorem dX4_append_25 : decode cX4_append 25 = .ok (.invokevirtual 132, 3) := by decide +kernel
theorem dX4_append_28 : decode cX4_append 28 = .ok (.ifCond .eq 13, 3) := by decide +kernel
theorem dX4_append_31 : decode cX4_append 31 = .ok (.new 49, 3) := by decide +kernel
theorem dX4_append_34 : decode cX4_append 34 = .ok (.dup, 1) := by decide +kernel
theorem dX4_append_35 : decode cX4_append 35 = .ok (.ldc 136, 2) := by decide +kernel
theorem dX4_append_37 : decode cX4_append 37 = .ok (.invokespecial 53, 3) := by decide +kernel
theorem dX4_append_40 : decode cX4_append 40 = .ok (.athrow, 1) := by decide +kernel
theorem dX4_append_41 : decode cX4_append 41 = .ok (.aload_n 0, 1) := by decide +kernel
theorem dX4_append_42 : decode cX4_append 42 = .ok (.getfield 30, 3) := by decide +kernel
theorem dX4_append_45 : decode cX4_append 45 = .ok (.iload_n 1, 1) := by decide +kernel
theorem dX4_append_46 : decode cX4_append 46 = .ok (.invokevirtual 138, 3) := by decide +kernel
theorem dX4_append_49 : decode cX4_append 49 = .ok (.aload_n 0, 1) := by decide +kernel
theorem dX4_append_50 : decode cX4_append 50 = .ok (.getfield 30, 3) := by decide +kernel
theorem dX4_append_53 : decode cX4_append 53 = .ok (.getfield 141, 3) := by decide +kernel
theorem dX4_append_56 : decode cX4_append 56 = .ok (.ireturn, 1) := by decide +kernel
theorem dX4_clearBuffer_0 : decode cX4_clearBuffer 0 = .ok (.aload_n 0, 1) := by decide +kernel
theorem dX4_clearBuffer_1 : decode cX4_clearBuffer 1 = .ok (.getfield 30, 3) := by decide +kernel
theorem dX4_clearBuffer_4 : decode cX4_clearBuffer 4 = .ok (.getfield 141, 3) := by decide +kernel
theorem dX4_clearBuffer_7 : decode cX4_clearBuffer 7 = .ok (.istore_n 1, 1) := by decide +kernel
theorem dX4_clearBuffer_8 : decode cX4_clearBuffer 8 = .ok (.aload_n 0, 1) := by decide +kernel
theorem dX4_clearBuffer_9 : decode cX4_clearBuffer 9 = .ok (.getfield 30, 3) := by decide +kernel
theorem dX4_clearBuffer_12 : decode cX4_clearBuffer 12 = .ok (.iconst 0, 1) := by decide +kernel
theorem dX4_clearBuffer_13 : decode cX4_clearBuffer 13 = .ok (.putfield 141, 3) := by decide +kernel
theorem dX4_clearBuffer_16 : decode cX4_clearBuffer 16 = .ok (.iload_n 1, 1) := by decide +kernel
theorem dX4_clearBuffer_17 : decode cX4_clearBuffer 17 = .ok (.ireturn, 1) := by decide +kernel
theorem dX4_firstError_0 : decode cX4_firstError 0 = .ok (.aload_n 0, 1) := by decide +kernel
theorem dX4_firstError_1 : decode cX4_firstError 1 = .ok (.getfield 30, 3) := by decide +kernel
theorem dX4_firstError_4 : decode cX4_firstError 4 = .ok (.invokevirtual 144, 3) := by decide +kernel
theorem dX4_firstError_7 : decode cX4_firstError 7 = .ok (.ireturn, 1) := by decide +kernel
theorem dX4_buyAll_0 : decode cX4_buyAll 0 = .ok (.aload_n 0, 1) := by decide +kernel
theorem dX4_buyAll_1 : decode cX4_buyAll 1 = .ok (.getfield 30, 3) := by decide +kernel
theorem dX4_buyAll_4 : decode cX4_buyAll 4 = .ok (.invokevirtual 148, 3) := by decide +kernel
theorem dX4_buyAll_7 : decode cX4_buyAll 7 = .ok (.ifCond .ne 13, 3) := by decide +kernel
theorem dX4_buyAll_10 : decode cX4_buyAll 10 = .ok (.new 38, 3) := by decide +kernel
theorem dX4_buyAll_13 : decode cX4_buyAll 13 = .ok (.dup, 1) := by decide +kernel
theorem dX4_buyAll_14 : decode cX4_buyAll 14 = .ok (.ldc 151, 2) := by decide +kernel
theorem dX4_buyAll_16 : decode cX4_buyAll 16 = .ok (.invokespecial 42, 3) := by decide +kernel
theorem dX4_buyAll_19 : decode cX4_buyAll 19 = .ok (.athrow, 1) := by decide +kernel
theorem dX4_buyAll_20 : decode cX4_buyAll 20 = .ok (.aload_n 0, 1) := by decide +kernel
theorem dX4_buyAll_21 : decode cX4_buyAll 21 = .ok (.invokevirtual 54, 3) := by decide +kernel
theorem dX4_buyAll_24 : decode cX4_buyAll 24 = .ok (.aload_n 0, 1) := by decide +kernel
theorem dX4_buyAll_25 : decode cX4_buyAll 25 = .ok (.invokevirtual 153, 3) := by decide +kernel
theorem dX4_buyAll_28 : decode cX4_buyAll 28 = .ok (.istore_n 1, 1) := by decide +kernel
theorem dX4_buyAll_29 : decode cX4_buyAll 29 = .ok (.aload_n 0, 1) := by decide +kernel
theorem dX4_buyAll_30 : decode cX4_buyAll 30 = .ok (.getfield 30, 3) := by decide +kernel
theorem dX4_buyAll_33 : decode cX4_buyAll 33 = .ok (.iconst 0, 1) := by decide +kernel
theorem dX4_buyAll_34 : decode cX4_buyAll 34 = .ok (.putfield 141, 3) := by decide +kernel
theorem dX4_buyAll_37 : decode cX4_buyAll 37 = .ok (.iload_n 1, 1) := by decide +kernel
theorem dX4_buyAll_38 : decode cX4_buyAll 38 = .ok (.ireturn, 1) := by decide +kernel
theorem dX4_undo_0 : decode cX4_undo 0 = .ok (.aload_n 0, 1) := by decide +kernel
theorem dX4_undo_1 : decode cX4_undo 1 = .ok (.getfield 24, 3) := by decide +kernel
theorem dX4_undo_4 : decode cX4_undo 4 = .ok (.ifCond .ne 13, 3) := by decide +kernel
theorem dX4_undo_7 : decode cX4_undo 7 = .ok (.new 49, 3) := by decide +kernel
theorem dX4_undo_10 : decode cX4_undo 10 = .ok (.dup, 1) := by decide +kernel
theorem dX4_undo_11 : decode cX4_undo 11 = .ok (.ldc 156, 2) := by decide +kernel
theorem dX4_undo_13 : decode cX4_undo 13 = .ok (.invokespecial 53, 3) := by decide +kernel
theorem dX4_undo_16 : decode cX4_undo 16 = .ok (.athrow, 1) := by decide +kernel
theorem dX4_undo_17 : decode cX4_undo 17 = .ok (.aload_n 0, 1) := by decide +kernel
theorem dX4_undo_18 : decode cX4_undo 18 = .ok (.getfield 16, 3) := by decide +kernel
theorem dX4_undo_21 : decode cX4_undo 21 = .ok (.aload_n 0, 1) := by decide +kernel
theorem dX4_undo_22 : decode cX4_undo 22 = .ok (.getfield 20, 3) := by decide +kernel
theorem dX4_undo_25 : decode cX4_undo 25 = .ok (.aaload, 1) := by decide +kernel
theorem dX4_undo_26 : decode cX4_undo 26 = .ok (.astore_n 1, 1) := by decide +kernel
theorem dX4_undo_27 : decode cX4_undo 27 = .ok (.aload_n 1, 1) := by decide +kernel
theorem dX4_undo_28 : decode cX4_undo 28 = .ok (.ifnull 11, 3) := by decide +kernel
theorem dX4_undo_31 : decode cX4_undo 31 = .ok (.aload_n 0, 1) := by decide +kernel
theorem dX4_undo_32 : decode cX4_undo 32 = .ok (.getfield 10, 3) := by decide +kernel
theorem dX4_undo_35 : decode cX4_undo 35 = .ok (.aload_n 1, 1) := by decide +kernel
theorem dX4_undo_36 : decode cX4_undo 36 = .ok (.invokevirtual 158, 3) := by decide +kernel
theorem dX4_undo_39 : decode cX4_undo 39 = .ok (.aload_n 0, 1) := by decide +kernel
theorem dX4_undo_40 : decode cX4_undo 40 = .ok (.aload_n 0, 1) := by decide +kernel
theorem dX4_undo_41 : decode cX4_undo 41 = .ok (.getfield 20, 3) := by decide +kernel
theorem dX4_undo_44 : decode cX4_undo 44 = .ok (.ifCond .ne 7, 3) := by decide +kernel
theorem dX4_undo_47 : decode cX4_undo 47 = .ok (.iconst 5, 1) := by decide +kernel
theorem dX4_undo_48 : decode cX4_undo 48 = .ok (.goto 9, 3) := by decide +kernel
theorem dX4_undo_51 : decode cX4_undo 51 = .ok (.aload_n 0, 1) := by decide +kernel
theorem dX4_undo_52 : decode cX4_undo 52 = .ok (.getfield 20, 3) := by decide +kernel
theorem dX4_undo_55 : decode cX4_undo 55 = .ok (.iconst 1, 1) := by decide +kernel
theorem dX4_undo_56 : decode cX4_undo 56 = .ok (.isub, 1) := by decide +kernel
theorem dX4_undo_57 : decode cX4_undo 57 = .ok (.putfield 20, 3) := by decide +kernel
theorem dX4_undo_60 : decode cX4_undo 60 = .ok (.aload_n 0, 1) := by decide +kernel
theorem dX4_undo_61 : decode cX4_undo 61 = .ok (.dup, 1) := by decide +kernel
theorem dX4_undo_62 : decode cX4_undo 62 = .ok (.getfield 24, 3) := by decide +kernel
theorem dX4_undo_65 : decode cX4_undo 65 = .ok (.iconst 1, 1) := by decide +kernel
theorem dX4_undo_66 : decode cX4_undo 66 = .ok (.isub, 1) := by decide +kernel
theorem dX4_undo_67 : decode cX4_undo 67 = .ok (.putfield 24, 3) := by decide +kernel
theorem dX4_undo_70 : decode cX4_undo 70 = .ok (.aload_n 0, 1) := by decide +kernel
theorem dX4_undo_71 : decode cX4_undo 71 = .ok (.getfield 24, 3) := by decide +kernel
theorem dX4_undo_74 : decode cX4_undo 74 = .ok (.ireturn, 1) := by decide +kernel
theorem dX4_hose_0 : decode cX4_hose 0 = .ok (.aload_n 0, 1) := by decide +kernel
theorem dX4_hose_1 : decode cX4_hose 1 = .ok (.iload_n 1, 1) := by decide +kernel
theorem dX4_hose_2 : decode cX4_hose 2 = .ok (.invokevirtual 61, 3) := by decide +kernel
theorem dX4_hose_5 : decode cX4_hose 5 = .ok (.iload_n 2, 1) := by decide +kernel
theorem dX4_hose_6 : decode cX4_hose 6 = .ok (.iconst 0, 1) := by decide +kernel
theorem dX4_hose_7 : decode cX4_hose 7 = .ok (.bipush 9, 2) := by decide +kernel
theorem dX4_hose_9 : decode cX4_hose 9 = .ok (.invokestatic 34, 3) := by decide +kernel
theorem dX4_hose_12 : decode cX4_hose 12 = .ok (.ifCond .ne 13, 3) := by decide +kernel
theorem dX4_hose_15 : decode cX4_hose 15 = .ok (.new 38, 3) := by decide +kernel
theorem dX4_hose_18 : decode cX4_hose 18 = .ok (.dup, 1) := by decide +kernel
theorem dX4_hose_19 : decode cX4_hose 19 = .ok (.ldc 162, 2) := by decide +kernel
theorem dX4_hose_21 : decode cX4_hose 21 = .ok (.invokespecial 42, 3) := by decide +kernel
theorem dX4_hose_24 : decode cX4_hose 24 = .ok (.athrow, 1) := by decide +kernel
theorem dX4_hose_25 : decode cX4_hose 25 = .ok (.iload_n 2, 1) := by decide +kernel
theorem dX4_hose_26 : decode cX4_hose 26 = .ok (.tableswitch 148 0 8 #[50, 60, 70, 80, 90, 100, 118, 128, 138], 50) := by decide +kernel
theorem dX4_hose_76 : decode cX4_hose 76 = .ok (.aload_n 0, 1) := by decide +kernel
theorem dX4_hose_77 : decode cX4_hose 77 = .ok (.getfield 10, 3) := by decide +kernel
theorem dX4_hose_80 : decode cX4_hose 80 = .ok (.getfield 68, 3) := by decide +kernel
theorem dX4_hose_83 : decode cX4_hose 83 = .ok (.iload_n 1, 1) := by decide +kernel
theorem dX4_hose_84 : decode cX4_hose 84 = .ok (.iaload, 1) := by decide +kernel
theorem dX4_hose_85 : decode cX4_hose 85 = .ok (.ireturn, 1) := by decide +kernel
theorem dX4_hose_86 : decode cX4_hose 86 = .ok (.aload_n 0, 1) := by decide +kernel
theorem dX4_hose_87 : decode cX4_hose 87 = .ok (.getfield 10, 3) := by decide +kernel
theorem dX4_hose_90 : decode cX4_hose 90 = .ok (.getfield 72, 3) := by decide +kernel
theorem dX4_hose_93 : decode cX4_hose 93 = .ok (.iload_n 1, 1) := by decide +kernel
theorem dX4_hose_94 : decode cX4_hose 94 = .ok (.iaload, 1) := by decide +kernel
theorem dX4_hose_95 : decode cX4_hose 95 = .ok (.ireturn, 1) := by decide +kernel
theorem dX4_hose_96 : decode cX4_hose 96 = .ok (.aload_n 0, 1) := by decide +kernel
theorem dX4_hose_97 : decode cX4_hose 97 = .ok (.getfield 10, 3) := by decide +kernel
theorem dX4_hose_100 : decode cX4_hose 100 = .ok (.getfield 164, 3) := by decide +kernel
theorem dX4_hose_103 : decode cX4_hose 103 = .ok (.iload_n 1, 1) := by decide +kernel
theorem dX4_hose_104 : decode cX4_hose 104 = .ok (.iaload, 1) := by decide +kernel
theorem dX4_hose_105 : decode cX4_hose 105 = .ok (.ireturn, 1) := by decide +kernel
theorem dX4_hose_106 : decode cX4_hose 106 = .ok (.aload_n 0, 1) := by decide +kernel
theorem dX4_hose_107 : decode cX4_hose 107 = .ok (.getfield 10, 3) := by decide +kernel
theorem dX4_hose_110 : decode cX4_hose 110 = .ok (.getfield 167, 3) := by decide +kernel
theorem dX4_hose_113 : decode cX4_hose 113 = .ok (.iload_n 1, 1) := by decide +kernel
theorem dX4_hose_114 : decode cX4_hose 114 = .ok (.iaload, 1) := by decide +kernel
theorem dX4_hose_115 : decode cX4_hose 115 = .ok (.ireturn, 1) := by decide +kernel
theorem dX4_hose_116 : decode cX4_hose 116 = .ok (.aload_n 0, 1) := by decide +kernel
theorem dX4_hose_117 : decode cX4_hose 117 = .ok (.getfield 10, 3) := by decide +kernel
theorem dX4_hose_120 : decode cX4_hose 120 = .ok (.getfield 170, 3) := by decide +kernel
theorem dX4_hose_123 : decode cX4_hose 123 = .ok (.iload_n 1, 1) := by decide +kernel
theorem dX4_hose_124 : decode cX4_hose 124 = .ok (.iaload, 1) := by decide +kernel
theorem dX4_hose_125 : decode cX4_hose 125 = .ok (.ireturn, 1) := by decide +kernel
theorem dX4_hose_126 : decode cX4_hose 126 = .ok (.aload_n 0, 1) := by decide +kernel
theorem dX4_hose_127 : decode cX4_hose 127 = .ok (.getfield 10, 3) := by decide +kernel
theorem dX4_hose_130 : decode cX4_hose 130 = .ok (.iload_n 1, 1) := by decide +kernel
theorem dX4_hose_131 : decode cX4_hose 131 = .ok (.aload_n 0, 1) := by decide +kernel
theorem dX4_hose_132 : decode cX4_hose 132 = .ok (.getfield 10, 3) := by decide +kernel
theorem dX4_hose_135 : decode cX4_hose 135 = .ok (.getfield 170, 3) := by decide +kernel
theorem dX4_hose_138 : decode cX4_hose 138 = .ok (.iload_n 1, 1) := by decide +kernel
theorem dX4_hose_139 : decode cX4_hose 139 = .ok (.iaload, 1) := by decide +kernel
theorem dX4_hose_140 : decode cX4_hose 140 = .ok (.invokevirtual 173, 3) := by decide +kernel
theorem dX4_hose_143 : decode cX4_hose 143 = .ok (.ireturn, 1) := by decide +kernel
theorem dX4_hose_144 : decode cX4_hose 144 = .ok (.aload_n 0, 1) := by decide +kernel
theorem dX4_hose_145 : decode cX4_hose 145 = .ok (.getfield 10, 3) := by decide +kernel
theorem dX4_hose_148 : decode cX4_hose 148 = .ok (.getfield 176, 3) := by decide +kernel
theorem dX4_hose_151 : decode cX4_hose 151 = .ok (.iload_n 1, 1) := by decide +kernel
theorem dX4_hose_152 : decode cX4_hose 152 = .ok (.iaload, 1) := by decide +kernel
theorem dX4_hose_153 : decode cX4_hose 153 = .ok (.ireturn, 1) := by decide +kernel
theorem dX4_hose_154 : decode cX4_hose 154 = .ok (.aload_n 0, 1) := by decide +kernel
theorem dX4_hose_155 : decode cX4_hose 155 = .ok (.getfield 10, 3) := by decide +kernel
theorem dX4_hose_158 : decode cX4_hose 158 = .ok (.getfield 81, 3) := by decide +kernel
theorem dX4_hose_161 : decode cX4_hose 161 = .ok (.iload_n 1, 1) := by decide +kernel
theorem dX4_hose_162 : decode cX4_hose 162 = .ok (.iaload, 1) := by decide +kernel
theorem dX4_hose_163 : decode cX4_hose 163 = .ok (.ireturn, 1) := by decide +kernel
theorem dX4_hose_164 : decode cX4_hose 164 = .ok (.aload_n 0, 1) := by decide +kernel
theorem dX4_hose_165 : decode cX4_hose 165 = .ok (.getfield 10, 3) := by decide +kernel
theorem dX4_hose_168 : decode cX4_hose 168 = .ok (.getfield 179, 3) := by decide +kernel
theorem dX4_hose_171 : decode cX4_hose 171 = .ok (.iload_n 1, 1) := by decide +kernel
theorem dX4_hose_172 : decode cX4_hose 172 = .ok (.iaload, 1) := by decide +kernel
theorem dX4_hose_173 : decode cX4_hose 173 = .ok (.ireturn, 1) := by decide +kernel
theorem dX4_hose_174 : decode cX4_hose 174 = .ok (.aload_n 0, 1) := by decide +kernel
theorem dX4_hose_175 : decode cX4_hose 175 = .ok (.getfield 10, 3) := by decide +kernel
theorem dX4_hose_178 : decode cX4_hose 178 = .ok (.iload_n 1, 1) := by decide +kernel
theorem dX4_hose_179 : decode cX4_hose 179 = .ok (.invokevirtual 182, 3) := by decide +kernel
theorem dX4_hose_182 : decode cX4_hose 182 = .ok (.ireturn, 1) := by decide +kernel
theorem dX4_truck_0 : decode cX4_truck 0 = .ok (.iload_n 1, 1) := by decide +kernel
theorem dX4_truck_1 : decode cX4_truck 1 = .ok (.invokestatic 102, 3) := by decide +kernel
theorem dX4_truck_4 : decode cX4_truck 4 = .ok (.iload_n 2, 1) := by decide +kernel
theorem dX4_truck_5 : decode cX4_truck 5 = .ok (.iconst 0, 1) := by decide +kernel
theorem dX4_truck_6 : decode cX4_truck 6 = .ok (.bipush 6, 2) := by decide +kernel
theorem dX4_truck_8 : decode cX4_truck 8 = .ok (.invokestatic 34, 3) := by decide +kernel
theorem dX4_truck_11 : decode cX4_truck 11 = .ok (.ifCond .ne 13, 3) := by decide +kernel
theorem dX4_truck_14 : decode cX4_truck 14 = .ok (.new 38, 3) := by decide +kernel
theorem dX4_truck_17 : decode cX4_truck 17 = .ok (.dup, 1) := by decide +kernel
theorem dX4_truck_18 : decode cX4_truck 18 = .ok (.ldc 185, 2) := by decide +kernel
theorem dX4_truck_20 : decode cX4_truck 20 = .ok (.invokespecial 42, 3) := by decide +kernel
theorem dX4_truck_23 : decode cX4_truck 23 = .ok (.athrow, 1) := by decide +kernel
theorem dX4_truck_24 : decode cX4_truck 24 = .ok (.aload_n 0, 1) := by decide +kernel
theorem dX4_truck_25 : decode cX4_truck 25 = .ok (.getfield 10, 3) := by decide +kernel
theorem dX4_truck_28 : decode cX4_truck 28 = .ok (.iload_n 1, 1) := by decide +kernel
theorem dX4_truck_29 : decode cX4_truck 29 = .ok (.iconst (-1), 1) := by decide +kernel
theorem dX4_truck_30 : decode cX4_truck 30 = .ok (.invokevirtual 187, 3) := by decide +kernel
theorem dX4_truck_33 : decode cX4_truck 33 = .ok (.istore_n 3, 1) := by decide +kernel
theorem dX4_truck_34 : decode cX4_truck 34 = .ok (.iload_n 2, 1) := by decide +kernel
theorem dX4_truck_35 : decode cX4_truck 35 = .ok (.tableswitch 98 0 5 #[37, 47, 58, 67, 76, 87], 37) := by decide +kernel
theorem dX4_truck_72 : decode cX4_truck 72 = .ok (.aload_n 0, 1) := by decide +kernel
theorem dX4_truck_73 : decode cX4_truck 73 = .ok (.getfield 10, 3) := by decide +kernel
theorem dX4_truck_76 : decode cX4_truck 76 = .ok (.getfield 107, 3) := by decide +kernel
theorem dX4_truck_79 : decode cX4_truck 79 = .ok (.iload_n 1, 1) := by decide +kernel
theorem dX4_truck_80 : decode cX4_truck 80 = .ok (.iaload, 1) := by decide +kernel
theorem dX4_truck_81 : decode cX4_truck 81 = .ok (.ireturn, 1) := by decide +kernel
theorem dX4_truck_82 : decode cX4_truck 82 = .ok (.aload_n 0, 1) := by decide +kernel
theorem dX4_truck_83 : decode cX4_truck 83 = .ok (.getfield 10, 3) := by decide +kernel
theorem dX4_truck_86 : decode cX4_truck 86 = .ok (.getfield 190, 3) := by decide +kernel
theorem dX4_truck_89 : decode cX4_truck 89 = .ok (.getfield 194, 3) := by decide +kernel
theorem dX4_truck_92 : decode cX4_truck 92 = .ok (.ireturn, 1) := by decide +kernel
theorem dX4_truck_93 : decode cX4_truck 93 = .ok (.aload_n 0, 1) := by decide +kernel
theorem dX4_truck_94 : decode cX4_truck 94 = .ok (.getfield 10, 3) := by decide +kernel
theorem dX4_truck_97 : decode cX4_truck 97 = .ok (.iload_n 1, 1) := by decide +kernel
theorem dX4_truck_98 : decode cX4_truck 98 = .ok (.invokevirtual 199, 3) := by decide +kernel
theorem dX4_truck_101 : decode cX4_truck 101 = .ok (.ireturn, 1) := by decide +kernel
theorem dX4_truck_102 : decode cX4_truck 102 = .ok (.aload_n 0, 1) := by decide +kernel
theorem dX4_truck_103 : decode cX4_truck 103 = .ok (.getfield 10, 3) := by decide +kernel
theorem dX4_truck_106 : decode cX4_truck 106 = .ok (.iload_n 1, 1) := by decide +kernel
theorem dX4_truck_107 : decode cX4_truck 107 = .ok (.invokevirtual 202, 3) := by decide +kernel
theorem dX4_truck_110 : decode cX4_truck 110 = .ok (.ireturn, 1) := by decide +kernel
theorem dX4_truck_111 : decode cX4_truck 111 = .ok (.aload_n 0, 1) := by decide +kernel
theorem dX4_truck_112 : decode cX4_truck 112 = .ok (.getfield 10, 3) := by decide +kernel
theorem dX4_truck_115 : decode cX4_truck 115 = .ok (.getfield 190, 3) := by decide +kernel
theorem dX4_truck_118 : decode cX4_truck 118 = .ok (.getfield 205, 3) := by decide +kernel
theorem dX4_truck_121 : decode cX4_truck 121 = .ok (.ireturn, 1) := by decide +kernel
theorem dX4_truck_122 : decode cX4_truck 122 = .ok (.aload_n 0, 1) := by decide +kernel
theorem dX4_truck_123 : decode cX4_truck 123 = .ok (.getfield 10, 3) := by decide +kernel
theorem dX4_truck_126 : decode cX4_truck 126 = .ok (.getfield 190, 3) := by decide +kernel
theorem dX4_truck_129 : decode cX4_truck 129 = .ok (.getfield 208, 3) := by decide +kernel
theorem dX4_truck_132 : decode cX4_truck 132 = .ok (.ireturn, 1) := by decide +kernel
theorem dX4_truck_133 : decode cX4_truck 133 = .ok (.iload_n 3, 1) := by decide +kernel
theorem dX4_truck_134 : decode cX4_truck 134 = .ok (.ifCond .eq 7, 3) := by decide +kernel
theorem dX4_truck_137 : decode cX4_truck 137 = .ok (.iconst 1, 1) := by decide +kernel
theorem dX4_truck_138 : decode cX4_truck 138 = .ok (.goto 4, 3) := by decide +kernel
theorem dX4_truck_141 : decode cX4_truck 141 = .ok (.iconst 0, 1) := by decide +kernel
theorem dX4_truck_142 : decode cX4_truck 142 = .ok (.ireturn, 1) := by decide +kernel
theorem dX4_count_0 : decode cX4_count 0 = .ok (.iload_n 1, 1) := by decide +kernel
theorem dX4_count_1 : decode cX4_count 1 = .ok (.iconst 0, 1) := by decide +kernel
theorem dX4_count_2 : decode cX4_count 2 = .ok (.bipush 10, 2) := by decide +kernel
theorem dX4_count_4 : decode cX4_count 4 = .ok (.invokestatic 34, 3) := by decide +kernel
theorem dX4_count_7 : decode cX4_count 7 = .ok (.ifCond .ne 13, 3) := by decide +kernel
theorem dX4_count_10 : decode cX4_count 10 = .ok (.new 38, 3) := by decide +kernel
theorem dX4_count_13 : decode cX4_count 13 = .ok (.dup, 1) := by decide +kernel
theorem dX4_count_14 : decode cX4_count 14 = .ok (.ldc 211, 2) := by decide +kernel
theorem dX4_count_16 : decode cX4_count 16 = .ok (.invokespecial 42, 3) := by decide +kernel
theorem dX4_count_19 : decode cX4_count 19 = .ok (.athrow, 1) := by decide +kernel
theorem dX4_count_20 : decode cX4_count 20 = .ok (.iload_n 1, 1) := by decide +kernel
theorem dX4_count_21 : decode cX4_count 21 = .ok (.tableswitch 137 0 9 #[55, 63, 71, 79, 88, 96, 105, 113, 121, 129], 55) := by decide +kernel
theorem dX4_count_76 : decode cX4_count 76 = .ok (.aload_n 0, 1) := by decide +kernel
theorem dX4_count_77 : decode cX4_count 77 = .ok (.getfield 10, 3) := by decide +kernel
theorem dX4_count_80 : decode cX4_count 80 = .ok (.getfield 127, 3) := by decide +kernel
theorem dX4_count_83 : decode cX4_count 83 = .ok (.ireturn, 1) := by decide +kernel
theorem dX4_count_84 : decode cX4_count 84 = .ok (.aload_n 0, 1) := by decide +kernel
theorem dX4_count_85 : decode cX4_count 85 = .ok (.getfield 10, 3) := by decide +kernel
theorem dX4_count_88 : decode cX4_count 88 = .ok (.getfield 213, 3) := by decide +kernel
theorem dX4_count_91 : decode cX4_count 91 = .ok (.ireturn, 1) := by decide +kernel
theorem dX4_count_92 : decode cX4_count 92 = .ok (.aload_n 0, 1) := by decide +kernel
theorem dX4_count_93 : decode cX4_count 93 = .ok (.getfield 10, 3) := by decide +kernel
theorem dX4_count_96 : decode cX4_count 96 = .ok (.getfield 216, 3) := by decide +kernel
theorem dX4_count_99 : decode cX4_count 99 = .ok (.ireturn, 1) := by decide +kernel
theorem dX4_count_100 : decode cX4_count 100 = .ok (.aload_n 0, 1) := by decide +kernel
theorem dX4_count_101 : decode cX4_count 101 = .ok (.getfield 10, 3) := by decide +kernel
theorem dX4_count_104 : decode cX4_count 104 = .ok (.iconst (-1), 1) := by decide +kernel
theorem dX4_count_105 : decode cX4_count 105 = .ok (.invokevirtual 199, 3) := by decide +kernel
theorem dX4_count_108 : decode cX4_count 108 = .ok (.ireturn, 1) := by decide +kernel
theorem dX4_count_109 : decode cX4_count 109 = .ok (.aload_n 0, 1) := by decide +kernel
theorem dX4_count_110 : decode cX4_count 110 = .ok (.getfield 10, 3) := by decide +kernel
theorem dX4_count_113 : decode cX4_count 113 = .ok (.invokevirtual 219, 3) := by decide +kernel
theorem dX4_count_116 : decode cX4_count 116 = .ok (.ireturn, 1) := by decide +kernel
theorem dX4_count_117 : decode cX4_count 117 = .ok (.aload_n 0, 1) := by decide +kernel
theorem dX4_count_118 : decode cX4_count 118 = .ok (.getfield 10, 3) := by decide +kernel
theorem dX4_count_121 : decode cX4_count 121 = .ok (.iconst 4, 1) := by decide +kernel
theorem dX4_count_122 : decode cX4_count 122 = .ok (.invokevirtual 199, 3) := by decide +kernel
theorem dX4_count_125 : decode cX4_count 125 = .ok (.ireturn, 1) := by decide +kernel
theorem dX4_count_126 : decode cX4_count 126 = .ok (.aload_n 0, 1) := by decide +kernel
theorem dX4_count_127 : decode cX4_count 127 = .ok (.getfield 10, 3) := by decide +kernel
theorem dX4_count_130 : decode cX4_count 130 = .ok (.invokevirtual 222, 3) := by decide +kernel
theorem dX4_count_133 : decode cX4_count 133 = .ok (.ireturn, 1) := by decide +kernel
theorem dX4_count_134 : decode cX4_count 134 = .ok (.aload_n 0, 1) := by decide +kernel
theorem dX4_count_135 : decode cX4_count 135 = .ok (.getfield 10, 3) := by decide +kernel
theorem dX4_count_138 : decode cX4_count 138 = .ok (.getfield 225, 3) := by decide +kernel
theorem dX4_count_141 : decode cX4_count 141 = .ok (.ireturn, 1) := by decide +kernel
theorem dX4_count_142 : decode cX4_count 142 = .ok (.aload_n 0, 1) := by decide +kernel
theorem dX4_count_143 : decode cX4_count 143 = .ok (.getfield 10, 3) := by decide +kernel
theorem dX4_count_146 : decode cX4_count 146 = .ok (.getfield 228, 3) := by decide +kernel
theorem dX4_count_149 : decode cX4_count 149 = .ok (.ireturn, 1) := by decide +kernel
theorem dX4_count_150 : decode cX4_count 150 = .ok (.aload_n 0, 1) := by decide +kernel
theorem dX4_count_151 : decode cX4_count 151 = .ok (.getfield 10, 3) := by decide +kernel
theorem dX4_count_154 : decode cX4_count 154 = .ok (.getfield 231, 3) := by decide +kernel
theorem dX4_count_157 : decode cX4_count 157 = .ok (.ireturn, 1) := by decide +kernel
theorem dX4_count_158 : decode cX4_count 158 = .ok (.aload_n 0, 1) := by decide +kernel
theorem dX4_count_159 : decode cX4_count 159 = .ok (.getfield 24, 3) := by decide +kernel
theorem dX4_count_162 : decode cX4_count 162 = .ok (.ireturn, 1) := by decide +kernel
theorem dX4_setting_0 : decode cX4_setting 0 = .ok (.iload_n 1, 1) := by decide +kernel
theorem dX4_setting_1 : decode cX4_setting 1 = .ok (.invokestatic 110, 3) := by decide +kernel
theorem dX4_setting_4 : decode cX4_setting 4 = .ok (.aload_n 0, 1) := by decide +kernel
theorem dX4_setting_5 : decode cX4_setting 5 = .ok (.getfield 10, 3) := by decide +kernel
theorem dX4_setting_8 : decode cX4_setting 8 = .ok (.getfield 121, 3) := by decide +kernel
theorem dX4_setting_11 : decode cX4_setting 11 = .ok (.iload_n 1, 1) := by decide +kernel
theorem dX4_setting_12 : decode cX4_setting 12 = .ok (.iaload, 1) := by decide +kernel
theorem dX4_setting_13 : decode cX4_setting 13 = .ok (.ireturn, 1) := by decide +kernel
theorem dX4_ifTested_0 : decode cX4_ifTested 0 = .ok (.aload_n 0, 1) := by decide +kernel
theorem dX4_ifTested_1 : decode cX4_ifTested 1 = .ok (.iload_n 1, 1) := by decide +kernel
theorem dX4_ifTested_2 : decode cX4_ifTested 2 = .ok (.invokevirtual 61, 3) := by decide +kernel
theorem dX4_ifTested_5 : decode cX4_ifTested 5 = .ok (.iload_n 2, 1) := by decide +kernel
theorem dX4_ifTested_6 : decode cX4_ifTested 6 = .ok (.invokestatic 96, 3) := by decide +kernel
theorem dX4_ifTested_9 : decode cX4_ifTested 9 = .ok (.aload_n 0, 1) := by decide +kernel
theorem dX4_ifTested_10 : decode cX4_ifTested 10 = .ok (.getfield 10, 3) := by decide +kernel
theorem dX4_ifTested_13 : decode cX4_ifTested 13 = .ok (.iload_n 1, 1) := by decide +kernel
theorem dX4_ifTested_14 : decode cX4_ifTested 14 = .ok (.invokevirtual 234, 3) := by decide +kernel
theorem dX4_ifTested_17 : decode cX4_ifTested 17 = .ok (.ifCond .eq 7, 3) := by decide +kernel
theorem dX4_ifTested_20 : decode cX4_ifTested 20 = .ok (.iconst (-1), 1) := by decide +kernel
theorem dX4_ifTested_21 : decode cX4_ifTested 21 = .ok (.goto 12, 3) := by decide +kernel
theorem dX4_ifTested_24 : decode cX4_ifTested 24 = .ok (.aload_n 0, 1) := by decide +kernel
theorem dX4_ifTested_25 : decode cX4_ifTested 25 = .ok (.getfield 10, 3) := by decide +kernel
theorem dX4_ifTested_28 : decode cX4_ifTested 28 = .ok (.iload_n 1, 1) := by decide +kernel
theorem dX4_ifTested_29 : decode cX4_ifTested 29 = .ok (.iload_n 2, 1) := by decide +kernel
theorem dX4_ifTested_30 : decode cX4_ifTested 30 = .ok (.invokevirtual 237, 3) := by decide +kernel
theorem dX4_ifTested_33 : decode cX4_ifTested 33 = .ok (.ireturn, 1) := by decide +kernel
theorem dX4_safe_0 : decode cX4_safe 0 = .ok (.aload_n 0, 1) := by decide +kernel
theorem dX4_safe_1 : decode cX4_safe 1 = .ok (.iload_n 1, 1) := by decide +kernel
theorem dX4_safe_2 : decode cX4_safe 2 = .ok (.invokevirtual 61, 3) := by decide +kernel
theorem dX4_safe_5 : decode cX4_safe 5 = .ok (.aload_n 0, 1) := by decide +kernel
theorem dX4_safe_6 : decode cX4_safe 6 = .ok (.getfield 10, 3) := by decide +kernel
theorem dX4_safe_9 : decode cX4_safe 9 = .ok (.iload_n 1, 1) := by decide +kernel
theorem dX4_safe_10 : decode cX4_safe 10 = .ok (.invokevirtual 234, 3) := by decide +kernel
theorem dX4_safe_13 : decode cX4_safe 13 = .ok (.ifCond .eq 7, 3) := by decide +kernel
theorem dX4_safe_16 : decode cX4_safe 16 = .ok (.iconst (-1), 1) := by decide +kernel
theorem dX4_safe_17 : decode cX4_safe 17 = .ok (.goto 11, 3) := by decide +kernel
theorem dX4_safe_20 : decode cX4_safe 20 = .ok (.aload_n 0, 1) := by decide +kernel
theorem dX4_safe_21 : decode cX4_safe 21 = .ok (.getfield 10, 3) := by decide +kernel
theorem dX4_safe_24 : decode cX4_safe 24 = .ok (.iload_n 1, 1) := by decide +kernel
theorem dX4_safe_25 : decode cX4_safe 25 = .ok (.invokevirtual 240, 3) := by decide +kernel
theorem dX4_safe_28 : decode cX4_safe 28 = .ok (.ireturn, 1) := by decide +kernel
theorem dX4_nextLapse_0 : decode cX4_nextLapse 0 = .ok (.aload_n 0, 1) := by decide +kernel
theorem dX4_nextLapse_1 : decode cX4_nextLapse 1 = .ok (.getfield 10, 3) := by decide +kernel
theorem dX4_nextLapse_4 : decode cX4_nextLapse 4 = .ok (.invokevirtual 243, 3) := by decide +kernel
theorem dX4_nextLapse_7 : decode cX4_nextLapse 7 = .ok (.ireturn, 1) := by decide +kernel
theorem dX4_helps_0 : decode cX4_helps 0 = .ok (.iload_n 1, 1) := by decide +kernel
theorem dX4_helps_1 : decode cX4_helps 1 = .ok (.invokestatic 102, 3) := by decide +kernel
theorem dX4_helps_4 : decode cX4_helps 4 = .ok (.aload_n 0, 1) := by decide +kernel
theorem dX4_helps_5 : decode cX4_helps 5 = .ok (.getfield 10, 3) := by decide +kernel
theorem dX4_helps_8 : decode cX4_helps 8 = .ok (.iload_n 1, 1) := by decide +kernel
theorem dX4_helps_9 : decode cX4_helps 9 = .ok (.invokevirtual 246, 3) := by decide +kernel
theorem dX4_helps_12 : decode cX4_helps 12 = .ok (.ireturn, 1) := by decide +kernel
theorem dX4_readyShare_0 : decode cX4_readyShare 0 = .ok (.aload_n 0, 1) := by decide +kernel
theorem dX4_readyShare_1 : decode cX4_readyShare 1 = .ok (.getfield 10, 3) := by decide +kernel
theorem dX4_readyShare_4 : decode cX4_readyShare 4 = .ok (.getfield 216, 3) := by decide +kernel
theorem dX4_readyShare_7 : decode cX4_readyShare 7 = .ok (.aload_n 0, 1) := by decide +kernel
theorem dX4_readyShare_8 : decode cX4_readyShare 8 = .ok (.getfield 10, 3) := by decide +kernel
theorem dX4_readyShare_11 : decode cX4_readyShare 11 = .ok (.iconst (-1), 1) := by decide +kernel
theorem dX4_readyShare_12 : decode cX4_readyShare 12 = .ok (.invokevirtual 199, 3) := by decide +kernel
theorem dX4_readyShare_15 : decode cX4_readyShare 15 = .ok (.isub, 1) := by decide +kernel
theorem dX4_readyShare_16 : decode cX4_readyShare 16 = .ok (.istore_n 1, 1) := by decide +kernel
theorem dX4_readyShare_17 : decode cX4_readyShare 17 = .ok (.iload_n 1, 1) := by decide +kernel
theorem dX4_readyShare_18 : decode cX4_readyShare 18 = .ok (.ifCond .gt 5, 3) := by decide +kernel
theorem dX4_readyShare_21 : decode cX4_readyShare 21 = .ok (.dconst 1, 1) := by decide +kernel
theorem dX4_readyShare_22 : decode cX4_readyShare 22 = .ok (.dreturn, 1) := by decide +kernel
theorem dX4_readyShare_23 : decode cX4_readyShare 23 = .ok (.aload_n 0, 1) := by decide +kernel
theorem dX4_readyShare_24 : decode cX4_readyShare 24 = .ok (.getfield 10, 3) := by decide +kernel
theorem dX4_readyShare_27 : decode cX4_readyShare 27 = .ok (.invokevirtual 219, 3) := by decide +kernel
theorem dX4_readyShare_30 : decode cX4_readyShare 30 = .ok (.i2d, 1) := by decide +kernel
theorem dX4_readyShare_31 : decode cX4_readyShare 31 = .ok (.iload_n 1, 1) := by decide +kernel
theorem dX4_readyShare_32 : decode cX4_readyShare 32 = .ok (.i2d, 1) := by decide +kernel
theorem dX4_readyShare_33 : decode cX4_readyShare 33 = .ok (.ddiv, 1) := by decide +kernel
theorem dX4_readyShare_34 : decode cX4_readyShare 34 = .ok (.dreturn, 1) := by decide +kernel
theorem dX4_digest_0 : decode cX4_digest 0 = .ok (.ldc2_w 249, 3) := by decide +kernel
theorem dX4_digest_3 : decode cX4_digest 3 = .ok (.lstore_n 1, 1) := by decide +kernel
theorem dX4_digest_4 : decode cX4_digest 4 = .ok (.iconst 0, 1) := by decide +kernel
theorem dX4_digest_5 : decode cX4_digest 5 = .ok (.istore_n 3, 1) := by decide +kernel
theorem dX4_digest_6 : decode cX4_digest 6 = .ok (.iload_n 3, 1) := by decide +kernel
theorem dX4_digest_7 : decode cX4_digest 7 = .ok (.bipush 11, 2) := by decide +kernel
theorem dX4_digest_9 : decode cX4_digest 9 = .ok (.if_icmp .ge 20, 3) := by decide +kernel
theorem dX4_digest_12 : decode cX4_digest 12 = .ok (.lload_n 1, 1) := by decide +kernel
theorem dX4_digest_13 : decode cX4_digest 13 = .ok (.aload_n 0, 1) := by decide +kernel
theorem dX4_digest_14 : decode cX4_digest 14 = .ok (.iload_n 3, 1) := by decide +kernel
theorem dX4_digest_15 : decode cX4_digest 15 = .ok (.invokevirtual 251, 3) := by decide +kernel
theorem dX4_digest_18 : decode cX4_digest 18 = .ok (.i2l, 1) := by decide +kernel
theorem dX4_digest_19 : decode cX4_digest 19 = .ok (.invokestatic 254, 3) := by decide +kernel
theorem dX4_digest_22 : decode cX4_digest 22 = .ok (.lstore_n 1, 1) := by decide +kernel
theorem dX4_digest_23 : decode cX4_digest 23 = .ok (.iinc 3 1, 3) := by decide +kernel
theorem dX4_digest_26 : decode cX4_digest 26 = .ok (.goto (-20), 3) := by decide +kernel
theorem dX4_digest_29 : decode cX4_digest 29 = .ok (.iconst 0, 1) := by decide +kernel
theorem dX4_digest_30 : decode cX4_digest 30 = .ok (.istore_n 3, 1) := by decide +kernel
theorem dX4_digest_31 : decode cX4_digest 31 = .ok (.iload_n 3, 1) := by decide +kernel
theorem dX4_digest_32 : decode cX4_digest 32 = .ok (.iconst 3, 1) := by decide +kernel
theorem dX4_digest_33 : decode cX4_digest 33 = .ok (.if_icmp .ge 24, 3) := by decide +kernel
theorem dX4_digest_36 : decode cX4_digest 36 = .ok (.lload_n 1, 1) := by decide +kernel
theorem dX4_digest_37 : decode cX4_digest 37 = .ok (.aload_n 0, 1) := by decide +kernel
theorem dX4_digest_38 : decode cX4_digest 38 = .ok (.getfield 10, 3) := by decide +kernel
theorem dX4_digest_41 : decode cX4_digest 41 = .ok (.getfield 121, 3) := by decide +kernel
theorem dX4_digest_44 : decode cX4_digest 44 = .ok (.iload_n 3, 1) := by decide +kernel
theorem dX4_digest_45 : decode cX4_digest 45 = .ok (.iaload, 1) := by decide +kernel
theorem dX4_digest_46 : decode cX4_digest 46 = .ok (.i2l, 1) := by decide +kernel
theorem dX4_digest_47 : decode cX4_digest 47 = .ok (.invokestatic 254, 3) := by decide +kernel
theorem dX4_digest_50 : decode cX4_digest 50 = .ok (.lstore_n 1, 1) := by decide +kernel
theorem dX4_digest_51 : decode cX4_digest 51 = .ok (.iinc 3 1, 3) := by decide +kernel
theorem dX4_digest_54 : decode cX4_digest 54 = .ok (.goto (-23), 3) := by decide +kernel
theorem dX4_digest_57 : decode cX4_digest 57 = .ok (.iconst 0, 1) := by decide +kernel
theorem dX4_digest_58 : decode cX4_digest 58 = .ok (.istore_n 3, 1) := by decide +kernel
theorem dX4_digest_59 : decode cX4_digest 59 = .ok (.iload_n 3, 1) := by decide +kernel
theorem dX4_digest_60 : decode cX4_digest 60 = .ok (.aload_n 0, 1) := by decide +kernel
theorem dX4_digest_61 : decode cX4_digest 61 = .ok (.getfield 10, 3) := by decide +kernel
theorem dX4_digest_64 : decode cX4_digest 64 = .ok (.getfield 216, 3) := by decide +kernel
theorem dX4_digest_67 : decode cX4_digest 67 = .ok (.if_icmp .ge 62, 3) := by decide +kernel
theorem dX4_digest_70 : decode cX4_digest 70 = .ok (.iconst 0, 1) := by decide +kernel
theorem dX4_digest_71 : decode cX4_digest 71 = .ok (.istore 4, 2) := by decide +kernel
theorem dX4_digest_73 : decode cX4_digest 73 = .ok (.iload 4, 2) := by decide +kernel
theorem dX4_digest_75 : decode cX4_digest 75 = .ok (.bipush 10, 2) := by decide +kernel
theorem dX4_digest_77 : decode cX4_digest 77 = .ok (.if_icmp .ge 22, 3) := by decide +kernel
theorem dX4_digest_80 : decode cX4_digest 80 = .ok (.lload_n 1, 1) := by decide +kernel
theorem dX4_digest_81 : decode cX4_digest 81 = .ok (.aload_n 0, 1) := by decide +kernel
theorem dX4_digest_82 : decode cX4_digest 82 = .ok (.iload_n 3, 1) := by decide +kernel
theorem dX4_digest_83 : decode cX4_digest 83 = .ok (.iload 4, 2) := by decide +kernel
theorem dX4_digest_85 : decode cX4_digest 85 = .ok (.invokevirtual 258, 3) := by decide +kernel
theorem dX4_digest_88 : decode cX4_digest 88 = .ok (.i2l, 1) := by decide +kernel
theorem dX4_digest_89 : decode cX4_digest 89 = .ok (.invokestatic 254, 3) := by decide +kernel
theorem dX4_digest_92 : decode cX4_digest 92 = .ok (.lstore_n 1, 1) := by decide +kernel
theorem dX4_digest_93 : decode cX4_digest 93 = .ok (.iinc 4 1, 3) := by decide +kernel
theorem dX4_digest_96 : decode cX4_digest 96 = .ok (.goto (-23), 3) := by decide +kernel
theorem dX4_digest_99 : decode cX4_digest 99 = .ok (.lload_n 1, 1) := by decide +kernel
theorem dX4_digest_100 : decode cX4_digest 100 = .ok (.aload_n 0, 1) := by decide +kernel
theorem dX4_digest_101 : decode cX4_digest 101 = .ok (.iload_n 3, 1) := by decide +kernel
theorem dX4_digest_102 : decode cX4_digest 102 = .ok (.bipush 12, 2) := by decide +kernel
theorem dX4_digest_104 : decode cX4_digest 104 = .ok (.invokevirtual 261, 3) := by decide +kernel
theorem dX4_digest_107 : decode cX4_digest 107 = .ok (.i2l, 1) := by decide +kernel
theorem dX4_digest_108 : decode cX4_digest 108 = .ok (.invokestatic 254, 3) := by decide +kernel
theorem dX4_digest_111 : decode cX4_digest 111 = .ok (.lstore_n 1, 1) := by decide +kernel
theorem dX4_digest_112 : decode cX4_digest 112 = .ok (.lload_n 1, 1) := by decide +kernel
theorem dX4_digest_113 : decode cX4_digest 113 = .ok (.aload_n 0, 1) := by decide +kernel
theorem dX4_digest_114 : decode cX4_digest 114 = .ok (.iload_n 3, 1) := by decide +kernel
theorem dX4_digest_115 : decode cX4_digest 115 = .ok (.invokevirtual 264, 3) := by decide +kernel
theorem dX4_digest_118 : decode cX4_digest 118 = .ok (.i2l, 1) := by decide +kernel
theorem dX4_digest_119 : decode cX4_digest 119 = .ok (.invokestatic 254, 3) := by decide +kernel
theorem dX4_digest_122 : decode cX4_digest 122 = .ok (.lstore_n 1, 1) := by decide +kernel
theorem dX4_digest_123 : decode cX4_digest 123 = .ok (.iinc 3 1, 3) := by decide +kernel
theorem dX4_digest_126 : decode cX4_digest 126 = .ok (.goto (-67), 3) := by decide +kernel
theorem dX4_digest_129 : decode cX4_digest 129 = .ok (.iconst 0, 1) := by decide +kernel
theorem dX4_digest_130 : decode cX4_digest 130 = .ok (.istore_n 3, 1) := by decide +kernel
theorem dX4_digest_131 : decode cX4_digest 131 = .ok (.iload_n 3, 1) := by decide +kernel
theorem dX4_digest_132 : decode cX4_digest 132 = .ok (.iconst 3, 1) := by decide +kernel
theorem dX4_digest_133 : decode cX4_digest 133 = .ok (.if_icmp .ge 49, 3) := by decide +kernel
theorem dX4_digest_136 : decode cX4_digest 136 = .ok (.iconst 0, 1) := by decide +kernel
theorem dX4_digest_137 : decode cX4_digest 137 = .ok (.istore 4, 2) := by decide +kernel
theorem dX4_digest_139 : decode cX4_digest 139 = .ok (.iload 4, 2) := by decide +kernel
theorem dX4_digest_141 : decode cX4_digest 141 = .ok (.bipush 7, 2) := by decide +kernel
theorem dX4_digest_143 : decode cX4_digest 143 = .ok (.if_icmp .ge 22, 3) := by decide +kernel
theorem dX4_digest_146 : decode cX4_digest 146 = .ok (.lload_n 1, 1) := by decide +kernel
theorem dX4_digest_147 : decode cX4_digest 147 = .ok (.aload_n 0, 1) := by decide +kernel
theorem dX4_digest_148 : decode cX4_digest 148 = .ok (.iload_n 3, 1) := by decide +kernel
theorem dX4_digest_149 : decode cX4_digest 149 = .ok (.iload 4, 2) := by decide +kernel
theorem dX4_digest_151 : decode cX4_digest 151 = .ok (.invokevirtual 267, 3) := by decide +kernel
theorem dX4_digest_154 : decode cX4_digest 154 = .ok (.i2l, 1) := by decide +kernel
theorem dX4_digest_155 : decode cX4_digest 155 = .ok (.invokestatic 254, 3) := by decide +kernel
theorem dX4_digest_158 : decode cX4_digest 158 = .ok (.lstore_n 1, 1) := by decide +kernel
theorem dX4_digest_159 : decode cX4_digest 159 = .ok (.iinc 4 1, 3) := by decide +kernel
theorem dX4_digest_162 : decode cX4_digest 162 = .ok (.goto (-23), 3) := by decide +kernel
theorem dX4_digest_165 : decode cX4_digest 165 = .ok (.lload_n 1, 1) := by decide +kernel
theorem dX4_digest_166 : decode cX4_digest 166 = .ok (.aload_n 0, 1) := by decide +kernel
theorem dX4_digest_167 : decode cX4_digest 167 = .ok (.iload_n 3, 1) := by decide +kernel
theorem dX4_digest_168 : decode cX4_digest 168 = .ok (.invokevirtual 270, 3) := by decide +kernel
theorem dX4_digest_171 : decode cX4_digest 171 = .ok (.i2l, 1) := by decide +kernel
theorem dX4_digest_172 : decode cX4_digest 172 = .ok (.invokestatic 254, 3) := by decide +kernel
theorem dX4_digest_175 : decode cX4_digest 175 = .ok (.lstore_n 1, 1) := by decide +kernel
theorem dX4_digest_176 : decode cX4_digest 176 = .ok (.iinc 3 1, 3) := by decide +kernel
theorem dX4_digest_179 : decode cX4_digest 179 = .ok (.goto (-48), 3) := by decide +kernel
theorem dX4_digest_182 : decode cX4_digest 182 = .ok (.lload_n 1, 1) := by decide +kernel
theorem dX4_digest_183 : decode cX4_digest 183 = .ok (.aload_n 0, 1) := by decide +kernel
theorem dX4_digest_184 : decode cX4_digest 184 = .ok (.invokevirtual 273, 3) := by decide +kernel
theorem dX4_digest_187 : decode cX4_digest 187 = .ok (.i2l, 1) := by decide +kernel
theorem dX4_digest_188 : decode cX4_digest 188 = .ok (.invokestatic 254, 3) := by decide +kernel
theorem dX4_digest_191 : decode cX4_digest 191 = .ok (.lstore_n 1, 1) := by decide +kernel
theorem dX4_digest_192 : decode cX4_digest 192 = .ok (.lload_n 1, 1) := by decide +kernel
theorem dX4_digest_193 : decode cX4_digest 193 = .ok (.aload_n 0, 1) := by decide +kernel
theorem dX4_digest_194 : decode cX4_digest 194 = .ok (.invokevirtual 276, 3) := by decide +kernel
theorem dX4_digest_197 : decode cX4_digest 197 = .ok (.invokestatic 280, 3) := by decide +kernel
theorem dX4_digest_200 : decode cX4_digest 200 = .ok (.invokestatic 254, 3) := by decide +kernel
theorem dX4_digest_203 : decode cX4_digest 203 = .ok (.lstore_n 1, 1) := by decide +kernel
theorem dX4_digest_204 : decode cX4_digest 204 = .ok (.lload_n 1, 1) := by decide +kernel
theorem dX4_digest_205 : decode cX4_digest 205 = .ok (.aload_n 0, 1) := by decide +kernel
theorem dX4_digest_206 : decode cX4_digest 206 = .ok (.getfield 30, 3) := by decide +kernel
theorem dX4_digest_209 : decode cX4_digest 209 = .ok (.getfield 141, 3) := by decide +kernel
theorem dX4_digest_212 : decode cX4_digest 212 = .ok (.i2l, 1) := by decide +kernel
theorem dX4_digest_213 : decode cX4_digest 213 = .ok (.invokestatic 254, 3) := by decide +kernel
theorem dX4_digest_216 : decode cX4_digest 216 = .ok (.lstore_n 1, 1) := by decide +kernel
theorem dX4_digest_217 : decode cX4_digest 217 = .ok (.iconst 0, 1) := by decide +kernel
theorem dX4_digest_218 : decode cX4_digest 218 = .ok (.istore_n 3, 1) := by decide +kernel
theorem dX4_digest_219 : decode cX4_digest 219 = .ok (.iload_n 3, 1) := by decide +kernel
theorem dX4_digest_220 : decode cX4_digest 220 = .ok (.aload_n 0, 1) := by decide +kernel
theorem dX4_digest_221 : decode cX4_digest 221 = .ok (.getfield 30, 3) := by decide +kernel
theorem dX4_digest_224 : decode cX4_digest 224 = .ok (.getfield 141, 3) := by decide +kernel
theorem dX4_digest_227 : decode cX4_digest 227 = .ok (.if_icmp .ge 24, 3) := by decide +kernel
theorem dX4_digest_230 : decode cX4_digest 230 = .ok (.lload_n 1, 1) := by decide +kernel
theorem dX4_digest_231 : decode cX4_digest 231 = .ok (.aload_n 0, 1) := by decide +kernel
theorem dX4_digest_232 : decode cX4_digest 232 = .ok (.getfield 30, 3) := by decide +kernel
theorem dX4_digest_235 : decode cX4_digest 235 = .ok (.getfield 284, 3) := by decide +kernel
theorem dX4_digest_238 : decode cX4_digest 238 = .ok (.iload_n 3, 1) := by decide +kernel
theorem dX4_digest_239 : decode cX4_digest 239 = .ok (.iaload, 1) := by decide +kernel
theorem dX4_digest_240 : decode cX4_digest 240 = .ok (.i2l, 1) := by decide +kernel
theorem dX4_digest_241 : decode cX4_digest 241 = .ok (.invokestatic 254, 3) := by decide +kernel
theorem dX4_digest_244 : decode cX4_digest 244 = .ok (.lstore_n 1, 1) := by decide +kernel
theorem dX4_digest_245 : decode cX4_digest 245 = .ok (.iinc 3 1, 3) := by decide +kernel
theorem dX4_digest_248 : decode cX4_digest 248 = .ok (.goto (-29), 3) := by decide +kernel
theorem dX4_digest_251 : decode cX4_digest 251 = .ok (.lload_n 1, 1) := by decide +kernel
theorem dX4_digest_252 : decode cX4_digest 252 = .ok (.lreturn, 1) := by decide +kernel
theorem dX4_isWithin_0 : decode cX4_isWithin 0 = .ok (.iload_n 0, 1) := by decide +kernel
theorem dX4_isWithin_1 : decode cX4_isWithin 1 = .ok (.iload_n 1, 1) := by decide +kernel
theorem dX4_isWithin_2 : decode cX4_isWithin 2 = .ok (.if_icmp .lt 12, 3) := by decide +kernel
theorem dX4_isWithin_5 : decode cX4_isWithin 5 = .ok (.iload_n 0, 1) := by decide +kernel
theorem dX4_isWithin_6 : decode cX4_isWithin 6 = .ok (.iload_n 2, 1) := by decide +kernel
theorem dX4_isWithin_7 : decode cX4_isWithin 7 = .ok (.if_icmp .gt 7, 3) := by decide +kernel
theorem dX4_isWithin_10 : decode cX4_isWithin 10 = .ok (.iconst 1, 1) := by decide +kernel
theorem dX4_isWithin_11 : decode cX4_isWithin 11 = .ok (.goto 4, 3) := by decide +kernel
theorem dX4_isWithin_14 : decode cX4_isWithin 14 = .ok (.iconst 0, 1) := by decide +kernel
theorem dX4_isWithin_15 : decode cX4_isWithin 15 = .ok (.ireturn, 1) := by decide +kernel
theorem dX4_requireHose_0 : decode cX4_requireHose 0 = .ok (.iload_n 1, 1) := by decide +kernel
theorem dX4_requireHose_1 : decode cX4_requireHose 1 = .ok (.iconst 0, 1) := by decide +kernel
theorem dX4_requireHose_2 : decode cX4_requireHose 2 = .ok (.aload_n 0, 1) := by decide +kernel
theorem dX4_requireHose_3 : decode cX4_requireHose 3 = .ok (.getfield 10, 3) := by decide +kernel
theorem dX4_requireHose_6 : decode cX4_requireHose 6 = .ok (.getfield 216, 3) := by decide +kernel
theorem dX4_requireHose_9 : decode cX4_requireHose 9 = .ok (.iconst 1, 1) := by decide +kernel
theorem dX4_requireHose_10 : decode cX4_requireHose 10 = .ok (.isub, 1) := by decide +kernel
theorem dX4_requireHose_11 : decode cX4_requireHose 11 = .ok (.invokestatic 34, 3) := by decide +kernel
theorem dX4_requireHose_14 : decode cX4_requireHose 14 = .ok (.ifCond .ne 14, 3) := by decide +kernel
theorem dX4_requireHose_17 : decode cX4_requireHose 17 = .ok (.new 287, 3) := by decide +kernel
theorem dX4_requireHose_20 : decode cX4_requireHose 20 = .ok (.dup, 1) := by decide +kernel
theorem dX4_requireHose_21 : decode cX4_requireHose 21 = .ok (.ldc_w 289, 3) := by decide +kernel
theorem dX4_requireHose_24 : decode cX4_requireHose 24 = .ok (.invokespecial 291, 3) := by decide +kernel
theorem dX4_requireHose_27 : decode cX4_requireHose 27 = .ok (.athrow, 1) := by decide +kernel
theorem dX4_requireHose_28 : decode cX4_requireHose 28 = .ok (.return_, 1) := by decide +kernel
theorem dX4_requireAtHand_0 : decode cX4_requireAtHand 0 = .ok (.aload_n 0, 1) := by decide +kernel
theorem dX4_requireAtHand_1 : decode cX4_requireAtHand 1 = .ok (.getfield 10, 3) := by decide +kernel
theorem dX4_requireAtHand_4 : decode cX4_requireAtHand 4 = .ok (.iload_n 1, 1) := by decide +kernel
theorem dX4_requireAtHand_5 : decode cX4_requireAtHand 5 = .ok (.invokevirtual 234, 3) := by decide +kernel
theorem dX4_requireAtHand_8 : decode cX4_requireAtHand 8 = .ok (.ifCond .ne 14, 3) := by decide +kernel
theorem dX4_requireAtHand_11 : decode cX4_requireAtHand 11 = .ok (.aload_n 0, 1) := by decide +kernel
theorem dX4_requireAtHand_12 : decode cX4_requireAtHand 12 = .ok (.getfield 10, 3) := by decide +kernel
theorem dX4_requireAtHand_15 : decode cX4_requireAtHand 15 = .ok (.iload_n 1, 1) := by decide +kernel
theorem dX4_requireAtHand_16 : decode cX4_requireAtHand 16 = .ok (.invokevirtual 292, 3) := by decide +kernel
theorem dX4_requireAtHand_19 : decode cX4_requireAtHand 19 = .ok (.ifCond .eq 14, 3) := by decide +kernel
theorem dX4_requireAtHand_22 : decode cX4_requireAtHand 22 = .ok (.new 49, 3) := by decide +kernel
theorem dX4_requireAtHand_25 : decode cX4_requireAtHand 25 = .ok (.dup, 1) := by decide +kernel
theorem dX4_requireAtHand_26 : decode cX4_requireAtHand 26 = .ok (.ldc_w 295, 3) := by decide +kernel
theorem dX4_requireAtHand_29 : decode cX4_requireAtHand 29 = .ok (.invokespecial 53, 3) := by decide +kernel
theorem dX4_requireAtHand_32 : decode cX4_requireAtHand 32 = .ok (.athrow, 1) := by decide +kernel
theorem dX4_requireAtHand_33 : decode cX4_requireAtHand 33 = .ok (.return_, 1) := by decide +kernel
theorem dX4_requireTruck_0 : decode cX4_requireTruck 0 = .ok (.iload_n 0, 1) := by decide +kernel
theorem dX4_requireTruck_1 : decode cX4_requireTruck 1 = .ok (.iconst 0, 1) := by decide +kernel
theorem dX4_requireTruck_2 : decode cX4_requireTruck 2 = .ok (.iconst 2, 1) := by decide +kernel
theorem dX4_requireTruck_3 : decode cX4_requireTruck 3 = .ok (.invokestatic 34, 3) := by decide +kernel
theorem dX4_requireTruck_6 : decode cX4_requireTruck 6 = .ok (.ifCond .ne 14, 3) := by decide +kernel
theorem dX4_requireTruck_9 : decode cX4_requireTruck 9 = .ok (.new 287, 3) := by decide +kernel
theorem dX4_requireTruck_12 : decode cX4_requireTruck 12 = .ok (.dup, 1) := by decide +kernel
theorem dX4_requireTruck_13 : decode cX4_requireTruck 13 = .ok (.ldc_w 297, 3) := by decide +kernel
theorem dX4_requireTruck_16 : decode cX4_requireTruck 16 = .ok (.invokespecial 291, 3) := by decide +kernel
theorem dX4_requireTruck_19 : decode cX4_requireTruck 19 = .ok (.athrow, 1) := by decide +kernel
theorem dX4_requireTruck_20 : decode cX4_requireTruck 20 = .ok (.return_, 1) := by decide +kernel
theorem dX4_requireSetting_0 : decode cX4_requireSetting 0 = .ok (.iload_n 0, 1) := by decide +kernel
theorem dX4_requireSetting_1 : decode cX4_requireSetting 1 = .ok (.iconst 0, 1) := by decide +kernel
theorem dX4_requireSetting_2 : decode cX4_requireSetting 2 = .ok (.iconst 2, 1) := by decide +kernel
theorem dX4_requireSetting_3 : decode cX4_requireSetting 3 = .ok (.invokestatic 34, 3) := by decide +kernel
theorem dX4_requireSetting_6 : decode cX4_requireSetting 6 = .ok (.ifCond .ne 14, 3) := by decide +kernel
theorem dX4_requireSetting_9 : decode cX4_requireSetting 9 = .ok (.new 287, 3) := by decide +kernel
theorem dX4_requireSetting_12 : decode cX4_requireSetting 12 = .ok (.dup, 1) := by decide +kernel
theorem dX4_requireSetting_13 : decode cX4_requireSetting 13 = .ok (.ldc_w 299, 3) := by decide +kernel
theorem dX4_requireSetting_16 : decode cX4_requireSetting 16 = .ok (.invokespecial 291, 3) := by decide +kernel
theorem dX4_requireSetting_19 : decode cX4_requireSetting 19 = .ok (.athrow, 1) := by decide +kernel
theorem dX4_requireSetting_20 : decode cX4_requireSetting 20 = .ok (.return_, 1) := by decide +kernel
theorem dX4_requirePressure_0 : decode cX4_requirePressure 0 = .ok (.iload_n 0, 1) := by decide +kernel
theorem dX4_requirePressure_1 : decode cX4_requirePressure 1 = .ok (.iconst 4, 1) := by decide +kernel
theorem dX4_requirePressure_2 : decode cX4_requirePressure 2 = .ok (.bipush 24, 2) := by decide +kernel
theorem dX4_requirePressure_4 : decode cX4_requirePressure 4 = .ok (.invokestatic 34, 3) := by decide +kernel
theorem dX4_requirePressure_7 : decode cX4_requirePressure 7 = .ok (.ifCond .ne 14, 3) := by decide +kernel
theorem dX4_requirePressure_10 : decode cX4_requirePressure 10 = .ok (.new 38, 3) := by decide +kernel
theorem dX4_requirePressure_13 : decode cX4_requirePressure 13 = .ok (.dup, 1) := by decide +kernel
theorem dX4_requirePressure_14 : decode cX4_requirePressure 14 = .ok (.ldc_w 301, 3) := by decide +kernel
theorem dX4_requirePressure_17 : decode cX4_requirePressure 17 = .ok (.invokespecial 42, 3) := by decide +kernel
theorem dX4_requirePressure_20 : decode cX4_requirePressure 20 = .ok (.athrow, 1) := by decide +kernel
theorem dX4_requirePressure_21 : decode cX4_requirePressure 21 = .ok (.return_, 1) := by decide +kernel
theorem dX4_leastOfSetting_0 : decode cX4_leastOfSetting 0 = .ok (.iload_n 0, 1) := by decide +kernel
theorem dX4_leastOfSetting_1 : decode cX4_leastOfSetting 1 = .ok (.ifCond .ne 7, 3) := by decide +kernel
theorem dX4_leastOfSetting_4 : decode cX4_leastOfSetting 4 = .ok (.iconst 4, 1) := by decide +kernel
theorem dX4_leastOfSetting_5 : decode cX4_leastOfSetting 5 = .ok (.goto 4, 3) := by decide +kernel
theorem dX4_leastOfSetting_8 : decode cX4_leastOfSetting 8 = .ok (.iconst 0, 1) := by decide +kernel
theorem dX4_leastOfSetting_9 : decode cX4_leastOfSetting 9 = .ok (.ireturn, 1) := by decide +kernel
theorem dX4_greatestOfSetting_0 : decode cX4_greatestOfSetting 0 = .ok (.iload_n 0, 1) := by decide +kernel
theorem dX4_greatestOfSetting_1 : decode cX4_greatestOfSetting 1 = .ok (.lookupswitch 32 #[(0, 27), (1, 30)], 27) := by decide +kernel
theorem dX4_greatestOfSetting_28 : decode cX4_greatestOfSetting 28 = .ok (.bipush 24, 2) := by decide +kernel
theorem dX4_greatestOfSetting_30 : decode cX4_greatestOfSetting 30 = .ok (.ireturn, 1) := by decide +kernel
theorem dX4_greatestOfSetting_31 : decode cX4_greatestOfSetting 31 = .ok (.iconst 5, 1) := by decide +kernel
theorem dX4_greatestOfSetting_32 : decode cX4_greatestOfSetting 32 = .ok (.ireturn, 1) := by decide +kernel
theorem dX4_greatestOfSetting_33 : decode cX4_greatestOfSetting 33 = .ok (.sipush 200, 3) := by decide +kernel
theorem dX4_greatestOfSetting_36 : decode cX4_greatestOfSetting 36 = .ok (.ireturn, 1) := by decide +kernel
theorem dX4_saveState_0 : decode cX4_saveState 0 = .ok (.aload_n 0, 1) := by decide +kernel
theorem dX4_saveState_1 : decode cX4_saveState 1 = .ok (.aload_n 0, 1) := by decide +kernel
theorem dX4_saveState_2 : decode cX4_saveState 2 = .ok (.getfield 20, 3) := by decide +kernel
theorem dX4_saveState_5 : decode cX4_saveState 5 = .ok (.iconst 5, 1) := by decide +kernel
theorem dX4_saveState_6 : decode cX4_saveState 6 = .ok (.if_icmp .lt 7, 3) := by decide +kernel
theorem dX4_saveState_9 : decode cX4_saveState 9 = .ok (.iconst 0, 1) := by decide +kernel
theorem dX4_saveState_10 : decode cX4_saveState 10 = .ok (.goto 9, 3) := by decide +kernel
theorem dX4_saveState_13 : decode cX4_saveState 13 = .ok (.aload_n 0, 1) := by decide +kernel
theorem dX4_saveState_14 : decode cX4_saveState 14 = .ok (.getfield 20, 3) := by decide +kernel
theorem dX4_saveState_17 : decode cX4_saveState 17 = .ok (.iconst 1, 1) := by decide +kernel
theorem dX4_saveState_18 : decode cX4_saveState 18 = .ok (.iadd, 1) := by decide +kernel
theorem dX4_saveState_19 : decode cX4_saveState 19 = .ok (.putfield 20, 3) := by decide +kernel
theorem dX4_saveState_22 : decode cX4_saveState 22 = .ok (.aload_n 0, 1) := by decide +kernel
theorem dX4_saveState_23 : decode cX4_saveState 23 = .ok (.getfield 16, 3) := by decide +kernel
theorem dX4_saveState_26 : decode cX4_saveState 26 = .ok (.aload_n 0, 1) := by decide +kernel
theorem dX4_saveState_27 : decode cX4_saveState 27 = .ok (.getfield 20, 3) := by decide +kernel
theorem dX4_saveState_30 : decode cX4_saveState 30 = .ok (.aaload, 1) := by decide +kernel
theorem dX4_saveState_31 : decode cX4_saveState 31 = .ok (.astore_n 1, 1) := by decide +kernel
theorem dX4_saveState_32 : decode cX4_saveState 32 = .ok (.aload_n 1, 1) := by decide +kernel
theorem dX4_saveState_33 : decode cX4_saveState 33 = .ok (.ifnull 11, 3) := by decide +kernel
theorem dX4_saveState_36 : decode cX4_saveState 36 = .ok (.aload_n 1, 1) := by decide +kernel
theorem dX4_saveState_37 : decode cX4_saveState 37 = .ok (.aload_n 0, 1) := by decide +kernel
theorem dX4_saveState_38 : decode cX4_saveState 38 = .ok (.getfield 10, 3) := by decide +kernel
theorem dX4_saveState_41 : decode cX4_saveState 41 = .ok (.invokevirtual 158, 3) := by decide +kernel
theorem dX4_saveState_44 : decode cX4_saveState 44 = .ok (.aload_n 0, 1) := by decide +kernel
theorem dX4_saveState_45 : decode cX4_saveState 45 = .ok (.getfield 24, 3) := by decide +kernel
theorem dX4_saveState_48 : decode cX4_saveState 48 = .ok (.bipush 6, 2) := by decide +kernel
theorem dX4_saveState_50 : decode cX4_saveState 50 = .ok (.if_icmp .ge 13, 3) := by decide +kernel
theorem dX4_saveState_53 : decode cX4_saveState 53 = .ok (.aload_n 0, 1) := by decide +kernel
theorem dX4_saveState_54 : decode cX4_saveState 54 = .ok (.dup, 1) := by decide +kernel
theorem dX4_saveState_55 : decode cX4_saveState 55 = .ok (.getfield 24, 3) := by decide +kernel
theorem dX4_saveState_58 : decode cX4_saveState 58 = .ok (.iconst 1, 1) := by decide +kernel
theorem dX4_saveState_59 : decode cX4_saveState 59 = .ok (.iadd, 1) := by decide +kernel
theorem dX4_saveState_60 : decode cX4_saveState 60 = .ok (.putfield 24, 3) := by decide +kernel
theorem dX4_saveState_63 : decode cX4_saveState 63 = .ok (.return_, 1) := by decide +kernel
theorem dX4_buyParts_0 : decode cX4_buyParts 0 = .ok (.iconst 0, 1) := by decide +kernel
theorem dX4_buyParts_1 : decode cX4_buyParts 1 = .ok (.istore_n 1, 1) := by decide +kernel
theorem dX4_buyParts_2 : decode cX4_buyParts 2 = .ok (.iconst 0, 1) := by decide +kernel
theorem dX4_buyParts_3 : decode cX4_buyParts 3 = .ok (.istore_n 2, 1) := by decide +kernel
theorem dX4_buyParts_4 : decode cX4_buyParts 4 = .ok (.iconst 0, 1) := by decide +kernel
theorem dX4_buyParts_5 : decode cX4_buyParts 5 = .ok (.istore_n 3, 1) := by decide +kernel
theorem dX4_buyParts_6 : decode cX4_buyParts 6 = .ok (.iconst 0, 1) := by decide +kernel
theorem dX4_buyParts_7 : decode cX4_buyParts 7 = .ok (.istore 4, 2) := by decide +kernel
theorem dX4_buyParts_9 : decode cX4_buyParts 9 = .ok (.iload 4, 2) := by decide +kernel
theorem dX4_buyParts_11 : decode cX4_buyParts 11 = .ok (.aload_n 0, 1) := by decide +kernel
theorem dX4_buyParts_12 : decode cX4_buyParts 12 = .ok (.getfield 30, 3) := by decide +kernel
theorem dX4_buyParts_15 : decode cX4_buyParts 15 = .ok (.getfield 141, 3) := by decide +kernel
theorem dX4_buyParts_18 : decode cX4_buyParts 18 = .ok (.if_icmp .ge 105, 3) := by decide +kernel
theorem dX4_buyParts_21 : decode cX4_buyParts 21 = .ok (.aload_n 0, 1) := by decide +kernel
theorem dX4_buyParts_22 : decode cX4_buyParts 22 = .ok (.getfield 30, 3) := by decide +kernel
theorem dX4_buyParts_25 : decode cX4_buyParts 25 = .ok (.getfield 284, 3) := by decide +kernel
theorem dX4_buyParts_28 : decode cX4_buyParts 28 = .ok (.iload 4, 2) := by decide +kernel
theorem dX4_buyParts_30 : decode cX4_buyParts 30 = .ok (.iaload, 1) := by decide +kernel
theorem dX4_buyParts_31 : decode cX4_buyParts 31 = .ok (.istore 5, 2) := by decide +kernel
theorem dX4_buyParts_33 : decode cX4_buyParts 33 = .ok (.iload 5, 2) := by decide +kernel
theorem dX4_buyParts_35 : decode cX4_buyParts 35 = .ok (.invokestatic 303, 3) := by decide +kernel
theorem dX4_buyParts_38 : decode cX4_buyParts 38 = .ok (.iconst (-1), 1) := by decide +kernel
theorem dX4_buyParts_39 : decode cX4_buyParts 39 = .ok (.if_icmp .eq 14, 3) := by decide +kernel
theorem dX4_buyParts_42 : decode cX4_buyParts 42 = .ok (.iload 5, 2) := by decide +kernel
theorem dX4_buyParts_44 : decode cX4_buyParts 44 = .ok (.invokestatic 303, 3) := by decide +kernel
theorem dX4_buyParts_47 : decode cX4_buyParts 47 = .ok (.istore_n 2, 1) := by decide +kernel
theorem dX4_buyParts_48 : decode cX4_buyParts 48 = .ok (.iconst 0, 1) := by decide +kernel
theorem dX4_buyParts_49 : decode cX4_buyParts 49 = .ok (.istore_n 3, 1) := by decide +kernel
theorem dX4_buyParts_50 : decode cX4_buyParts 50 = .ok (.goto 67, 3) := by decide +kernel
theorem dX4_buyParts_53 : decode cX4_buyParts 53 = .ok (.iload 5, 2) := by decide +kernel
theorem dX4_buyParts_55 : decode cX4_buyParts 55 = .ok (.invokestatic 306, 3) := by decide +kernel
theorem dX4_buyParts_58 : decode cX4_buyParts 58 = .ok (.ifCond .eq 17, 3) := by decide +kernel
theorem dX4_buyParts_61 : decode cX4_buyParts 61 = .ok (.bipush 10, 2) := by decide +kernel
theorem dX4_buyParts_63 : decode cX4_buyParts 63 = .ok (.iload_n 3, 1) := by decide +kernel
theorem dX4_buyParts_64 : decode cX4_buyParts 64 = .ok (.imul, 1) := by decide +kernel
theorem dX4_buyParts_65 : decode cX4_buyParts 65 = .ok (.iload 5, 2) := by decide +kernel
theorem dX4_buyParts_67 : decode cX4_buyParts 67 = .ok (.iadd, 1) := by decide +kernel
theorem dX4_buyParts_68 : decode cX4_buyParts 68 = .ok (.bipush 48, 2) := by decide +kernel
theorem dX4_buyParts_70 : decode cX4_buyParts 70 = .ok (.isub, 1) := by decide +kernel
theorem dX4_buyParts_71 : decode cX4_buyParts 71 = .ok (.istore_n 3, 1) := by decide +kernel
theorem dX4_buyParts_72 : decode cX4_buyParts 72 = .ok (.goto 45, 3) := by decide +kernel
theorem dX4_buyParts_75 : decode cX4_buyParts 75 = .ok (.iload 5, 2) := by decide +kernel
theorem dX4_buyParts_77 : decode cX4_buyParts 77 = .ok (.invokestatic 309, 3) := by decide +kernel
theorem dX4_buyParts_80 : decode cX4_buyParts 80 = .ok (.iconst (-1), 1) := by decide +kernel
theorem dX4_buyParts_81 : decode cX4_buyParts 81 = .ok (.if_icmp .eq 36, 3) := by decide +kernel
theorem dX4_buyParts_84 : decode cX4_buyParts 84 = .ok (.aload_n 0, 1) := by decide +kernel
theorem dX4_buyParts_85 : decode cX4_buyParts 85 = .ok (.getfield 10, 3) := by decide +kernel
theorem dX4_buyParts_88 : decode cX4_buyParts 88 = .ok (.iload_n 2, 1) := by decide +kernel
theorem dX4_buyParts_89 : decode cX4_buyParts 89 = .ok (.iload_n 3, 1) := by decide +kernel
theorem dX4_buyParts_90 : decode cX4_buyParts 90 = .ok (.invokevirtual 45, 3) := by decide +kernel
theorem dX4_buyParts_93 : decode cX4_buyParts 93 = .ok (.ifCond .ne 5, 3) := by decide +kernel
theorem dX4_buyParts_96 : decode cX4_buyParts 96 = .ok (.iload_n 1, 1) := by decide +kernel
theorem dX4_buyParts_97 : decode cX4_buyParts 97 = .ok (.ireturn, 1) := by decide +kernel
theorem dX4_buyParts_98 : decode cX4_buyParts 98 = .ok (.aload_n 0, 1) := by decide +kernel
theorem dX4_buyParts_99 : decode cX4_buyParts 99 = .ok (.getfield 10, 3) := by decide +kernel
theorem dX4_buyParts_102 : decode cX4_buyParts 102 = .ok (.iload_n 2, 1) := by decide +kernel
theorem dX4_buyParts_103 : decode cX4_buyParts 103 = .ok (.iload_n 3, 1) := by decide +kernel
theorem dX4_buyParts_104 : decode cX4_buyParts 104 = .ok (.iload 5, 2) := by decide +kernel
theorem dX4_buyParts_106 : decode cX4_buyParts 106 = .ok (.invokestatic 309, 3) := by decide +kernel
theorem dX4_buyParts_109 : decode cX4_buyParts 109 = .ok (.iconst 3, 1) := by decide +kernel
theorem dX4_buyParts_110 : decode cX4_buyParts 110 = .ok (.invokevirtual 57, 3) := by decide +kernel
theorem dX4_buyParts_113 : decode cX4_buyParts 113 = .ok (.pop, 1) := by decide +kernel
theorem dX4_buyParts_114 : decode cX4_buyParts 114 = .ok (.iinc 1 1, 3) := by decide +kernel
theorem dX4_buyParts_117 : decode cX4_buyParts 117 = .ok (.iinc 4 1, 3) := by decide +kernel
theorem dX4_buyParts_120 : decode cX4_buyParts 120 = .ok (.goto (-111), 3) := by decide +kernel
theorem dX4_buyParts_123 : decode cX4_buyParts 123 = .ok (.iload_n 1, 1) := by decide +kernel
theorem dX4_buyParts_124 : decode cX4_buyParts 124 = .ok (.ireturn, 1) := by decide +kernel
theorem dX4_mixed_0 : decode cX4_mixed 0 = .ok (.ldc2_w 312, 3) := by decide +kernel
theorem dX4_mixed_3 : decode cX4_mixed 3 = .ok (.lload_n 0, 1) := by decide +kernel
theorem dX4_mixed_4 : decode cX4_mixed 4 = .ok (.lmul, 1) := by decide +kernel
theorem dX4_mixed_5 : decode cX4_mixed 5 = .ok (.lload_n 2, 1) := by decide +kernel
theorem dX4_mixed_6 : decode cX4_mixed 6 = .ok (.ladd, 1) := by decide +kernel
theorem dX4_mixed_7 : decode cX4_mixed 7 = .ok (.lreturn, 1) := by decide +kernel
theorem dX4_bitsOfShare_0 : decode cX4_bitsOfShare 0 = .ok (.dload_n 0, 1) := by decide +kernel
theorem dX4_bitsOfShare_1 : decode cX4_bitsOfShare 1 = .ok (.dconst 0, 1) := by decide +kernel
theorem dX4_bitsOfShare_2 : decode cX4_bitsOfShare 2 = .ok (.dcmp .g, 1) := by decide +kernel
theorem dX4_bitsOfShare_3 : decode cX4_bitsOfShare 3 = .ok (.ifCond .gt 5, 3) := by decide +kernel
theorem dX4_bitsOfShare_6 : decode cX4_bitsOfShare 6 = .ok (.lconst 0, 1) := by decide +kernel
theorem dX4_bitsOfShare_7 : decode cX4_bitsOfShare 7 = .ok (.lreturn, 1) := by decide +kernel
theorem dX4_bitsOfShare_8 : decode cX4_bitsOfShare 8 = .ok (.dload_n 0, 1) := by decide +kernel
theorem dX4_bitsOfShare_9 : decode cX4_bitsOfShare 9 = .ok (.dstore_n 2, 1) := by decide +kernel
theorem dX4_bitsOfShare_10 : decode cX4_bitsOfShare 10 = .ok (.ldc2_w 314, 3) := by decide +kernel
theorem dX4_bitsOfShare_13 : decode cX4_bitsOfShare 13 = .ok (.lstore 4, 2) := by decide +kernel
theorem dX4_bitsOfShare_15 : decode cX4_bitsOfShare 15 = .ok (.iconst 0, 1) := by decide +kernel
theorem dX4_bitsOfShare_16 : decode cX4_bitsOfShare 16 = .ok (.istore 6, 2) := by decide +kernel
theorem dX4_bitsOfShare_18 : decode cX4_bitsOfShare 18 = .ok (.iload 6, 2) := by decide +kernel
theorem dX4_bitsOfShare_20 : decode cX4_bitsOfShare 20 = .ok (.sipush 1022, 3) := by decide +kernel
theorem dX4_bitsOfShare_23 : decode cX4_bitsOfShare 23 = .ok (.if_icmp .ge 27, 3) := by decide +kernel
theorem dX4_bitsOfShare_26 : decode cX4_bitsOfShare 26 = .ok (.dload_n 2, 1) := by decide +kernel
theorem dX4_bitsOfShare_27 : decode cX4_bitsOfShare 27 = .ok (.dconst 1, 1) := by decide +kernel
theorem dX4_bitsOfShare_28 : decode cX4_bitsOfShare 28 = .ok (.dcmp .g, 1) := by decide +kernel
theorem dX4_bitsOfShare_29 : decode cX4_bitsOfShare 29 = .ok (.ifCond .ge 21, 3) := by decide +kernel
theorem dX4_bitsOfShare_32 : decode cX4_bitsOfShare 32 = .ok (.dload_n 2, 1) := by decide +kernel
theorem dX4_bitsOfShare_33 : decode cX4_bitsOfShare 33 = .ok (.ldc2_w 316, 3) := by decide +kernel
theorem dX4_bitsOfShare_36 : decode cX4_bitsOfShare 36 = .ok (.dmul, 1) := by decide +kernel
theorem dX4_bitsOfShare_37 : decode cX4_bitsOfShare 37 = .ok (.dstore_n 2, 1) := by decide +kernel
theorem dX4_bitsOfShare_38 : decode cX4_bitsOfShare 38 = .ok (.lload 4, 2) := by decide +kernel
theorem dX4_bitsOfShare_40 : decode cX4_bitsOfShare 40 = .ok (.lconst 1, 1) := by decide +kernel
theorem dX4_bitsOfShare_41 : decode cX4_bitsOfShare 41 = .ok (.lsub, 1) := by decide +kernel
theorem dX4_bitsOfShare_42 : decode cX4_bitsOfShare 42 = .ok (.lstore 4, 2) := by decide +kernel
theorem dX4_bitsOfShare_44 : decode cX4_bitsOfShare 44 = .ok (.iinc 6 1, 3) := by decide +kernel
theorem dX4_bitsOfShare_47 : decode cX4_bitsOfShare 47 = .ok (.goto (-29), 3) := by decide +kernel
theorem dX4_bitsOfShare_50 : decode cX4_bitsOfShare 50 = .ok (.dload_n 2, 1) := by decide +kernel
theorem dX4_bitsOfShare_51 : decode cX4_bitsOfShare 51 = .ok (.dconst 1, 1) := by decide +kernel
theorem dX4_bitsOfShare_52 : decode cX4_bitsOfShare 52 = .ok (.dsub, 1) := by decide +kernel
theorem dX4_bitsOfShare_53 : decode cX4_bitsOfShare 53 = .ok (.ldc2_w 318, 3) := by decide +kernel
theorem dX4_bitsOfShare_56 : decode cX4_bitsOfShare 56 = .ok (.dmul, 1) := by decide +kernel
theorem dX4_bitsOfShare_57 : decode cX4_bitsOfShare 57 = .ok (.d2l, 1) := by decide +kernel
theorem dX4_bitsOfShare_58 : decode cX4_bitsOfShare 58 = .ok (.lstore 6, 2) := by decide +kernel
theorem dX4_bitsOfShare_60 : decode cX4_bitsOfShare 60 = .ok (.lload 4, 2) := by decide +kernel
theorem dX4_bitsOfShare_62 : decode cX4_bitsOfShare 62 = .ok (.bipush 52, 2) := by decide +kernel
theorem dX4_bitsOfShare_64 : decode cX4_bitsOfShare 64 = .ok (.lshl, 1) := by decide +kernel
theorem dX4_bitsOfShare_65 : decode cX4_bitsOfShare 65 = .ok (.lload 6, 2) := by decide +kernel
theorem dX4_bitsOfShare_67 : decode cX4_bitsOfShare 67 = .ok (.ladd, 1) := by decide +kernel
theorem dX4_bitsOfShare_68 : decode cX4_bitsOfShare 68 = .ok (.lreturn, 1) := by decide +kernel
theorem dX5_init_0 : decode cX5_init 0 = .ok (.aload_n 0, 1) := by decide +kernel
theorem dX5_init_1 : decode cX5_init 1 = .ok (.invokespecial 1, 3) := by decide +kernel
theorem dX5_init_4 : decode cX5_init 4 = .ok (.aload_n 0, 1) := by decide +kernel
theorem dX5_init_5 : decode cX5_init 5 = .ok (.bipush 124, 2) := by decide +kernel
theorem dX5_init_7 : decode cX5_init 7 = .ok (.newarray .int, 2) := by decide +kernel
theorem dX5_init_9 : decode cX5_init 9 = .ok (.putfield 7, 3) := by decide +kernel
theorem dX5_init_12 : decode cX5_init 12 = .ok (.aload_n 0, 1) := by decide +kernel
theorem dX5_init_13 : decode cX5_init 13 = .ok (.sipush 744, 3) := by decide +kernel
theorem dX5_init_16 : decode cX5_init 16 = .ok (.newarray .int, 2) := by decide +kernel
theorem dX5_init_18 : decode cX5_init 18 = .ok (.putfield 13, 3) := by decide +kernel
theorem dX5_init_21 : decode cX5_init 21 = .ok (.aload_n 0, 1) := by decide +kernel
theorem dX5_init_22 : decode cX5_init 22 = .ok (.bipush 60, 2) := by decide +kernel
theorem dX5_init_24 : decode cX5_init 24 = .ok (.newarray .int, 2) := by decide +kernel
theorem dX5_init_26 : decode cX5_init 26 = .ok (.putfield 16, 3) := by decide +kernel
theorem dX5_init_29 : decode cX5_init 29 = .ok (.aload_n 0, 1) := by decide +kernel
theorem dX5_init_30 : decode cX5_init 30 = .ok (.bipush 48, 2) := by decide +kernel
theorem dX5_init_32 : decode cX5_init 32 = .ok (.newarray .int, 2) := by decide +kernel
theorem dX5_init_34 : decode cX5_init 34 = .ok (.putfield 19, 3) := by decide +kernel
theorem dX5_init_37 : decode cX5_init 37 = .ok (.aload_n 0, 1) := by decide +kernel
theorem dX5_init_38 : decode cX5_init 38 = .ok (.getfield 7, 3) := by decide +kernel
theorem dX5_init_41 : decode cX5_init 41 = .ok (.iconst 0, 1) := by decide +kernel
theorem dX5_init_42 : decode cX5_init 42 = .ok (.bipush 12, 2) := by decide +kernel
theorem dX5_init_44 : decode cX5_init 44 = .ok (.iastore, 1) := by decide +kernel
theorem dX5_init_45 : decode cX5_init 45 = .ok (.aload_n 0, 1) := by decide +kernel
theorem dX5_init_46 : decode cX5_init 46 = .ok (.getfield 7, 3) := by decide +kernel
theorem dX5_init_49 : decode cX5_init 49 = .ok (.iconst 1, 1) := by decide +kernel
theorem dX5_init_50 : decode cX5_init 50 = .ok (.iconst 1, 1) := by decide +kernel
theorem dX5_init_51 : decode cX5_init 51 = .ok (.iastore, 1) := by decide +kernel
theorem dX5_init_52 : decode cX5_init 52 = .ok (.aload_n 0, 1) := by decide +kernel
theorem dX5_init_53 : decode cX5_init 53 = .ok (.getfield 7, 3) := by decide +kernel
theorem dX5_init_56 : decode cX5_init 56 = .ok (.iconst 2, 1) := by decide +kernel
theorem dX5_init_57 : decode cX5_init 57 = .ok (.bipush 50, 2) := by decide +kernel
theorem dX5_init_59 : decode cX5_init 59 = .ok (.iastore, 1) := by decide +kernel
theorem dX5_init_60 : decode cX5_init 60 = .ok (.aload_n 0, 1) := by decide +kernel
theorem dX5_init_61 : decode cX5_init 61 = .ok (.getfield 7, 3) := by decide +kernel
theorem dX5_init_64 : decode cX5_init 64 = .ok (.iconst 4, 1) := by decide +kernel
theorem dX5_init_65 : decode cX5_init 65 = .ok (.sipush 200, 3) := by decide +kernel
theorem dX5_init_68 : decode cX5_init 68 = .ok (.iastore, 1) := by decide +kernel
theorem dX5_init_69 : decode cX5_init 69 = .ok (.iconst 0, 1) := by decide +kernel
theorem dX5_init_70 : decode cX5_init 70 = .ok (.istore_n 1, 1) := by decide +kernel
theorem dX5_init_71 : decode cX5_init 71 = .ok (.iload_n 1, 1) := by decide +kernel
theorem dX5_init_72 : decode cX5_init 72 = .ok (.iconst 3, 1) := by decide +kernel
theorem dX5_init_73 : decode cX5_init 73 = .ok (.if_icmp .ge 20, 3) := by decide +kernel
theorem dX5_init_76 : decode cX5_init 76 = .ok (.aload_n 0, 1) := by decide +kernel
theorem dX5_init_77 : decode cX5_init 77 = .ok (.getfield 7, 3) := by decide +kernel
theorem dX5_init_80 : decode cX5_init 80 = .ok (.bipush 9, 2) := by decide +kernel
theorem dX5_init_82 : decode cX5_init 82 = .ok (.iload_n 1, 1) := by decide +kernel
theorem dX5_init_83 : decode cX5_init 83 = .ok (.iadd, 1) := by decide +kernel
theorem dX5_init_84 : decode cX5_init 84 = .ok (.bipush 60, 2) := by decide +kernel
theorem dX5_init_86 : decode cX5_init 86 = .ok (.iastore, 1) := by decide +kernel
theorem dX5_init_87 : decode cX5_init 87 = .ok (.iinc 1 1, 3) := by decide +kernel
theorem dX5_init_90 : decode cX5_init 90 = .ok (.goto (-19), 3) := by decide +kernel
theorem dX5_init_93 : decode cX5_init 93 = .ok (.return_, 1) := by decide +kernel
theorem dX5_thrown_0 : decode cX5_thrown 0 = .ok (.aload_n 0, 1) := by decide +kernel
theorem dX5_thrown_1 : decode cX5_thrown 1 = .ok (.getfield 22, 3) := by decide +kernel
theorem dX5_thrown_4 : decode cX5_thrown 4 = .ok (.ireturn, 1) := by decide +kernel
theorem dX5_fails_0 : decode cX5_fails 0 = .ok (.aload_n 0, 1) := by decide +kernel
theorem dX5_fails_1 : decode cX5_fails 1 = .ok (.iload_n 1, 1) := by decide +kernel
theorem dX5_fails_2 : decode cX5_fails 2 = .ok (.putfield 22, 3) := by decide +kernel
theorem dX5_fails_5 : decode cX5_fails 5 = .ok (.iconst 0, 1) := by decide +kernel
theorem dX5_fails_6 : decode cX5_fails 6 = .ok (.ireturn, 1) := by decide +kernel
theorem dX5_in_0 : decode cX5_in 0 = .ok (.iload_n 0, 1) := by decide +kernel
theorem dX5_in_1 : decode cX5_in 1 = .ok (.iload_n 1, 1) := by decide +kernel
theorem dX5_in_2 : decode cX5_in 2 = .ok (.if_icmp .lt 12, 3) := by decide +kernel
theorem dX5_in_5 : decode cX5_in 5 = .ok (.iload_n 0, 1) := by decide +kernel
theorem dX5_in_6 : decode cX5_in 6 = .ok (.iload_n 2, 1) := by decide +kernel
theorem dX5_in_7 : decode cX5_in 7 = .ok (.if_icmp .gt 7, 3) := by decide +kernel
theorem dX5_in_10 : decode cX5_in 10 = .ok (.iconst 1, 1) := by decide +kernel
theorem dX5_in_11 : decode cX5_in 11 = .ok (.goto 4, 3) := by decide +kernel
theorem dX5_in_14 : decode cX5_in 14 = .ok (.iconst 0, 1) := by decide +kernel
theorem dX5_in_15 : decode cX5_in 15 = .ok (.ireturn, 1) := by decide +kernel
theorem dX5_isHose_0 : decode cX5_isHose 0 = .ok (.iload_n 1, 1) := by decide +kernel
theorem dX5_isHose_1 : decode cX5_isHose 1 = .ok (.iconst 0, 1) := by decide +kernel
theorem dX5_isHose_2 : decode cX5_isHose 2 = .ok (.aload_n 0, 1) := by decide +kernel
theorem dX5_isHose_3 : decode cX5_isHose 3 = .ok (.getfield 7, 3) := by decide +kernel
theorem dX5_isHose_6 : decode cX5_isHose 6 = .ok (.iconst 5, 1) := by decide +kernel
theorem dX5_isHose_7 : decode cX5_isHose 7 = .ok (.iaload, 1) := by decide +kernel
theorem dX5_isHose_8 : decode cX5_isHose 8 = .ok (.iconst 1, 1) := by decide +kernel
theorem dX5_isHose_9 : decode cX5_isHose 9 = .ok (.isub, 1) := by decide +kernel
theorem dX5_isHose_10 : decode cX5_isHose 10 = .ok (.invokestatic 26, 3) := by decide +kernel
theorem dX5_isHose_13 : decode cX5_isHose 13 = .ok (.ireturn, 1) := by decide +kernel
theorem dX5_isTruck_0 : decode cX5_isTruck 0 = .ok (.iload_n 0, 1) := by decide +kernel
theorem dX5_isTruck_1 : decode cX5_isTruck 1 = .ok (.iconst 0, 1) := by decide +kernel
theorem dX5_isTruck_2 : decode cX5_isTruck 2 = .ok (.iconst 2, 1) := by decide +kernel
theorem dX5_isTruck_3 : decode cX5_isTruck 3 = .ok (.invokestatic 26, 3) := by decide +kernel
theorem dX5_isTruck_6 : decode cX5_isTruck 6 = .ok (.ireturn, 1) := by decide +kernel
theorem dX5_of_0 : decode cX5_of 0 = .ok (.aload_n 0, 1) := by decide +kernel
theorem dX5_of_1 : decode cX5_of 1 = .ok (.getfield 7, 3) := by decide +kernel
theorem dX5_of_4 : decode cX5_of 4 = .ok (.bipush 12, 2) := by decide +kernel
theorem dX5_of_6 : decode cX5_of 6 = .ok (.bipush 8, 2) := by decide +kernel
theorem dX5_of_8 : decode cX5_of 8 = .ok (.iload_n 1, 1) := by decide +kernel
theorem dX5_of_9 : decode cX5_of 9 = .ok (.imul, 1) := by decide +kernel
theorem dX5_of_10 : decode cX5_of 10 = .ok (.iadd, 1) := by decide +kernel
theorem dX5_of_11 : decode cX5_of 11 = .ok (.iload_n 2, 1) := by decide +kernel
theorem dX5_of_12 : decode cX5_of 12 = .ok (.iadd, 1) := by decide +kernel
theorem dX5_of_13 : decode cX5_of 13 = .ok (.iaload, 1) := by decide +kernel
theorem dX5_of_14 : decode cX5_of 14 = .ok (.ireturn, 1) := by decide +kernel
theorem dX5_saves_0 : decode cX5_saves 0 = .ok (.aload_n 0, 1) := by decide +kernel
theorem dX5_saves_1 : decode cX5_saves 1 = .ok (.getfield 30, 3) := by decide +kernel
theorem dX5_saves_4 : decode cX5_saves 4 = .ok (.bipush 6, 2) := by decide +kernel
theorem dX5_saves_6 : decode cX5_saves 6 = .ok (.if_icmp .ne 43, 3) := by decide +kernel
theorem dX5_saves_9 : decode cX5_saves 9 = .ok (.iconst 0, 1) := by decide +kernel
theorem dX5_saves_10 : decode cX5_saves 10 = .ok (.istore_n 1, 1) := by decide +kernel
theorem dX5_saves_11 : decode cX5_saves 11 = .ok (.iload_n 1, 1) := by decide +kernel
theorem dX5_saves_12 : decode cX5_saves 12 = .ok (.sipush 620, 3) := by decide +kernel
theorem dX5_saves_15 : decode cX5_saves 15 = .ok (.if_icmp .ge 24, 3) := by decide +kernel
theorem dX5_saves_18 : decode cX5_saves 18 = .ok (.aload_n 0, 1) := by decide +kernel
theorem dX5_saves_19 : decode cX5_saves 19 = .ok (.getfield 13, 3) := by decide +kernel
theorem dX5_saves_22 : decode cX5_saves 22 = .ok (.iload_n 1, 1) := by decide +kernel
theorem dX5_saves_23 : decode cX5_saves 23 = .ok (.aload_n 0, 1) := by decide +kernel
theorem dX5_saves_24 : decode cX5_saves 24 = .ok (.getfield 13, 3) := by decide +kernel
theorem dX5_saves_27 : decode cX5_saves 27 = .ok (.iload_n 1, 1) := by decide +kernel
theorem dX5_saves_28 : decode cX5_saves 28 = .ok (.bipush 124, 2) := by decide +kernel
theorem dX5_saves_30 : decode cX5_saves 30 = .ok (.iadd, 1) := by decide +kernel
theorem dX5_saves_31 : decode cX5_saves 31 = .ok (.iaload, 1) := by decide +kernel
theorem dX5_saves_32 : decode cX5_saves 32 = .ok (.iastore, 1) := by decide +kernel
theorem dX5_saves_33 : decode cX5_saves 33 = .ok (.iinc 1 1, 3) := by decide +kernel
theorem dX5_saves_36 : decode cX5_saves 36 = .ok (.goto (-25), 3) := by decide +kernel
theorem dX5_saves_39 : decode cX5_saves 39 = .ok (.aload_n 0, 1) := by decide +kernel
theorem dX5_saves_40 : decode cX5_saves 40 = .ok (.dup, 1) := by decide +kernel
theorem dX5_saves_41 : decode cX5_saves 41 = .ok (.getfield 30, 3) := by decide +kernel
theorem dX5_saves_44 : decode cX5_saves 44 = .ok (.iconst 1, 1) := by decide +kernel
theorem dX5_saves_45 : decode cX5_saves 45 = .ok (.isub, 1) := by decide +kernel
theorem dX5_saves_46 : decode cX5_saves 46 = .ok (.putfield 30, 3) := by decide +kernel
theorem dX5_saves_49 : decode cX5_saves 49 = .ok (.iconst 0, 1) := by decide +kernel
theorem dX5_saves_50 : decode cX5_saves 50 = .ok (.istore_n 1, 1) := by decide +kernel
theorem dX5_saves_51 : decode cX5_saves 51 = .ok (.iload_n 1, 1) := by decide +kernel
theorem dX5_saves_52 : decode cX5_saves 52 = .ok (.bipush 124, 2) := by decide +kernel
theorem dX5_saves_54 : decode cX5_saves 54 = .ok (.if_icmp .ge 29, 3) := by decide +kernel
theorem dX5_saves_57 : decode cX5_saves 57 = .ok (.aload_n 0, 1) := by decide +kernel
theorem dX5_saves_58 : decode cX5_saves 58 = .ok (.getfield 13, 3) := by decide +kernel
theorem dX5_saves_61 : decode cX5_saves 61 = .ok (.bipush 124, 2) := by decide +kernel
theorem dX5_saves_63 : decode cX5_saves 63 = .ok (.aload_n 0, 1) := by decide +kernel
theorem dX5_saves_64 : decode cX5_saves 64 = .ok (.getfield 30, 3) := by decide +kernel
theorem dX5_saves_67 : decode cX5_saves 67 = .ok (.imul, 1) := by decide +kernel
theorem dX5_saves_68 : decode cX5_saves 68 = .ok (.iload_n 1, 1) := by decide +kernel
theorem dX5_saves_69 : decode cX5_saves 69 = .ok (.iadd, 1) := by decide +kernel
theorem dX5_saves_70 : decode cX5_saves 70 = .ok (.aload_n 0, 1) := by decide +kernel
theorem dX5_saves_71 : decode cX5_saves 71 = .ok (.getfield 7, 3) := by decide +kernel
theorem dX5_saves_74 : decode cX5_saves 74 = .ok (.iload_n 1, 1) := by decide +kernel
theorem dX5_saves_75 : decode cX5_saves 75 = .ok (.iaload, 1) := by decide +kernel
theorem dX5_saves_76 : decode cX5_saves 76 = .ok (.iastore, 1) := by decide +kernel
theorem dX5_saves_77 : decode cX5_saves 77 = .ok (.iinc 1 1, 3) := by decide +kernel
theorem dX5_saves_80 : decode cX5_saves 80 = .ok (.goto (-29), 3) := by decide +kernel
theorem dX5_saves_83 : decode cX5_saves 83 = .ok (.aload_n 0, 1) := by decide +kernel
theorem dX5_saves_84 : decode cX5_saves 84 = .ok (.dup, 1) := by decide +kernel
theorem dX5_saves_85 : decode cX5_saves 85 = .ok (.getfield 30, 3) := by decide +kernel
theorem dX5_saves_88 : decode cX5_saves 88 = .ok (.iconst 1, 1) := by decide +kernel
theorem dX5_saves_89 : decode cX5_saves 89 = .ok (.iadd, 1) := by decide +kernel
theorem dX5_saves_90 : decode cX5_saves 90 = .ok (.putfield 30, 3) := by decide +kernel
theorem dX5_saves_93 : decode cX5_saves 93 = .ok (.return_, 1) := by decide +kernel
theorem dX5_undo_0 : decode cX5_undo 0 = .ok (.aload_n 0, 1) := by decide +kernel
theorem dX5_undo_1 : decode cX5_undo 1 = .ok (.iconst 0, 1) := by decide +kernel
theorem dX5_undo_2 : decode cX5_undo 2 = .ok (.putfield 22, 3) := by decide +kernel
theorem dX5_undo_5 : decode cX5_undo 5 = .ok (.aload_n 0, 1) := by decide +kernel
theorem dX5_undo_6 : decode cX5_undo 6 = .ok (.getfield 30, 3) := by decide +kernel
theorem dX5_undo_9 : decode cX5_undo 9 = .ok (.ifCond .ne 9, 3) := by decide +kernel
theorem dX5_undo_12 : decode cX5_undo 12 = .ok (.aload_n 0, 1) := by decide +kernel
theorem dX5_undo_13 : decode cX5_undo 13 = .ok (.iconst 1, 1) := by decide +kernel
theorem dX5_undo_14 : decode cX5_undo 14 = .ok (.invokevirtual 33, 3) := by decide +kernel
theorem dX5_undo_17 : decode cX5_undo 17 = .ok (.ireturn, 1) := by decide +kernel
theorem dX5_undo_18 : decode cX5_undo 18 = .ok (.aload_n 0, 1) := by decide +kernel
theorem dX5_undo_19 : decode cX5_undo 19 = .ok (.dup, 1) := by decide +kernel
theorem dX5_undo_20 : decode cX5_undo 20 = .ok (.getfield 30, 3) := by decide +kernel
theorem dX5_undo_23 : decode cX5_undo 23 = .ok (.iconst 1, 1) := by decide +kernel
theorem dX5_undo_24 : decode cX5_undo 24 = .ok (.isub, 1) := by decide +kernel
theorem dX5_undo_25 : decode cX5_undo 25 = .ok (.putfield 30, 3) := by decide +kernel
theorem dX5_undo_28 : decode cX5_undo 28 = .ok (.iconst 0, 1) := by decide +kernel
theorem dX5_undo_29 : decode cX5_undo 29 = .ok (.istore_n 1, 1) := by decide +kernel
theorem dX5_undo_30 : decode cX5_undo 30 = .ok (.iload_n 1, 1) := by decide +kernel
theorem dX5_undo_31 : decode cX5_undo 31 = .ok (.bipush 124, 2) := by decide +kernel
theorem dX5_undo_33 : decode cX5_undo 33 = .ok (.if_icmp .ge 29, 3) := by decide +kernel
theorem dX5_undo_36 : decode cX5_undo 36 = .ok (.aload_n 0, 1) := by decide +kernel
theorem dX5_undo_37 : decode cX5_undo 37 = .ok (.getfield 7, 3) := by decide +kernel
theorem dX5_undo_40 : decode cX5_undo 40 = .ok (.iload_n 1, 1) := by decide +kernel
theorem dX5_undo_41 : decode cX5_undo 41 = .ok (.aload_n 0, 1) := by decide +kernel
theorem dX5_undo_42 : decode cX5_undo 42 = .ok (.getfield 13, 3) := by decide +kernel
theorem dX5_undo_45 : decode cX5_undo 45 = .ok (.bipush 124, 2) := by decide +kernel
theorem dX5_undo_47 : decode cX5_undo 47 = .ok (.aload_n 0, 1) := by decide +kernel
theorem dX5_undo_48 : decode cX5_undo 48 = .ok (.getfield 30, 3) := by decide +kernel
theorem dX5_undo_51 : decode cX5_undo 51 = .ok (.imul, 1) := by decide +kernel
theorem dX5_undo_52 : decode cX5_undo 52 = .ok (.iload_n 1, 1) := by decide +kernel
theorem dX5_undo_53 : decode cX5_undo 53 = .ok (.iadd, 1) := by decide +kernel
theorem dX5_undo_54 : decode cX5_undo 54 = .ok (.iaload, 1) := by decide +kernel
theorem dX5_undo_55 : decode cX5_undo 55 = .ok (.iastore, 1) := by decide +kernel
theorem dX5_undo_56 : decode cX5_undo 56 = .ok (.iinc 1 1, 3) := by decide +kernel
theorem dX5_undo_59 : decode cX5_undo 59 = .ok (.goto (-29), 3) := by decide +kernel
theorem dX5_undo_62 : decode cX5_undo 62 = .ok (.aload_n 0, 1) := by decide +kernel
theorem dX5_undo_63 : decode cX5_undo 63 = .ok (.getfield 30, 3) := by decide +kernel
theorem dX5_undo_66 : decode cX5_undo 66 = .ok (.ireturn, 1) := by decide +kernel
theorem dX5_life_0 : decode cX5_life 0 = .ok (.iload_n 0, 1) := by decide +kernel
theorem dX5_life_1 : decode cX5_life 1 = .ok (.ifCond .ne 9, 3) := by decide +kernel
theorem dX5_life_4 : decode cX5_life 4 = .ok (.sipush 900, 3) := by decide +kernel
theorem dX5_life_7 : decode cX5_life 7 = .ok (.goto 17, 3) := by decide +kernel
theorem dX5_life_10 : decode cX5_life 10 = .ok (.iload_n 0, 1) := by decide +kernel
theorem dX5_life_11 : decode cX5_life 11 = .ok (.iconst 1, 1) := by decide +kernel
theorem dX5_life_12 : decode cX5_life 12 = .ok (.if_icmp .ne 9, 3) := by decide +kernel
theorem dX5_life_15 : decode cX5_life 15 = .ok (.sipush 1500, 3) := by decide +kernel
theorem dX5_life_18 : decode cX5_life 18 = .ok (.goto 6, 3) := by decide +kernel
theorem dX5_life_21 : decode cX5_life 21 = .ok (.sipush 1200, 3) := by decide +kernel
theorem dX5_life_24 : decode cX5_life 24 = .ok (.ireturn, 1) := by decide +kernel
theorem dX5_force_0 : decode cX5_force 0 = .ok (.iload_n 0, 1) := by decide +kernel
theorem dX5_force_1 : decode cX5_force 1 = .ok (.ifCond .ne 8, 3) := by decide +kernel
theorem dX5_force_4 : decode cX5_force 4 = .ok (.bipush 100, 2) := by decide +kernel
theorem dX5_force_6 : decode cX5_force 6 = .ok (.goto 17, 3) := by decide +kernel
theorem dX5_force_9 : decode cX5_force 9 = .ok (.iload_n 0, 1) := by decide +kernel
theorem dX5_force_10 : decode cX5_force 10 = .ok (.iconst 1, 1) := by decide +kernel
theorem dX5_force_11 : decode cX5_force 11 = .ok (.if_icmp .ne 9, 3) := by decide +kernel
theorem dX5_force_14 : decode cX5_force 14 = .ok (.sipush 150, 3) := by decide +kernel
theorem dX5_force_17 : decode cX5_force 17 = .ok (.goto 6, 3) := by decide +kernel
theorem dX5_force_20 : decode cX5_force 20 = .ok (.sipush 200, 3) := by decide +kernel
theorem dX5_force_23 : decode cX5_force 23 = .ok (.ireturn, 1) := by decide +kernel
theorem dX5_cost_0 : decode cX5_cost 0 = .ok (.iload_n 0, 1) := by decide +kernel
theorem dX5_cost_1 : decode cX5_cost 1 = .ok (.iconst 2, 1) := by decide +kernel
theorem dX5_cost_2 : decode cX5_cost 2 = .ok (.if_icmp .ne 12, 3) := by decide +kernel
theorem dX5_cost_5 : decode cX5_cost 5 = .ok (.iconst 4, 1) := by decide +kernel
theorem dX5_cost_6 : decode cX5_cost 6 = .ok (.iload_n 1, 1) := by decide +kernel
theorem dX5_cost_7 : decode cX5_cost 7 = .ok (.imul, 1) := by decide +kernel
theorem dX5_cost_8 : decode cX5_cost 8 = .ok (.bipush 10, 2) := by decide +kernel
theorem dX5_cost_10 : decode cX5_cost 10 = .ok (.iadd, 1) := by decide +kernel
theorem dX5_cost_11 : decode cX5_cost 11 = .ok (.goto 8, 3) := by decide +kernel
theorem dX5_cost_14 : decode cX5_cost 14 = .ok (.iload_n 0, 1) := by decide +kernel
theorem dX5_cost_15 : decode cX5_cost 15 = .ok (.iconst 2, 1) := by decide +kernel
theorem dX5_cost_16 : decode cX5_cost 16 = .ok (.iadd, 1) := by decide +kernel
theorem dX5_cost_17 : decode cX5_cost 17 = .ok (.iload_n 1, 1) := by decide +kernel
theorem dX5_cost_18 : decode cX5_cost 18 = .ok (.imul, 1) := by decide +kernel
theorem dX5_cost_19 : decode cX5_cost 19 = .ok (.ireturn, 1) := by decide +kernel
theorem dX5_strength_0 : decode cX5_strength 0 = .ok (.aload_n 0, 1) := by decide +kernel
theorem dX5_strength_1 : decode cX5_strength 1 = .ok (.iload_n 1, 1) := by decide +kernel
theorem dX5_strength_2 : decode cX5_strength 2 = .ok (.iconst 0, 1) := by decide +kernel
theorem dX5_strength_3 : decode cX5_strength 3 = .ok (.invokevirtual 37, 3) := by decide +kernel
theorem dX5_strength_6 : decode cX5_strength 6 = .ok (.istore_n 3, 1) := by decide +kernel
theorem dX5_strength_7 : decode cX5_strength 7 = .ok (.aload_n 0, 1) := by decide +kernel
theorem dX5_strength_8 : decode cX5_strength 8 = .ok (.getfield 7, 3) := by decide +kernel
theorem dX5_strength_11 : decode cX5_strength 11 = .ok (.iconst 3, 1) := by decide +kernel
theorem dX5_strength_12 : decode cX5_strength 12 = .ok (.iaload, 1) := by decide +kernel
theorem dX5_strength_13 : decode cX5_strength 13 = .ok (.aload_n 0, 1) := by decide +kernel
theorem dX5_strength_14 : decode cX5_strength 14 = .ok (.iload_n 1, 1) := by decide +kernel
theorem dX5_strength_15 : decode cX5_strength 15 = .ok (.iconst 3, 1) := by decide +kernel
theorem dX5_strength_16 : decode cX5_strength 16 = .ok (.invokevirtual 37, 3) := by decide +kernel
theorem dX5_strength_19 : decode cX5_strength 19 = .ok (.isub, 1) := by decide +kernel
theorem dX5_strength_20 : decode cX5_strength 20 = .ok (.bipush 100, 2) := by decide +kernel
theorem dX5_strength_22 : decode cX5_strength 22 = .ok (.idiv, 1) := by decide +kernel
theorem dX5_strength_23 : decode cX5_strength 23 = .ok (.istore 4, 2) := by decide +kernel
theorem dX5_strength_25 : decode cX5_strength 25 = .ok (.iload_n 3, 1) := by decide +kernel
theorem dX5_strength_26 : decode cX5_strength 26 = .ok (.ifCond .ne 16, 3) := by decide +kernel
theorem dX5_strength_29 : decode cX5_strength 29 = .ok (.bipush 16, 2) := by decide +kernel
theorem dX5_strength_31 : decode cX5_strength 31 = .ok (.iload_n 2, 1) := by decide +kernel
theorem dX5_strength_32 : decode cX5_strength 32 = .ok (.bipush 10, 2) := by decide +kernel
theorem dX5_strength_34 : decode cX5_strength 34 = .ok (.idiv, 1) := by decide +kernel
theorem dX5_strength_35 : decode cX5_strength 35 = .ok (.isub, 1) := by decide +kernel
theorem dX5_strength_36 : decode cX5_strength 36 = .ok (.iload 4, 2) := by decide +kernel
theorem dX5_strength_38 : decode cX5_strength 38 = .ok (.isub, 1) := by decide +kernel
theorem dX5_strength_39 : decode cX5_strength 39 = .ok (.goto 29, 3) := by decide +kernel
theorem dX5_strength_42 : decode cX5_strength 42 = .ok (.iload_n 3, 1) := by decide +kernel
theorem dX5_strength_43 : decode cX5_strength 43 = .ok (.iconst 1, 1) := by decide +kernel
theorem dX5_strength_44 : decode cX5_strength 44 = .ok (.if_icmp .ne 18, 3) := by decide +kernel
theorem dX5_strength_47 : decode cX5_strength 47 = .ok (.bipush 20, 2) := by decide +kernel
theorem dX5_strength_49 : decode cX5_strength 49 = .ok (.iload_n 2, 1) := by decide +kernel
theorem dX5_strength_50 : decode cX5_strength 50 = .ok (.bipush 8, 2) := by decide +kernel
theorem dX5_strength_52 : decode cX5_strength 52 = .ok (.idiv, 1) := by decide +kernel
theorem dX5_strength_53 : decode cX5_strength 53 = .ok (.isub, 1) := by decide +kernel
theorem dX5_strength_54 : decode cX5_strength 54 = .ok (.iload 4, 2) := by decide +kernel
theorem dX5_strength_56 : decode cX5_strength 56 = .ok (.iconst 2, 1) := by decide +kernel
theorem dX5_strength_57 : decode cX5_strength 57 = .ok (.idiv, 1) := by decide +kernel
theorem dX5_strength_58 : decode cX5_strength 58 = .ok (.isub, 1) := by decide +kernel
theorem dX5_strength_59 : decode cX5_strength 59 = .ok (.goto 9, 3) := by decide +kernel
theorem dX5_strength_62 : decode cX5_strength 62 = .ok (.bipush 24, 2) := by decide +kernel
theorem dX5_strength_64 : decode cX5_strength 64 = .ok (.iload_n 2, 1) := by decide +kernel
theorem dX5_strength_65 : decode cX5_strength 65 = .ok (.iconst 5, 1) := by decide +kernel
theorem dX5_strength_66 : decode cX5_strength 66 = .ok (.idiv, 1) := by decide +kernel
theorem dX5_strength_67 : decode cX5_strength 67 = .ok (.isub, 1) := by decide +kernel
theorem dX5_strength_68 : decode cX5_strength 68 = .ok (.istore 5, 2) := by decide +kernel
theorem dX5_strength_70 : decode cX5_strength 70 = .ok (.iload 5, 2) := by decide +kernel
theorem dX5_strength_72 : decode cX5_strength 72 = .ok (.ifCond .ge 7, 3) := by decide +kernel
theorem dX5_strength_75 : decode cX5_strength 75 = .ok (.iconst 0, 1) := by decide +kernel
theorem dX5_strength_76 : decode cX5_strength 76 = .ok (.goto 5, 3) := by decide +kernel
theorem dX5_strength_79 : decode cX5_strength 79 = .ok (.iload 5, 2) := by decide +kernel
theorem dX5_strength_81 : decode cX5_strength 81 = .ok (.ireturn, 1) := by decide +kernel
theorem dX5_reason_0 : decode cX5_reason 0 = .ok (.aload_n 0, 1) := by decide +kernel
theorem dX5_reason_1 : decode cX5_reason 1 = .ok (.iload_n 1, 1) := by decide +kernel
theorem dX5_reason_2 : decode cX5_reason 2 = .ok (.bipush 6, 2) := by decide +kernel
theorem dX5_reason_4 : decode cX5_reason 4 = .ok (.invokevirtual 37, 3) := by decide +kernel
theorem dX5_reason_7 : decode cX5_reason 7 = .ok (.istore_n 2, 1) := by decide +kernel
theorem dX5_reason_8 : decode cX5_reason 8 = .ok (.iload_n 2, 1) := by decide +kernel
theorem dX5_reason_9 : decode cX5_reason 9 = .ok (.iconst (-1), 1) := by decide +kernel
theorem dX5_reason_10 : decode cX5_reason 10 = .ok (.if_icmp .eq 8, 3) := by decide +kernel
theorem dX5_reason_13 : decode cX5_reason 13 = .ok (.iload_n 2, 1) := by decide +kernel
theorem dX5_reason_14 : decode cX5_reason 14 = .ok (.iconst 4, 1) := by decide +kernel
theorem dX5_reason_15 : decode cX5_reason 15 = .ok (.if_icmp .ne 14, 3) := by decide +kernel
theorem dX5_reason_18 : decode cX5_reason 18 = .ok (.iload_n 2, 1) := by decide +kernel
theorem dX5_reason_19 : decode cX5_reason 19 = .ok (.iconst (-1), 1) := by decide +kernel
theorem dX5_reason_20 : decode cX5_reason 20 = .ok (.if_icmp .ne 7, 3) := by decide +kernel
theorem dX5_reason_23 : decode cX5_reason 23 = .ok (.iconst 1, 1) := by decide +kernel
theorem dX5_reason_24 : decode cX5_reason 24 = .ok (.goto 4, 3) := by decide +kernel
theorem dX5_reason_27 : decode cX5_reason 27 = .ok (.iconst 2, 1) := by decide +kernel
theorem dX5_reason_28 : decode cX5_reason 28 = .ok (.ireturn, 1) := by decide +kernel
theorem dX5_reason_29 : decode cX5_reason 29 = .ok (.aload_n 0, 1) := by decide +kernel
theorem dX5_reason_30 : decode cX5_reason 30 = .ok (.getfield 7, 3) := by decide +kernel
theorem dX5_reason_33 : decode cX5_reason 33 = .ok (.iconst 3, 1) := by decide +kernel
theorem dX5_reason_34 : decode cX5_reason 34 = .ok (.iaload, 1) := by decide +kernel
theorem dX5_reason_35 : decode cX5_reason 35 = .ok (.aload_n 0, 1) := by decide +kernel
theorem dX5_reason_36 : decode cX5_reason 36 = .ok (.iload_n 1, 1) := by decide +kernel
theorem dX5_reason_37 : decode cX5_reason 37 = .ok (.iconst 3, 1) := by decide +kernel
theorem dX5_reason_38 : decode cX5_reason 38 = .ok (.invokevirtual 37, 3) := by decide +kernel
theorem dX5_reason_41 : decode cX5_reason 41 = .ok (.isub, 1) := by decide +kernel
theorem dX5_reason_42 : decode cX5_reason 42 = .ok (.aload_n 0, 1) := by decide +kernel
theorem dX5_reason_43 : decode cX5_reason 43 = .ok (.iload_n 1, 1) := by decide +kernel
theorem dX5_reason_44 : decode cX5_reason 44 = .ok (.iconst 0, 1) := by decide +kernel
theorem dX5_reason_45 : decode cX5_reason 45 = .ok (.invokevirtual 37, 3) := by decide +kernel
theorem dX5_reason_48 : decode cX5_reason 48 = .ok (.invokestatic 41, 3) := by decide +kernel
theorem dX5_reason_51 : decode cX5_reason 51 = .ok (.if_icmp .le 7, 3) := by decide +kernel
theorem dX5_reason_54 : decode cX5_reason 54 = .ok (.iconst 3, 1) := by decide +kernel
theorem dX5_reason_55 : decode cX5_reason 55 = .ok (.goto 23, 3) := by decide +kernel
theorem dX5_reason_58 : decode cX5_reason 58 = .ok (.aload_n 0, 1) := by decide +kernel
theorem dX5_reason_59 : decode cX5_reason 59 = .ok (.iload_n 1, 1) := by decide +kernel
theorem dX5_reason_60 : decode cX5_reason 60 = .ok (.iconst 5, 1) := by decide +kernel
theorem dX5_reason_61 : decode cX5_reason 61 = .ok (.invokevirtual 37, 3) := by decide +kernel
theorem dX5_reason_64 : decode cX5_reason 64 = .ok (.aload_n 0, 1) := by decide +kernel
theorem dX5_reason_65 : decode cX5_reason 65 = .ok (.getfield 7, 3) := by decide +kernel
theorem dX5_reason_68 : decode cX5_reason 68 = .ok (.iconst 3, 1) := by decide +kernel
theorem dX5_reason_69 : decode cX5_reason 69 = .ok (.iaload, 1) := by decide +kernel
theorem dX5_reason_70 : decode cX5_reason 70 = .ok (.if_icmp .ge 7, 3) := by decide +kernel
theorem dX5_reason_73 : decode cX5_reason 73 = .ok (.iconst 4, 1) := by decide +kernel
theorem dX5_reason_74 : decode cX5_reason 74 = .ok (.goto 4, 3) := by decide +kernel
theorem dX5_reason_77 : decode cX5_reason 77 = .ok (.iconst 0, 1) := by decide +kernel
theorem dX5_reason_78 : decode cX5_reason 78 = .ok (.ireturn, 1) := by decide +kernel
theorem dX5_isReady_0 : decode cX5_isReady 0 = .ok (.aload_n 0, 1) := by decide +kernel
theorem dX5_isReady_1 : decode cX5_isReady 1 = .ok (.iload_n 1, 1) := by decide +kernel
theorem dX5_isReady_2 : decode cX5_isReady 2 = .ok (.invokevirtual 44, 3) := by decide +kernel
theorem dX5_isReady_5 : decode cX5_isReady 5 = .ok (.ifCond .ne 7, 3) := by decide +kernel
theorem dX5_isReady_8 : decode cX5_isReady 8 = .ok (.iconst 1, 1) := by decide +kernel
theorem dX5_isReady_9 : decode cX5_isReady 9 = .ok (.goto 4, 3) := by decide +kernel
theorem dX5_isReady_12 : decode cX5_isReady 12 = .ok (.iconst 0, 1) := by decide +kernel
theorem dX5_isReady_13 : decode cX5_isReady 13 = .ok (.ireturn, 1) := by decide +kernel
theorem dX5_tries_0 : decode cX5_tries 0 = .ok (.aload_n 0, 1) := by decide +kernel
theorem dX5_tries_1 : decode cX5_tries 1 = .ok (.aload_n 0, 1) := by decide +kernel
theorem dX5_tries_2 : decode cX5_tries 2 = .ok (.iload_n 1, 1) := by decide +kernel
theorem dX5_tries_3 : decode cX5_tries 3 = .ok (.iconst 4, 1) := by decide +kernel
theorem dX5_tries_4 : decode cX5_tries 4 = .ok (.invokevirtual 37, 3) := by decide +kernel
theorem dX5_tries_7 : decode cX5_tries 7 = .ok (.putfield 47, 3) := by decide +kernel
theorem dX5_tries_10 : decode cX5_tries 10 = .ok (.iconst 0, 1) := by decide +kernel
theorem dX5_tries_11 : decode cX5_tries 11 = .ok (.istore_n 3, 1) := by decide +kernel
theorem dX5_tries_12 : decode cX5_tries 12 = .ok (.iconst 0, 1) := by decide +kernel
theorem dX5_tries_13 : decode cX5_tries 13 = .ok (.istore 4, 2) := by decide +kernel
theorem dX5_tries_15 : decode cX5_tries 15 = .ok (.iload 4, 2) := by decide +kernel
theorem dX5_tries_17 : decode cX5_tries 17 = .ok (.iload_n 2, 1) := by decide +kernel
theorem dX5_tries_18 : decode cX5_tries 18 = .ok (.if_icmp .ge 70, 3) := by decide +kernel
theorem dX5_tries_21 : decode cX5_tries 21 = .ok (.iload 4, 2) := by decide +kernel
theorem dX5_tries_23 : decode cX5_tries 23 = .ok (.iconst 4, 1) := by decide +kernel
theorem dX5_tries_24 : decode cX5_tries 24 = .ok (.iadd, 1) := by decide +kernel
theorem dX5_tries_25 : decode cX5_tries 25 = .ok (.iload_n 2, 1) := by decide +kernel
theorem dX5_tries_26 : decode cX5_tries 26 = .ok (.if_icmp .le 7, 3) := by decide +kernel
theorem dX5_tries_29 : decode cX5_tries 29 = .ok (.iload_n 2, 1) := by decide +kernel
theorem dX5_tries_30 : decode cX5_tries 30 = .ok (.goto 7, 3) := by decide +kernel
theorem dX5_tries_33 : decode cX5_tries 33 = .ok (.iload 4, 2) := by decide +kernel
theorem dX5_tries_35 : decode cX5_tries 35 = .ok (.iconst 4, 1) := by decide +kernel
theorem dX5_tries_36 : decode cX5_tries 36 = .ok (.iadd, 1) := by decide +kernel
theorem dX5_tries_37 : decode cX5_tries 37 = .ok (.istore 4, 2) := by decide +kernel
theorem dX5_tries_39 : decode cX5_tries 39 = .ok (.aload_n 0, 1) := by decide +kernel
theorem dX5_tries_40 : decode cX5_tries 40 = .ok (.iload_n 1, 1) := by decide +kernel
theorem dX5_tries_41 : decode cX5_tries 41 = .ok (.aload_n 0, 1) := by decide +kernel
theorem dX5_tries_42 : decode cX5_tries 42 = .ok (.getfield 47, 3) := by decide +kernel
theorem dX5_tries_45 : decode cX5_tries 45 = .ok (.invokevirtual 50, 3) := by decide +kernel
theorem dX5_tries_48 : decode cX5_tries 48 = .ok (.iload 4, 2) := by decide +kernel
theorem dX5_tries_50 : decode cX5_tries 50 = .ok (.if_icmp .ge 8, 3) := by decide +kernel
theorem dX5_tries_53 : decode cX5_tries 53 = .ok (.iload_n 3, 1) := by decide +kernel
theorem dX5_tries_54 : decode cX5_tries 54 = .ok (.bipush 100, 2) := by decide +kernel
theorem dX5_tries_56 : decode cX5_tries 56 = .ok (.iadd, 1) := by decide +kernel
theorem dX5_tries_57 : decode cX5_tries 57 = .ok (.ireturn, 1) := by decide +kernel
theorem dX5_tries_58 : decode cX5_tries 58 = .ok (.iinc 3 1, 3) := by decide +kernel
theorem dX5_tries_61 : decode cX5_tries 61 = .ok (.aload_n 0, 1) := by decide +kernel
theorem dX5_tries_62 : decode cX5_tries 62 = .ok (.aload_n 0, 1) := by decide +kernel
theorem dX5_tries_63 : decode cX5_tries 63 = .ok (.getfield 47, 3) := by decide +kernel
theorem dX5_tries_66 : decode cX5_tries 66 = .ok (.bipush 99, 2) := by decide +kernel
theorem dX5_tries_68 : decode cX5_tries 68 = .ok (.if_icmp .ge 12, 3) := by decide +kernel
theorem dX5_tries_71 : decode cX5_tries 71 = .ok (.aload_n 0, 1) := by decide +kernel
theorem dX5_tries_72 : decode cX5_tries 72 = .ok (.getfield 47, 3) := by decide +kernel
theorem dX5_tries_75 : decode cX5_tries 75 = .ok (.iconst 1, 1) := by decide +kernel
theorem dX5_tries_76 : decode cX5_tries 76 = .ok (.iadd, 1) := by decide +kernel
theorem dX5_tries_77 : decode cX5_tries 77 = .ok (.goto 5, 3) := by decide +kernel
theorem dX5_tries_80 : decode cX5_tries 80 = .ok (.bipush 99, 2) := by decide +kernel
theorem dX5_tries_82 : decode cX5_tries 82 = .ok (.putfield 47, 3) := by decide +kernel
theorem dX5_tries_85 : decode cX5_tries 85 = .ok (.goto (-70), 3) := by decide +kernel
theorem dX5_tries_88 : decode cX5_tries 88 = .ok (.iload_n 3, 1) := by decide +kernel
theorem dX5_tries_89 : decode cX5_tries 89 = .ok (.ireturn, 1) := by decide +kernel
theorem dX5_lays_0 : decode cX5_lays 0 = .ok (.aload_n 0, 1) := by decide +kernel
theorem dX5_lays_1 : decode cX5_lays 1 = .ok (.iconst 0, 1) := by decide +kernel
theorem dX5_lays_2 : decode cX5_lays 2 = .ok (.putfield 53, 3) := by decide +kernel
theorem dX5_lays_5 : decode cX5_lays 5 = .ok (.aload_n 0, 1) := by decide +kernel
theorem dX5_lays_6 : decode cX5_lays 6 = .ok (.iconst 0, 1) := by decide +kernel
theorem dX5_lays_7 : decode cX5_lays 7 = .ok (.putfield 56, 3) := by decide +kernel
theorem dX5_lays_10 : decode cX5_lays 10 = .ok (.aload_n 0, 1) := by decide +kernel
theorem dX5_lays_11 : decode cX5_lays 11 = .ok (.iconst 0, 1) := by decide +kernel
theorem dX5_lays_12 : decode cX5_lays 12 = .ok (.putfield 59, 3) := by decide +kernel
theorem dX5_lays_15 : decode cX5_lays 15 = .ok (.iconst (-1), 1) := by decide +kernel
theorem dX5_lays_16 : decode cX5_lays 16 = .ok (.istore_n 3, 1) := by decide +kernel
theorem dX5_lays_17 : decode cX5_lays 17 = .ok (.iconst 0, 1) := by decide +kernel
theorem dX5_lays_18 : decode cX5_lays 18 = .ok (.istore 4, 2) := by decide +kernel
theorem dX5_lays_20 : decode cX5_lays 20 = .ok (.iload 4, 2) := by decide +kernel
theorem dX5_lays_22 : decode cX5_lays 22 = .ok (.aload_n 0, 1) := by decide +kernel
theorem dX5_lays_23 : decode cX5_lays 23 = .ok (.getfield 7, 3) := by decide +kernel
theorem dX5_lays_26 : decode cX5_lays 26 = .ok (.iconst 5, 1) := by decide +kernel
theorem dX5_lays_27 : decode cX5_lays 27 = .ok (.iaload, 1) := by decide +kernel
theorem dX5_lays_28 : decode cX5_lays 28 = .ok (.if_icmp .ge 145, 3) := by decide +kernel
theorem dX5_lays_31 : decode cX5_lays 31 = .ok (.aload_n 0, 1) := by decide +kernel
theorem dX5_lays_32 : decode cX5_lays 32 = .ok (.iload 4, 2) := by decide +kernel
theorem dX5_lays_34 : decode cX5_lays 34 = .ok (.bipush 6, 2) := by decide +kernel
theorem dX5_lays_36 : decode cX5_lays 36 = .ok (.invokevirtual 37, 3) := by decide +kernel
theorem dX5_lays_39 : decode cX5_lays 39 = .ok (.iload_n 1, 1) := by decide +kernel
theorem dX5_lays_40 : decode cX5_lays 40 = .ok (.if_icmp .eq 9, 3) := by decide +kernel
theorem dX5_lays_43 : decode cX5_lays 43 = .ok (.iload 4, 2) := by decide +kernel
theorem dX5_lays_45 : decode cX5_lays 45 = .ok (.iload_n 2, 1) := by decide +kernel
theorem dX5_lays_46 : decode cX5_lays 46 = .ok (.if_icmp .ne 16, 3) := by decide +kernel
theorem dX5_lays_49 : decode cX5_lays 49 = .ok (.aload_n 0, 1) := by decide +kernel
theorem dX5_lays_50 : decode cX5_lays 50 = .ok (.iload 4, 2) := by decide +kernel
theorem dX5_lays_52 : decode cX5_lays 52 = .ok (.invokevirtual 62, 3) := by decide +kernel
theorem dX5_lays_55 : decode cX5_lays 55 = .ok (.ifCond .eq 7, 3) := by decide +kernel
theorem dX5_lays_58 : decode cX5_lays 58 = .ok (.iconst 1, 1) := by decide +kernel
theorem dX5_lays_59 : decode cX5_lays 59 = .ok (.goto 4, 3) := by decide +kernel
theorem dX5_lays_62 : decode cX5_lays 62 = .ok (.iconst 0, 1) := by decide +kernel
theorem dX5_lays_63 : decode cX5_lays 63 = .ok (.istore 5, 2) := by decide +kernel
theorem dX5_lays_65 : decode cX5_lays 65 = .ok (.iload_n 3, 1) := by decide +kernel
theorem dX5_lays_66 : decode cX5_lays 66 = .ok (.iconst (-1), 1) := by decide +kernel
theorem dX5_lays_67 : decode cX5_lays 67 = .ok (.if_icmp .eq 14, 3) := by decide +kernel
theorem dX5_lays_70 : decode cX5_lays 70 = .ok (.aload_n 0, 1) := by decide +kernel
theorem dX5_lays_71 : decode cX5_lays 71 = .ok (.iload 4, 2) := by decide +kernel
theorem dX5_lays_73 : decode cX5_lays 73 = .ok (.iconst 2, 1) := by decide +kernel
theorem dX5_lays_74 : decode cX5_lays 74 = .ok (.invokevirtual 37, 3) := by decide +kernel
theorem dX5_lays_77 : decode cX5_lays 77 = .ok (.iload_n 3, 1) := by decide +kernel
theorem dX5_lays_78 : decode cX5_lays 78 = .ok (.if_icmp .ne 7, 3) := by decide +kernel
theorem dX5_lays_81 : decode cX5_lays 81 = .ok (.iconst 1, 1) := by decide +kernel
theorem dX5_lays_82 : decode cX5_lays 82 = .ok (.goto 4, 3) := by decide +kernel
theorem dX5_lays_85 : decode cX5_lays 85 = .ok (.iconst 0, 1) := by decide +kernel
theorem dX5_lays_86 : decode cX5_lays 86 = .ok (.istore 6, 2) := by decide +kernel
theorem dX5_lays_88 : decode cX5_lays 88 = .ok (.iload 5, 2) := by decide +kernel
theorem dX5_lays_90 : decode cX5_lays 90 = .ok (.ifCond .eq 77, 3) := by decide +kernel
theorem dX5_lays_93 : decode cX5_lays 93 = .ok (.iload 6, 2) := by decide +kernel
theorem dX5_lays_95 : decode cX5_lays 95 = .ok (.ifCond .ne 16, 3) := by decide +kernel
theorem dX5_lays_98 : decode cX5_lays 98 = .ok (.aload_n 0, 1) := by decide +kernel
theorem dX5_lays_99 : decode cX5_lays 99 = .ok (.getfield 56, 3) := by decide +kernel
theorem dX5_lays_102 : decode cX5_lays 102 = .ok (.aload_n 0, 1) := by decide +kernel
theorem dX5_lays_103 : decode cX5_lays 103 = .ok (.getfield 7, 3) := by decide +kernel
theorem dX5_lays_106 : decode cX5_lays 106 = .ok (.iconst 1, 1) := by decide +kernel
theorem dX5_lays_107 : decode cX5_lays 107 = .ok (.iaload, 1) := by decide +kernel
theorem dX5_lays_108 : decode cX5_lays 108 = .ok (.if_icmp .ge 59, 3) := by decide +kernel
theorem dX5_lays_111 : decode cX5_lays 111 = .ok (.aload_n 0, 1) := by decide +kernel
theorem dX5_lays_112 : decode cX5_lays 112 = .ok (.dup, 1) := by decide +kernel
theorem dX5_lays_113 : decode cX5_lays 113 = .ok (.getfield 56, 3) := by decide +kernel
theorem dX5_lays_116 : decode cX5_lays 116 = .ok (.iload 6, 2) := by decide +kernel
theorem dX5_lays_118 : decode cX5_lays 118 = .ok (.ifCond .eq 7, 3) := by decide +kernel
theorem dX5_lays_121 : decode cX5_lays 121 = .ok (.iconst 0, 1) := by decide +kernel
theorem dX5_lays_122 : decode cX5_lays 122 = .ok (.goto 4, 3) := by decide +kernel
theorem dX5_lays_125 : decode cX5_lays 125 = .ok (.iconst 1, 1) := by decide +kernel
theorem dX5_lays_126 : decode cX5_lays 126 = .ok (.iadd, 1) := by decide +kernel
theorem dX5_lays_127 : decode cX5_lays 127 = .ok (.putfield 56, 3) := by decide +kernel
theorem dX5_lays_130 : decode cX5_lays 130 = .ok (.aload_n 0, 1) := by decide +kernel
theorem dX5_lays_131 : decode cX5_lays 131 = .ok (.iload 4, 2) := by decide +kernel
theorem dX5_lays_133 : decode cX5_lays 133 = .ok (.iconst 2, 1) := by decide +kernel
theorem dX5_lays_134 : decode cX5_lays 134 = .ok (.invokevirtual 37, 3) := by decide +kernel
theorem dX5_lays_137 : decode cX5_lays 137 = .ok (.istore_n 3, 1) := by decide +kernel
theorem dX5_lays_138 : decode cX5_lays 138 = .ok (.aload_n 0, 1) := by decide +kernel
theorem dX5_lays_139 : decode cX5_lays 139 = .ok (.dup, 1) := by decide +kernel
theorem dX5_lays_140 : decode cX5_lays 140 = .ok (.getfield 53, 3) := by decide +kernel
theorem dX5_lays_143 : decode cX5_lays 143 = .ok (.aload_n 0, 1) := by decide +kernel
theorem dX5_lays_144 : decode cX5_lays 144 = .ok (.iload 4, 2) := by decide +kernel
theorem dX5_lays_146 : decode cX5_lays 146 = .ok (.iconst 1, 1) := by decide +kernel
theorem dX5_lays_147 : decode cX5_lays 147 = .ok (.invokevirtual 37, 3) := by decide +kernel
theorem dX5_lays_150 : decode cX5_lays 150 = .ok (.iadd, 1) := by decide +kernel
theorem dX5_lays_151 : decode cX5_lays 151 = .ok (.putfield 53, 3) := by decide +kernel
theorem dX5_lays_154 : decode cX5_lays 154 = .ok (.aload_n 0, 1) := by decide +kernel
theorem dX5_lays_155 : decode cX5_lays 155 = .ok (.dup, 1) := by decide +kernel
theorem dX5_lays_156 : decode cX5_lays 156 = .ok (.getfield 59, 3) := by decide +kernel
theorem dX5_lays_159 : decode cX5_lays 159 = .ok (.iconst 1, 1) := by decide +kernel
theorem dX5_lays_160 : decode cX5_lays 160 = .ok (.iload 4, 2) := by decide +kernel
theorem dX5_lays_162 : decode cX5_lays 162 = .ok (.ishl, 1) := by decide +kernel
theorem dX5_lays_163 : decode cX5_lays 163 = .ok (.ior, 1) := by decide +kernel
theorem dX5_lays_164 : decode cX5_lays 164 = .ok (.putfield 59, 3) := by decide +kernel
theorem dX5_lays_167 : decode cX5_lays 167 = .ok (.iinc 4 1, 3) := by decide +kernel
theorem dX5_lays_170 : decode cX5_lays 170 = .ok (.goto (-150), 3) := by decide +kernel
theorem dX5_lays_173 : decode cX5_lays 173 = .ok (.return_, 1) := by decide +kernel
theorem dX5_isWhole_0 : decode cX5_isWhole 0 = .ok (.aload_n 0, 1) := by decide +kernel
theorem dX5_isWhole_1 : decode cX5_isWhole 1 = .ok (.iload_n 1, 1) := by decide +kernel
theorem dX5_isWhole_2 : decode cX5_isWhole 2 = .ok (.iload_n 2, 1) := by decide +kernel
theorem dX5_isWhole_3 : decode cX5_isWhole 3 = .ok (.invokevirtual 66, 3) := by decide +kernel
theorem dX5_isWhole_6 : decode cX5_isWhole 6 = .ok (.aload_n 0, 1) := by decide +kernel
theorem dX5_isWhole_7 : decode cX5_isWhole 7 = .ok (.getfield 53, 3) := by decide +kernel
theorem dX5_isWhole_10 : decode cX5_isWhole 10 = .ok (.aload_n 0, 1) := by decide +kernel
theorem dX5_isWhole_11 : decode cX5_isWhole 11 = .ok (.getfield 7, 3) := by decide +kernel
theorem dX5_isWhole_14 : decode cX5_isWhole 14 = .ok (.bipush 9, 2) := by decide +kernel
theorem dX5_isWhole_16 : decode cX5_isWhole 16 = .ok (.iload_n 1, 1) := by decide +kernel
theorem dX5_isWhole_17 : decode cX5_isWhole 17 = .ok (.iadd, 1) := by decide +kernel
theorem dX5_isWhole_18 : decode cX5_isWhole 18 = .ok (.iaload, 1) := by decide +kernel
theorem dX5_isWhole_19 : decode cX5_isWhole 19 = .ok (.if_icmp .lt 7, 3) := by decide +kernel
theorem dX5_isWhole_22 : decode cX5_isWhole 22 = .ok (.iconst 1, 1) := by decide +kernel
theorem dX5_isWhole_23 : decode cX5_isWhole 23 = .ok (.goto 4, 3) := by decide +kernel
theorem dX5_isWhole_26 : decode cX5_isWhole 26 = .ok (.iconst 0, 1) := by decide +kernel
theorem dX5_isWhole_27 : decode cX5_isWhole 27 = .ok (.ireturn, 1) := by decide +kernel
theorem dX5_mayBuy_0 : decode cX5_mayBuy 0 = .ok (.aload_n 0, 1) := by decide +kernel
theorem dX5_mayBuy_1 : decode cX5_mayBuy 1 = .ok (.getfield 7, 3) := by decide +kernel
theorem dX5_mayBuy_4 : decode cX5_mayBuy 4 = .ok (.iconst 5, 1) := by decide +kernel
theorem dX5_mayBuy_5 : decode cX5_mayBuy 5 = .ok (.iaload, 1) := by decide +kernel
theorem dX5_mayBuy_6 : decode cX5_mayBuy 6 = .ok (.bipush 14, 2) := by decide +kernel
theorem dX5_mayBuy_8 : decode cX5_mayBuy 8 = .ok (.if_icmp .ge 21, 3) := by decide +kernel
theorem dX5_mayBuy_11 : decode cX5_mayBuy 11 = .ok (.aload_n 0, 1) := by decide +kernel
theorem dX5_mayBuy_12 : decode cX5_mayBuy 12 = .ok (.getfield 7, 3) := by decide +kernel
theorem dX5_mayBuy_15 : decode cX5_mayBuy 15 = .ok (.iconst 4, 1) := by decide +kernel
theorem dX5_mayBuy_16 : decode cX5_mayBuy 16 = .ok (.iaload, 1) := by decide +kernel
theorem dX5_mayBuy_17 : decode cX5_mayBuy 17 = .ok (.iload_n 1, 1) := by decide +kernel
theorem dX5_mayBuy_18 : decode cX5_mayBuy 18 = .ok (.iload_n 2, 1) := by decide +kernel
theorem dX5_mayBuy_19 : decode cX5_mayBuy 19 = .ok (.invokestatic 70, 3) := by decide +kernel
theorem dX5_mayBuy_22 : decode cX5_mayBuy 22 = .ok (.if_icmp .lt 7, 3) := by decide +kernel
theorem dX5_mayBuy_25 : decode cX5_mayBuy 25 = .ok (.iconst 1, 1) := by decide +kernel
theorem dX5_mayBuy_26 : decode cX5_mayBuy 26 = .ok (.goto 4, 3) := by decide +kernel
theorem dX5_mayBuy_29 : decode cX5_mayBuy 29 = .ok (.iconst 0, 1) := by decide +kernel
theorem dX5_mayBuy_30 : decode cX5_mayBuy 30 = .ok (.ireturn, 1) := by decide +kernel
theorem dX5_buys_0 : decode cX5_buys 0 = .ok (.bipush 12, 2) := by decide +kernel
theorem dX5_buys_2 : decode cX5_buys 2 = .ok (.bipush 8, 2) := by decide +kernel
theorem dX5_buys_4 : decode cX5_buys 4 = .ok (.aload_n 0, 1) := by decide +kernel
theorem dX5_buys_5 : decode cX5_buys 5 = .ok (.getfield 7, 3) := by decide +kernel
theorem dX5_buys_8 : decode cX5_buys 8 = .ok (.iconst 5, 1) := by decide +kernel
theorem dX5_buys_9 : decode cX5_buys 9 = .ok (.iaload, 1) := by decide +kernel
theorem dX5_buys_10 : decode cX5_buys 10 = .ok (.imul, 1) := by decide +kernel
theorem dX5_buys_11 : decode cX5_buys 11 = .ok (.iadd, 1) := by decide +kernel
theorem dX5_buys_12 : decode cX5_buys 12 = .ok (.istore 5, 2) := by decide +kernel
theorem dX5_buys_14 : decode cX5_buys 14 = .ok (.aload_n 0, 1) := by decide +kernel
theorem dX5_buys_15 : decode cX5_buys 15 = .ok (.getfield 7, 3) := by decide +kernel
theorem dX5_buys_18 : decode cX5_buys 18 = .ok (.iload 5, 2) := by decide +kernel
theorem dX5_buys_20 : decode cX5_buys 20 = .ok (.iload_n 1, 1) := by decide +kernel
theorem dX5_buys_21 : decode cX5_buys 21 = .ok (.iastore, 1) := by decide +kernel
theorem dX5_buys_22 : decode cX5_buys 22 = .ok (.aload_n 0, 1) := by decide +kernel
theorem dX5_buys_23 : decode cX5_buys 23 = .ok (.getfield 7, 3) := by decide +kernel
theorem dX5_buys_26 : decode cX5_buys 26 = .ok (.iload 5, 2) := by decide +kernel
theorem dX5_buys_28 : decode cX5_buys 28 = .ok (.iconst 1, 1) := by decide +kernel
theorem dX5_buys_29 : decode cX5_buys 29 = .ok (.iadd, 1) := by decide +kernel
theorem dX5_buys_30 : decode cX5_buys 30 = .ok (.iload_n 2, 1) := by decide +kernel
theorem dX5_buys_31 : decode cX5_buys 31 = .ok (.iastore, 1) := by decide +kernel
theorem dX5_buys_32 : decode cX5_buys 32 = .ok (.aload_n 0, 1) := by decide +kernel
theorem dX5_buys_33 : decode cX5_buys 33 = .ok (.getfield 7, 3) := by decide +kernel
theorem dX5_buys_36 : decode cX5_buys 36 = .ok (.iload 5, 2) := by decide +kernel
theorem dX5_buys_38 : decode cX5_buys 38 = .ok (.iconst 2, 1) := by decide +kernel
theorem dX5_buys_39 : decode cX5_buys 39 = .ok (.iadd, 1) := by decide +kernel
theorem dX5_buys_40 : decode cX5_buys 40 = .ok (.iload_n 3, 1) := by decide +kernel
theorem dX5_buys_41 : decode cX5_buys 41 = .ok (.iastore, 1) := by decide +kernel
theorem dX5_buys_42 : decode cX5_buys 42 = .ok (.aload_n 0, 1) := by decide +kernel
theorem dX5_buys_43 : decode cX5_buys 43 = .ok (.getfield 7, 3) := by decide +kernel
theorem dX5_buys_46 : decode cX5_buys 46 = .ok (.iload 5, 2) := by decide +kernel
theorem dX5_buys_48 : decode cX5_buys 48 = .ok (.iconst 3, 1) := by decide +kernel
theorem dX5_buys_49 : decode cX5_buys 49 = .ok (.iadd, 1) := by decide +kernel
theorem dX5_buys_50 : decode cX5_buys 50 = .ok (.aload_n 0, 1) := by decide +kernel
theorem dX5_buys_51 : decode cX5_buys 51 = .ok (.getfield 7, 3) := by decide +kernel
theorem dX5_buys_54 : decode cX5_buys 54 = .ok (.iconst 3, 1) := by decide +kernel
theorem dX5_buys_55 : decode cX5_buys 55 = .ok (.iaload, 1) := by decide +kernel
theorem dX5_buys_56 : decode cX5_buys 56 = .ok (.iastore, 1) := by decide +kernel
theorem dX5_buys_57 : decode cX5_buys 57 = .ok (.aload_n 0, 1) := by decide +kernel
theorem dX5_buys_58 : decode cX5_buys 58 = .ok (.getfield 7, 3) := by decide +kernel
theorem dX5_buys_61 : decode cX5_buys 61 = .ok (.iload 5, 2) := by decide +kernel
theorem dX5_buys_63 : decode cX5_buys 63 = .ok (.iconst 4, 1) := by decide +kernel
theorem dX5_buys_64 : decode cX5_buys 64 = .ok (.iadd, 1) := by decide +kernel
theorem dX5_buys_65 : decode cX5_buys 65 = .ok (.iconst 0, 1) := by decide +kernel
theorem dX5_buys_66 : decode cX5_buys 66 = .ok (.iastore, 1) := by decide +kernel
theorem dX5_buys_67 : decode cX5_buys 67 = .ok (.aload_n 0, 1) := by decide +kernel
theorem dX5_buys_68 : decode cX5_buys 68 = .ok (.getfield 7, 3) := by decide +kernel
theorem dX5_buys_71 : decode cX5_buys 71 = .ok (.iload 5, 2) := by decide +kernel
theorem dX5_buys_73 : decode cX5_buys 73 = .ok (.iconst 5, 1) := by decide +kernel
theorem dX5_buys_74 : decode cX5_buys 74 = .ok (.iadd, 1) := by decide +kernel
theorem dX5_buys_75 : decode cX5_buys 75 = .ok (.iconst (-1), 1) := by decide +kernel
theorem dX5_buys_76 : decode cX5_buys 76 = .ok (.iastore, 1) := by decide +kernel
theorem dX5_buys_77 : decode cX5_buys 77 = .ok (.aload_n 0, 1) := by decide +kernel
theorem dX5_buys_78 : decode cX5_buys 78 = .ok (.getfield 7, 3) := by decide +kernel
theorem dX5_buys_81 : decode cX5_buys 81 = .ok (.iload 5, 2) := by decide +kernel
theorem dX5_buys_83 : decode cX5_buys 83 = .ok (.bipush 6, 2) := by decide +kernel
theorem dX5_buys_85 : decode cX5_buys 85 = .ok (.iadd, 1) := by decide +kernel
theorem dX5_buys_86 : decode cX5_buys 86 = .ok (.iload 4, 2) := by decide +kernel
theorem dX5_buys_88 : decode cX5_buys 88 = .ok (.iastore, 1) := by decide +kernel
theorem dX5_buys_89 : decode cX5_buys 89 = .ok (.aload_n 0, 1) := by decide +kernel
theorem dX5_buys_90 : decode cX5_buys 90 = .ok (.getfield 7, 3) := by decide +kernel
theorem dX5_buys_93 : decode cX5_buys 93 = .ok (.iload 5, 2) := by decide +kernel
theorem dX5_buys_95 : decode cX5_buys 95 = .ok (.bipush 7, 2) := by decide +kernel
theorem dX5_buys_97 : decode cX5_buys 97 = .ok (.iadd, 1) := by decide +kernel
theorem dX5_buys_98 : decode cX5_buys 98 = .ok (.iconst (-1), 1) := by decide +kernel
theorem dX5_buys_99 : decode cX5_buys 99 = .ok (.iastore, 1) := by decide +kernel
theorem dX5_buys_100 : decode cX5_buys 100 = .ok (.aload_n 0, 1) := by decide +kernel
theorem dX5_buys_101 : decode cX5_buys 101 = .ok (.getfield 7, 3) := by decide +kernel
theorem dX5_buys_104 : decode cX5_buys 104 = .ok (.iconst 4, 1) := by decide +kernel
theorem dX5_buys_105 : decode cX5_buys 105 = .ok (.dup2, 1) := by decide +kernel
theorem dX5_buys_106 : decode cX5_buys 106 = .ok (.iaload, 1) := by decide +kernel
theorem dX5_buys_107 : decode cX5_buys 107 = .ok (.iload_n 1, 1) := by decide +kernel
theorem dX5_buys_108 : decode cX5_buys 108 = .ok (.iload_n 2, 1) := by decide +kernel
theorem dX5_buys_109 : decode cX5_buys 109 = .ok (.invokestatic 70, 3) := by decide +kernel
theorem dX5_buys_112 : decode cX5_buys 112 = .ok (.isub, 1) := by decide +kernel
theorem dX5_buys_113 : decode cX5_buys 113 = .ok (.iastore, 1) := by decide +kernel
theorem dX5_buys_114 : decode cX5_buys 114 = .ok (.aload_n 0, 1) := by decide +kernel
theorem dX5_buys_115 : decode cX5_buys 115 = .ok (.getfield 7, 3) := by decide +kernel
theorem dX5_buys_118 : decode cX5_buys 118 = .ok (.bipush 8, 2) := by decide +kernel
theorem dX5_buys_120 : decode cX5_buys 120 = .ok (.dup2, 1) := by decide +kernel
theorem dX5_buys_121 : decode cX5_buys 121 = .ok (.iaload, 1) := by decide +kernel
theorem dX5_buys_122 : decode cX5_buys 122 = .ok (.iload_n 1, 1) := by decide +kernel
theorem dX5_buys_123 : decode cX5_buys 123 = .ok (.iload_n 2, 1) := by decide +kernel
theorem dX5_buys_124 : decode cX5_buys 124 = .ok (.invokestatic 70, 3) := by decide +kernel
theorem dX5_buys_127 : decode cX5_buys 127 = .ok (.iadd, 1) := by decide +kernel
theorem dX5_buys_128 : decode cX5_buys 128 = .ok (.iastore, 1) := by decide +kernel
theorem dX5_buys_129 : decode cX5_buys 129 = .ok (.aload_n 0, 1) := by decide +kernel
theorem dX5_buys_130 : decode cX5_buys 130 = .ok (.getfield 7, 3) := by decide +kernel
theorem dX5_buys_133 : decode cX5_buys 133 = .ok (.iconst 5, 1) := by decide +kernel
theorem dX5_buys_134 : decode cX5_buys 134 = .ok (.dup2, 1) := by decide +kernel
theorem dX5_buys_135 : decode cX5_buys 135 = .ok (.iaload, 1) := by decide +kernel
theorem dX5_buys_136 : decode cX5_buys 136 = .ok (.iconst 1, 1) := by decide +kernel
theorem dX5_buys_137 : decode cX5_buys 137 = .ok (.iadd, 1) := by decide +kernel
theorem dX5_buys_138 : decode cX5_buys 138 = .ok (.iastore, 1) := by decide +kernel
theorem dX5_buys_139 : decode cX5_buys 139 = .ok (.aload_n 0, 1) := by decide +kernel
theorem dX5_buys_140 : decode cX5_buys 140 = .ok (.getfield 7, 3) := by decide +kernel
theorem dX5_buys_143 : decode cX5_buys 143 = .ok (.iconst 5, 1) := by decide +kernel
theorem dX5_buys_144 : decode cX5_buys 144 = .ok (.iaload, 1) := by decide +kernel
theorem dX5_buys_145 : decode cX5_buys 145 = .ok (.iconst 1, 1) := by decide +kernel
theorem dX5_buys_146 : decode cX5_buys 146 = .ok (.isub, 1) := by decide +kernel
theorem dX5_buys_147 : decode cX5_buys 147 = .ok (.ireturn, 1) := by decide +kernel
theorem dX5_buy_0 : decode cX5_buy 0 = .ok (.aload_n 0, 1) := by decide +kernel
theorem dX5_buy_1 : decode cX5_buy 1 = .ok (.iconst 0, 1) := by decide +kernel
theorem dX5_buy_2 : decode cX5_buy 2 = .ok (.putfield 22, 3) := by decide +kernel
theorem dX5_buy_5 : decode cX5_buy 5 = .ok (.iload_n 1, 1) := by decide +kernel
theorem dX5_buy_6 : decode cX5_buy 6 = .ok (.iconst 0, 1) := by decide +kernel
theorem dX5_buy_7 : decode cX5_buy 7 = .ok (.iconst 2, 1) := by decide +kernel
theorem dX5_buy_8 : decode cX5_buy 8 = .ok (.invokestatic 26, 3) := by decide +kernel
theorem dX5_buy_11 : decode cX5_buy 11 = .ok (.ifCond .eq 22, 3) := by decide +kernel
theorem dX5_buy_14 : decode cX5_buy 14 = .ok (.iload_n 2, 1) := by decide +kernel
theorem dX5_buy_15 : decode cX5_buy 15 = .ok (.iconst 5, 1) := by decide +kernel
theorem dX5_buy_16 : decode cX5_buy 16 = .ok (.bipush 50, 2) := by decide +kernel
theorem dX5_buy_18 : decode cX5_buy 18 = .ok (.invokestatic 26, 3) := by decide +kernel
theorem dX5_buy_21 : decode cX5_buy 21 = .ok (.ifCond .eq 12, 3) := by decide +kernel
theorem dX5_buy_24 : decode cX5_buy 24 = .ok (.iload_n 3, 1) := by decide +kernel
theorem dX5_buy_25 : decode cX5_buy 25 = .ok (.iconst 0, 1) := by decide +kernel
theorem dX5_buy_26 : decode cX5_buy 26 = .ok (.iconst 2, 1) := by decide +kernel
theorem dX5_buy_27 : decode cX5_buy 27 = .ok (.invokestatic 26, 3) := by decide +kernel
theorem dX5_buy_30 : decode cX5_buy 30 = .ok (.ifCond .ne 9, 3) := by decide +kernel
theorem dX5_buy_33 : decode cX5_buy 33 = .ok (.aload_n 0, 1) := by decide +kernel
theorem dX5_buy_34 : decode cX5_buy 34 = .ok (.iconst 1, 1) := by decide +kernel
theorem dX5_buy_35 : decode cX5_buy 35 = .ok (.invokevirtual 33, 3) := by decide +kernel
theorem dX5_buy_38 : decode cX5_buy 38 = .ok (.ireturn, 1) := by decide +kernel
theorem dX5_buy_39 : decode cX5_buy 39 = .ok (.aload_n 0, 1) := by decide +kernel
theorem dX5_buy_40 : decode cX5_buy 40 = .ok (.iload_n 1, 1) := by decide +kernel
theorem dX5_buy_41 : decode cX5_buy 41 = .ok (.iload_n 2, 1) := by decide +kernel
theorem dX5_buy_42 : decode cX5_buy 42 = .ok (.invokevirtual 73, 3) := by decide +kernel
theorem dX5_buy_45 : decode cX5_buy 45 = .ok (.ifCond .ne 9, 3) := by decide +kernel
theorem dX5_buy_48 : decode cX5_buy 48 = .ok (.aload_n 0, 1) := by decide +kernel
theorem dX5_buy_49 : decode cX5_buy 49 = .ok (.iconst 2, 1) := by decide +kernel
theorem dX5_buy_50 : decode cX5_buy 50 = .ok (.invokevirtual 33, 3) := by decide +kernel
theorem dX5_buy_53 : decode cX5_buy 53 = .ok (.ireturn, 1) := by decide +kernel
theorem dX5_buy_54 : decode cX5_buy 54 = .ok (.aload_n 0, 1) := by decide +kernel
theorem dX5_buy_55 : decode cX5_buy 55 = .ok (.invokevirtual 77, 3) := by decide +kernel
theorem dX5_buy_58 : decode cX5_buy 58 = .ok (.aload_n 0, 1) := by decide +kernel
theorem dX5_buy_59 : decode cX5_buy 59 = .ok (.iload_n 1, 1) := by decide +kernel
theorem dX5_buy_60 : decode cX5_buy 60 = .ok (.iload_n 2, 1) := by decide +kernel
theorem dX5_buy_61 : decode cX5_buy 61 = .ok (.iload_n 3, 1) := by decide +kernel
theorem dX5_buy_62 : decode cX5_buy 62 = .ok (.iconst 3, 1) := by decide +kernel
theorem dX5_buy_63 : decode cX5_buy 63 = .ok (.invokevirtual 80, 3) := by decide +kernel
theorem dX5_buy_66 : decode cX5_buy 66 = .ok (.ireturn, 1) := by decide +kernel
theorem dX5_isHere_0 : decode cX5_isHere 0 = .ok (.aload_n 0, 1) := by decide +kernel
theorem dX5_isHere_1 : decode cX5_isHere 1 = .ok (.iload_n 1, 1) := by decide +kernel
theorem dX5_isHere_2 : decode cX5_isHere 2 = .ok (.bipush 6, 2) := by decide +kernel
theorem dX5_isHere_4 : decode cX5_isHere 4 = .ok (.invokevirtual 37, 3) := by decide +kernel
theorem dX5_isHere_7 : decode cX5_isHere 7 = .ok (.iconst 0, 1) := by decide +kernel
theorem dX5_isHere_8 : decode cX5_isHere 8 = .ok (.iconst 3, 1) := by decide +kernel
theorem dX5_isHere_9 : decode cX5_isHere 9 = .ok (.invokestatic 26, 3) := by decide +kernel
theorem dX5_isHere_12 : decode cX5_isHere 12 = .ok (.ireturn, 1) := by decide +kernel
theorem dX5_changes_0 : decode cX5_changes 0 = .ok (.aload_n 0, 1) := by decide +kernel
theorem dX5_changes_1 : decode cX5_changes 1 = .ok (.getfield 7, 3) := by decide +kernel
theorem dX5_changes_4 : decode cX5_changes 4 = .ok (.iload_n 1, 1) := by decide +kernel
theorem dX5_changes_5 : decode cX5_changes 5 = .ok (.iaload, 1) := by decide +kernel
theorem dX5_changes_6 : decode cX5_changes 6 = .ok (.istore_n 3, 1) := by decide +kernel
theorem dX5_changes_7 : decode cX5_changes 7 = .ok (.aload_n 0, 1) := by decide +kernel
theorem dX5_changes_8 : decode cX5_changes 8 = .ok (.getfield 7, 3) := by decide +kernel
theorem dX5_changes_11 : decode cX5_changes 11 = .ok (.iload_n 1, 1) := by decide +kernel
theorem dX5_changes_12 : decode cX5_changes 12 = .ok (.iload_n 2, 1) := by decide +kernel
theorem dX5_changes_13 : decode cX5_changes 13 = .ok (.iastore, 1) := by decide +kernel
theorem dX5_changes_14 : decode cX5_changes 14 = .ok (.iload_n 3, 1) := by decide +kernel
theorem dX5_changes_15 : decode cX5_changes 15 = .ok (.ireturn, 1) := by decide +kernel
theorem dX5_renew_0 : decode cX5_renew 0 = .ok (.aload_n 0, 1) := by decide +kernel
theorem dX5_renew_1 : decode cX5_renew 1 = .ok (.iconst 0, 1) := by decide +kernel
theorem dX5_renew_2 : decode cX5_renew 2 = .ok (.putfield 22, 3) := by decide +kernel
theorem dX5_renew_5 : decode cX5_renew 5 = .ok (.aload_n 0, 1) := by decide +kernel
theorem dX5_renew_6 : decode cX5_renew 6 = .ok (.iload_n 1, 1) := by decide +kernel
theorem dX5_renew_7 : decode cX5_renew 7 = .ok (.invokevirtual 84, 3) := by decide +kernel
theorem dX5_renew_10 : decode cX5_renew 10 = .ok (.ifCond .ne 9, 3) := by decide +kernel
theorem dX5_renew_13 : decode cX5_renew 13 = .ok (.aload_n 0, 1) := by decide +kernel
theorem dX5_renew_14 : decode cX5_renew 14 = .ok (.iconst 1, 1) := by decide +kernel
theorem dX5_renew_15 : decode cX5_renew 15 = .ok (.invokevirtual 33, 3) := by decide +kernel
theorem dX5_renew_18 : decode cX5_renew 18 = .ok (.ireturn, 1) := by decide +kernel
theorem dX5_renew_19 : decode cX5_renew 19 = .ok (.aload_n 0, 1) := by decide +kernel
theorem dX5_renew_20 : decode cX5_renew 20 = .ok (.iload_n 1, 1) := by decide +kernel
theorem dX5_renew_21 : decode cX5_renew 21 = .ok (.invokevirtual 87, 3) := by decide +kernel
theorem dX5_renew_24 : decode cX5_renew 24 = .ok (.ifCond .eq 22, 3) := by decide +kernel
theorem dX5_renew_27 : decode cX5_renew 27 = .ok (.aload_n 0, 1) := by decide +kernel
theorem dX5_renew_28 : decode cX5_renew 28 = .ok (.aload_n 0, 1) := by decide +kernel
theorem dX5_renew_29 : decode cX5_renew 29 = .ok (.iload_n 1, 1) := by decide +kernel
theorem dX5_renew_30 : decode cX5_renew 30 = .ok (.iconst 0, 1) := by decide +kernel
theorem dX5_renew_31 : decode cX5_renew 31 = .ok (.invokevirtual 37, 3) := by decide +kernel
theorem dX5_renew_34 : decode cX5_renew 34 = .ok (.aload_n 0, 1) := by decide +kernel
theorem dX5_renew_35 : decode cX5_renew 35 = .ok (.iload_n 1, 1) := by decide +kernel
theorem dX5_renew_36 : decode cX5_renew 36 = .ok (.iconst 1, 1) := by decide +kernel
theorem dX5_renew_37 : decode cX5_renew 37 = .ok (.invokevirtual 37, 3) := by decide +kernel
theorem dX5_renew_40 : decode cX5_renew 40 = .ok (.invokevirtual 73, 3) := by decide +kernel
theorem dX5_renew_43 : decode cX5_renew 43 = .ok (.ifCond .ne 9, 3) := by decide +kernel
theorem dX5_renew_46 : decode cX5_renew 46 = .ok (.aload_n 0, 1) := by decide +kernel
theorem dX5_renew_47 : decode cX5_renew 47 = .ok (.iconst 2, 1) := by decide +kernel
theorem dX5_renew_48 : decode cX5_renew 48 = .ok (.invokevirtual 33, 3) := by decide +kernel
theorem dX5_renew_51 : decode cX5_renew 51 = .ok (.ireturn, 1) := by decide +kernel
theorem dX5_renew_52 : decode cX5_renew 52 = .ok (.aload_n 0, 1) := by decide +kernel
theorem dX5_renew_53 : decode cX5_renew 53 = .ok (.invokevirtual 77, 3) := by decide +kernel
theorem dX5_renew_56 : decode cX5_renew 56 = .ok (.aload_n 0, 1) := by decide +kernel
theorem dX5_renew_57 : decode cX5_renew 57 = .ok (.bipush 12, 2) := by decide +kernel
theorem dX5_renew_59 : decode cX5_renew 59 = .ok (.bipush 8, 2) := by decide +kernel
theorem dX5_renew_61 : decode cX5_renew 61 = .ok (.iload_n 1, 1) := by decide +kernel
theorem dX5_renew_62 : decode cX5_renew 62 = .ok (.imul, 1) := by decide +kernel
theorem dX5_renew_63 : decode cX5_renew 63 = .ok (.iadd, 1) := by decide +kernel
theorem dX5_renew_64 : decode cX5_renew 64 = .ok (.bipush 6, 2) := by decide +kernel
theorem dX5_renew_66 : decode cX5_renew 66 = .ok (.iadd, 1) := by decide +kernel
theorem dX5_renew_67 : decode cX5_renew 67 = .ok (.iconst (-1), 1) := by decide +kernel
theorem dX5_renew_68 : decode cX5_renew 68 = .ok (.invokevirtual 90, 3) := by decide +kernel
theorem dX5_renew_71 : decode cX5_renew 71 = .ok (.istore_n 2, 1) := by decide +kernel
theorem dX5_renew_72 : decode cX5_renew 72 = .ok (.aload_n 0, 1) := by decide +kernel
theorem dX5_renew_73 : decode cX5_renew 73 = .ok (.aload_n 0, 1) := by decide +kernel
theorem dX5_renew_74 : decode cX5_renew 74 = .ok (.iload_n 1, 1) := by decide +kernel
theorem dX5_renew_75 : decode cX5_renew 75 = .ok (.iconst 0, 1) := by decide +kernel
theorem dX5_renew_76 : decode cX5_renew 76 = .ok (.invokevirtual 37, 3) := by decide +kernel
theorem dX5_renew_79 : decode cX5_renew 79 = .ok (.aload_n 0, 1) := by decide +kernel
theorem dX5_renew_80 : decode cX5_renew 80 = .ok (.iload_n 1, 1) := by decide +kernel
theorem dX5_renew_81 : decode cX5_renew 81 = .ok (.iconst 1, 1) := by decide +kernel
theorem dX5_renew_82 : decode cX5_renew 82 = .ok (.invokevirtual 37, 3) := by decide +kernel
theorem dX5_renew_85 : decode cX5_renew 85 = .ok (.aload_n 0, 1) := by decide +kernel
theorem dX5_renew_86 : decode cX5_renew 86 = .ok (.iload_n 1, 1) := by decide +kernel
theorem dX5_renew_87 : decode cX5_renew 87 = .ok (.iconst 2, 1) := by decide +kernel
theorem dX5_renew_88 : decode cX5_renew 88 = .ok (.invokevirtual 37, 3) := by decide +kernel
theorem dX5_renew_91 : decode cX5_renew 91 = .ok (.iload_n 2, 1) := by decide +kernel
theorem dX5_renew_92 : decode cX5_renew 92 = .ok (.invokevirtual 80, 3) := by decide +kernel
theorem dX5_renew_95 : decode cX5_renew 95 = .ok (.ireturn, 1) := by decide +kernel
theorem dX5_put_0 : decode cX5_put 0 = .ok (.aload_n 0, 1) := by decide +kernel
theorem dX5_put_1 : decode cX5_put 1 = .ok (.iconst 0, 1) := by decide +kernel
theorem dX5_put_2 : decode cX5_put 2 = .ok (.putfield 22, 3) := by decide +kernel
theorem dX5_put_5 : decode cX5_put 5 = .ok (.aload_n 0, 1) := by decide +kernel
theorem dX5_put_6 : decode cX5_put 6 = .ok (.iload_n 1, 1) := by decide +kernel
theorem dX5_put_7 : decode cX5_put 7 = .ok (.invokevirtual 84, 3) := by decide +kernel
theorem dX5_put_10 : decode cX5_put 10 = .ok (.ifCond .ne 9, 3) := by decide +kernel
theorem dX5_put_13 : decode cX5_put 13 = .ok (.aload_n 0, 1) := by decide +kernel
theorem dX5_put_14 : decode cX5_put 14 = .ok (.iconst 1, 1) := by decide +kernel
theorem dX5_put_15 : decode cX5_put 15 = .ok (.invokevirtual 33, 3) := by decide +kernel
theorem dX5_put_18 : decode cX5_put 18 = .ok (.ireturn, 1) := by decide +kernel
theorem dX5_put_19 : decode cX5_put 19 = .ok (.iload_n 2, 1) := by decide +kernel
theorem dX5_put_20 : decode cX5_put 20 = .ok (.iconst 0, 1) := by decide +kernel
theorem dX5_put_21 : decode cX5_put 21 = .ok (.iconst 3, 1) := by decide +kernel
theorem dX5_put_22 : decode cX5_put 22 = .ok (.invokestatic 26, 3) := by decide +kernel
theorem dX5_put_25 : decode cX5_put 25 = .ok (.ifCond .ne 9, 3) := by decide +kernel
theorem dX5_put_28 : decode cX5_put 28 = .ok (.aload_n 0, 1) := by decide +kernel
theorem dX5_put_29 : decode cX5_put 29 = .ok (.iconst 2, 1) := by decide +kernel
theorem dX5_put_30 : decode cX5_put 30 = .ok (.invokevirtual 33, 3) := by decide +kernel
theorem dX5_put_33 : decode cX5_put 33 = .ok (.ireturn, 1) := by decide +kernel
theorem dX5_put_34 : decode cX5_put 34 = .ok (.aload_n 0, 1) := by decide +kernel
theorem dX5_put_35 : decode cX5_put 35 = .ok (.iload_n 1, 1) := by decide +kernel
theorem dX5_put_36 : decode cX5_put 36 = .ok (.invokevirtual 87, 3) := by decide +kernel
theorem dX5_put_39 : decode cX5_put 39 = .ok (.ifCond .ne 9, 3) := by decide +kernel
theorem dX5_put_42 : decode cX5_put 42 = .ok (.aload_n 0, 1) := by decide +kernel
theorem dX5_put_43 : decode cX5_put 43 = .ok (.iconst 3, 1) := by decide +kernel
theorem dX5_put_44 : decode cX5_put 44 = .ok (.invokevirtual 33, 3) := by decide +kernel
theorem dX5_put_47 : decode cX5_put 47 = .ok (.ireturn, 1) := by decide +kernel
theorem dX5_put_48 : decode cX5_put 48 = .ok (.aload_n 0, 1) := by decide +kernel
theorem dX5_put_49 : decode cX5_put 49 = .ok (.invokevirtual 77, 3) := by decide +kernel
theorem dX5_put_52 : decode cX5_put 52 = .ok (.aload_n 0, 1) := by decide +kernel
theorem dX5_put_53 : decode cX5_put 53 = .ok (.bipush 12, 2) := by decide +kernel
theorem dX5_put_55 : decode cX5_put 55 = .ok (.bipush 8, 2) := by decide +kernel
theorem dX5_put_57 : decode cX5_put 57 = .ok (.iload_n 1, 1) := by decide +kernel
theorem dX5_put_58 : decode cX5_put 58 = .ok (.imul, 1) := by decide +kernel
theorem dX5_put_59 : decode cX5_put 59 = .ok (.iadd, 1) := by decide +kernel
theorem dX5_put_60 : decode cX5_put 60 = .ok (.bipush 6, 2) := by decide +kernel
theorem dX5_put_62 : decode cX5_put 62 = .ok (.iadd, 1) := by decide +kernel
theorem dX5_put_63 : decode cX5_put 63 = .ok (.iload_n 2, 1) := by decide +kernel
theorem dX5_put_64 : decode cX5_put 64 = .ok (.invokevirtual 90, 3) := by decide +kernel
theorem dX5_put_67 : decode cX5_put 67 = .ok (.ireturn, 1) := by decide +kernel
theorem dX5_lend_0 : decode cX5_lend 0 = .ok (.aload_n 0, 1) := by decide +kernel
theorem dX5_lend_1 : decode cX5_lend 1 = .ok (.iconst 0, 1) := by decide +kernel
theorem dX5_lend_2 : decode cX5_lend 2 = .ok (.putfield 22, 3) := by decide +kernel
theorem dX5_lend_5 : decode cX5_lend 5 = .ok (.aload_n 0, 1) := by decide +kernel
theorem dX5_lend_6 : decode cX5_lend 6 = .ok (.iload_n 1, 1) := by decide +kernel
theorem dX5_lend_7 : decode cX5_lend 7 = .ok (.invokevirtual 84, 3) := by decide +kernel
theorem dX5_lend_10 : decode cX5_lend 10 = .ok (.ifCond .ne 9, 3) := by decide +kernel
theorem dX5_lend_13 : decode cX5_lend 13 = .ok (.aload_n 0, 1) := by decide +kernel
theorem dX5_lend_14 : decode cX5_lend 14 = .ok (.iconst 1, 1) := by decide +kernel
theorem dX5_lend_15 : decode cX5_lend 15 = .ok (.invokevirtual 33, 3) := by decide +kernel
theorem dX5_lend_18 : decode cX5_lend 18 = .ok (.ireturn, 1) := by decide +kernel
theorem dX5_lend_19 : decode cX5_lend 19 = .ok (.iload_n 2, 1) := by decide +kernel
theorem dX5_lend_20 : decode cX5_lend 20 = .ok (.iconst 1, 1) := by decide +kernel
theorem dX5_lend_21 : decode cX5_lend 21 = .ok (.bipush 99, 2) := by decide +kernel
theorem dX5_lend_23 : decode cX5_lend 23 = .ok (.invokestatic 26, 3) := by decide +kernel
theorem dX5_lend_26 : decode cX5_lend 26 = .ok (.ifCond .ne 9, 3) := by decide +kernel
theorem dX5_lend_29 : decode cX5_lend 29 = .ok (.aload_n 0, 1) := by decide +kernel
theorem dX5_lend_30 : decode cX5_lend 30 = .ok (.iconst 2, 1) := by decide +kernel
theorem dX5_lend_31 : decode cX5_lend 31 = .ok (.invokevirtual 33, 3) := by decide +kernel
theorem dX5_lend_34 : decode cX5_lend 34 = .ok (.ireturn, 1) := by decide +kernel
theorem dX5_lend_35 : decode cX5_lend 35 = .ok (.aload_n 0, 1) := by decide +kernel
theorem dX5_lend_36 : decode cX5_lend 36 = .ok (.iload_n 1, 1) := by decide +kernel
theorem dX5_lend_37 : decode cX5_lend 37 = .ok (.invokevirtual 62, 3) := by decide +kernel
theorem dX5_lend_40 : decode cX5_lend 40 = .ok (.ifCond .ne 9, 3) := by decide +kernel
theorem dX5_lend_43 : decode cX5_lend 43 = .ok (.aload_n 0, 1) := by decide +kernel
theorem dX5_lend_44 : decode cX5_lend 44 = .ok (.iconst 3, 1) := by decide +kernel
theorem dX5_lend_45 : decode cX5_lend 45 = .ok (.invokevirtual 33, 3) := by decide +kernel
theorem dX5_lend_48 : decode cX5_lend 48 = .ok (.ireturn, 1) := by decide +kernel
theorem dX5_lend_49 : decode cX5_lend 49 = .ok (.aload_n 0, 1) := by decide +kernel
theorem dX5_lend_50 : decode cX5_lend 50 = .ok (.invokevirtual 77, 3) := by decide +kernel
theorem dX5_lend_53 : decode cX5_lend 53 = .ok (.aload_n 0, 1) := by decide +kernel
theorem dX5_lend_54 : decode cX5_lend 54 = .ok (.getfield 7, 3) := by decide +kernel
theorem dX5_lend_57 : decode cX5_lend 57 = .ok (.bipush 12, 2) := by decide +kernel
theorem dX5_lend_59 : decode cX5_lend 59 = .ok (.bipush 8, 2) := by decide +kernel
theorem dX5_lend_61 : decode cX5_lend 61 = .ok (.iload_n 1, 1) := by decide +kernel
theorem dX5_lend_62 : decode cX5_lend 62 = .ok (.imul, 1) := by decide +kernel
theorem dX5_lend_63 : decode cX5_lend 63 = .ok (.iadd, 1) := by decide +kernel
theorem dX5_lend_64 : decode cX5_lend 64 = .ok (.bipush 6, 2) := by decide +kernel
theorem dX5_lend_66 : decode cX5_lend 66 = .ok (.iadd, 1) := by decide +kernel
theorem dX5_lend_67 : decode cX5_lend 67 = .ok (.iconst 4, 1) := by decide +kernel
theorem dX5_lend_68 : decode cX5_lend 68 = .ok (.iastore, 1) := by decide +kernel
theorem dX5_lend_69 : decode cX5_lend 69 = .ok (.aload_n 0, 1) := by decide +kernel
theorem dX5_lend_70 : decode cX5_lend 70 = .ok (.getfield 7, 3) := by decide +kernel
theorem dX5_lend_73 : decode cX5_lend 73 = .ok (.bipush 12, 2) := by decide +kernel
theorem dX5_lend_75 : decode cX5_lend 75 = .ok (.bipush 8, 2) := by decide +kernel
theorem dX5_lend_77 : decode cX5_lend 77 = .ok (.iload_n 1, 1) := by decide +kernel
theorem dX5_lend_78 : decode cX5_lend 78 = .ok (.imul, 1) := by decide +kernel
theorem dX5_lend_79 : decode cX5_lend 79 = .ok (.iadd, 1) := by decide +kernel
theorem dX5_lend_80 : decode cX5_lend 80 = .ok (.bipush 7, 2) := by decide +kernel
theorem dX5_lend_82 : decode cX5_lend 82 = .ok (.iadd, 1) := by decide +kernel
theorem dX5_lend_83 : decode cX5_lend 83 = .ok (.aload_n 0, 1) := by decide +kernel
theorem dX5_lend_84 : decode cX5_lend 84 = .ok (.getfield 7, 3) := by decide +kernel
theorem dX5_lend_87 : decode cX5_lend 87 = .ok (.iconst 3, 1) := by decide +kernel
theorem dX5_lend_88 : decode cX5_lend 88 = .ok (.iaload, 1) := by decide +kernel
theorem dX5_lend_89 : decode cX5_lend 89 = .ok (.iload_n 2, 1) := by decide +kernel
theorem dX5_lend_90 : decode cX5_lend 90 = .ok (.iadd, 1) := by decide +kernel
theorem dX5_lend_91 : decode cX5_lend 91 = .ok (.iastore, 1) := by decide +kernel
theorem dX5_lend_92 : decode cX5_lend 92 = .ok (.aload_n 0, 1) := by decide +kernel
theorem dX5_lend_93 : decode cX5_lend 93 = .ok (.getfield 7, 3) := by decide +kernel
theorem dX5_lend_96 : decode cX5_lend 96 = .ok (.iconst 3, 1) := by decide +kernel
theorem dX5_lend_97 : decode cX5_lend 97 = .ok (.iaload, 1) := by decide +kernel
theorem dX5_lend_98 : decode cX5_lend 98 = .ok (.iload_n 2, 1) := by decide +kernel
theorem dX5_lend_99 : decode cX5_lend 99 = .ok (.iadd, 1) := by decide +kernel
theorem dX5_lend_100 : decode cX5_lend 100 = .ok (.ireturn, 1) := by decide +kernel
theorem dX5_test_0 : decode cX5_test 0 = .ok (.aload_n 0, 1) := by decide +kernel
theorem dX5_test_1 : decode cX5_test 1 = .ok (.iconst 0, 1) := by decide +kernel
theorem dX5_test_2 : decode cX5_test 2 = .ok (.putfield 22, 3) := by decide +kernel
theorem dX5_test_5 : decode cX5_test 5 = .ok (.aload_n 0, 1) := by decide +kernel
theorem dX5_test_6 : decode cX5_test 6 = .ok (.iload_n 1, 1) := by decide +kernel
theorem dX5_test_7 : decode cX5_test 7 = .ok (.invokevirtual 84, 3) := by decide +kernel
theorem dX5_test_10 : decode cX5_test 10 = .ok (.ifCond .ne 9, 3) := by decide +kernel
theorem dX5_test_13 : decode cX5_test 13 = .ok (.aload_n 0, 1) := by decide +kernel
theorem dX5_test_14 : decode cX5_test 14 = .ok (.iconst 1, 1) := by decide +kernel
theorem dX5_test_15 : decode cX5_test 15 = .ok (.invokevirtual 33, 3) := by decide +kernel
theorem dX5_test_18 : decode cX5_test 18 = .ok (.ireturn, 1) := by decide +kernel
theorem dX5_test_19 : decode cX5_test 19 = .ok (.iload_n 2, 1) := by decide +kernel
theorem dX5_test_20 : decode cX5_test 20 = .ok (.iconst 4, 1) := by decide +kernel
theorem dX5_test_21 : decode cX5_test 21 = .ok (.bipush 24, 2) := by decide +kernel
theorem dX5_test_23 : decode cX5_test 23 = .ok (.invokestatic 26, 3) := by decide +kernel
theorem dX5_test_26 : decode cX5_test 26 = .ok (.ifCond .ne 9, 3) := by decide +kernel
theorem dX5_test_29 : decode cX5_test 29 = .ok (.aload_n 0, 1) := by decide +kernel
theorem dX5_test_30 : decode cX5_test 30 = .ok (.iconst 2, 1) := by decide +kernel
theorem dX5_test_31 : decode cX5_test 31 = .ok (.invokevirtual 33, 3) := by decide +kernel
theorem dX5_test_34 : decode cX5_test 34 = .ok (.ireturn, 1) := by decide +kernel
theorem dX5_test_35 : decode cX5_test 35 = .ok (.aload_n 0, 1) := by decide +kernel
theorem dX5_test_36 : decode cX5_test 36 = .ok (.iload_n 1, 1) := by decide +kernel
theorem dX5_test_37 : decode cX5_test 37 = .ok (.invokevirtual 87, 3) := by decide +kernel
theorem dX5_test_40 : decode cX5_test 40 = .ok (.ifCond .ne 9, 3) := by decide +kernel
theorem dX5_test_43 : decode cX5_test 43 = .ok (.aload_n 0, 1) := by decide +kernel
theorem dX5_test_44 : decode cX5_test 44 = .ok (.iconst 3, 1) := by decide +kernel
theorem dX5_test_45 : decode cX5_test 45 = .ok (.invokevirtual 33, 3) := by decide +kernel
theorem dX5_test_48 : decode cX5_test 48 = .ok (.ireturn, 1) := by decide +kernel
theorem dX5_test_49 : decode cX5_test 49 = .ok (.aload_n 0, 1) := by decide +kernel
theorem dX5_test_50 : decode cX5_test 50 = .ok (.invokevirtual 77, 3) := by decide +kernel
theorem dX5_test_53 : decode cX5_test 53 = .ok (.aload_n 0, 1) := by decide +kernel
theorem dX5_test_54 : decode cX5_test 54 = .ok (.iload_n 1, 1) := by decide +kernel
theorem dX5_test_55 : decode cX5_test 55 = .ok (.iload_n 2, 1) := by decide +kernel
theorem dX5_test_56 : decode cX5_test 56 = .ok (.invokevirtual 93, 3) := by decide +kernel
theorem dX5_test_59 : decode cX5_test 59 = .ok (.istore_n 3, 1) := by decide +kernel
theorem dX5_test_60 : decode cX5_test 60 = .ok (.bipush 12, 2) := by decide +kernel
theorem dX5_test_62 : decode cX5_test 62 = .ok (.bipush 8, 2) := by decide +kernel
theorem dX5_test_64 : decode cX5_test 64 = .ok (.iload_n 1, 1) := by decide +kernel
theorem dX5_test_65 : decode cX5_test 65 = .ok (.imul, 1) := by decide +kernel
theorem dX5_test_66 : decode cX5_test 66 = .ok (.iadd, 1) := by decide +kernel
theorem dX5_test_67 : decode cX5_test 67 = .ok (.istore 4, 2) := by decide +kernel
theorem dX5_test_69 : decode cX5_test 69 = .ok (.aload_n 0, 1) := by decide +kernel
theorem dX5_test_70 : decode cX5_test 70 = .ok (.getfield 7, 3) := by decide +kernel
theorem dX5_test_73 : decode cX5_test 73 = .ok (.iload 4, 2) := by decide +kernel
theorem dX5_test_75 : decode cX5_test 75 = .ok (.iconst 4, 1) := by decide +kernel
theorem dX5_test_76 : decode cX5_test 76 = .ok (.iadd, 1) := by decide +kernel
theorem dX5_test_77 : decode cX5_test 77 = .ok (.aload_n 0, 1) := by decide +kernel
theorem dX5_test_78 : decode cX5_test 78 = .ok (.getfield 47, 3) := by decide +kernel
theorem dX5_test_81 : decode cX5_test 81 = .ok (.iastore, 1) := by decide +kernel
theorem dX5_test_82 : decode cX5_test 82 = .ok (.aload_n 0, 1) := by decide +kernel
theorem dX5_test_83 : decode cX5_test 83 = .ok (.getfield 7, 3) := by decide +kernel
theorem dX5_test_86 : decode cX5_test 86 = .ok (.bipush 6, 2) := by decide +kernel
theorem dX5_test_88 : decode cX5_test 88 = .ok (.dup2, 1) := by decide +kernel
theorem dX5_test_89 : decode cX5_test 89 = .ok (.iaload, 1) := by decide +kernel
theorem dX5_test_90 : decode cX5_test 90 = .ok (.iconst 1, 1) := by decide +kernel
theorem dX5_test_91 : decode cX5_test 91 = .ok (.iadd, 1) := by decide +kernel
theorem dX5_test_92 : decode cX5_test 92 = .ok (.iastore, 1) := by decide +kernel
theorem dX5_test_93 : decode cX5_test 93 = .ok (.iload_n 3, 1) := by decide +kernel
theorem dX5_test_94 : decode cX5_test 94 = .ok (.bipush 100, 2) := by decide +kernel
theorem dX5_test_96 : decode cX5_test 96 = .ok (.if_icmp .lt 28, 3) := by decide +kernel
theorem dX5_test_99 : decode cX5_test 99 = .ok (.aload_n 0, 1) := by decide +kernel
theorem dX5_test_100 : decode cX5_test 100 = .ok (.getfield 7, 3) := by decide +kernel
theorem dX5_test_103 : decode cX5_test 103 = .ok (.iload 4, 2) := by decide +kernel
theorem dX5_test_105 : decode cX5_test 105 = .ok (.bipush 6, 2) := by decide +kernel
theorem dX5_test_107 : decode cX5_test 107 = .ok (.iadd, 1) := by decide +kernel
theorem dX5_test_108 : decode cX5_test 108 = .ok (.iconst (-1), 1) := by decide +kernel
theorem dX5_test_109 : decode cX5_test 109 = .ok (.iastore, 1) := by decide +kernel
theorem dX5_test_110 : decode cX5_test 110 = .ok (.aload_n 0, 1) := by decide +kernel
theorem dX5_test_111 : decode cX5_test 111 = .ok (.getfield 7, 3) := by decide +kernel
theorem dX5_test_114 : decode cX5_test 114 = .ok (.bipush 7, 2) := by decide +kernel
theorem dX5_test_116 : decode cX5_test 116 = .ok (.dup2, 1) := by decide +kernel
theorem dX5_test_117 : decode cX5_test 117 = .ok (.iaload, 1) := by decide +kernel
theorem dX5_test_118 : decode cX5_test 118 = .ok (.iconst 1, 1) := by decide +kernel
theorem dX5_test_119 : decode cX5_test 119 = .ok (.iadd, 1) := by decide +kernel
theorem dX5_test_120 : decode cX5_test 120 = .ok (.iastore, 1) := by decide +kernel
theorem dX5_test_121 : decode cX5_test 121 = .ok (.goto 39, 3) := by decide +kernel
theorem dX5_test_124 : decode cX5_test 124 = .ok (.iload_n 2, 1) := by decide +kernel
theorem dX5_test_125 : decode cX5_test 125 = .ok (.aload_n 0, 1) := by decide +kernel
theorem dX5_test_126 : decode cX5_test 126 = .ok (.getfield 7, 3) := by decide +kernel
theorem dX5_test_129 : decode cX5_test 129 = .ok (.iconst 0, 1) := by decide +kernel
theorem dX5_test_130 : decode cX5_test 130 = .ok (.iaload, 1) := by decide +kernel
theorem dX5_test_131 : decode cX5_test 131 = .ok (.if_icmp .lt 29, 3) := by decide +kernel
theorem dX5_test_134 : decode cX5_test 134 = .ok (.aload_n 0, 1) := by decide +kernel
theorem dX5_test_135 : decode cX5_test 135 = .ok (.getfield 7, 3) := by decide +kernel
theorem dX5_test_138 : decode cX5_test 138 = .ok (.iload 4, 2) := by decide +kernel
theorem dX5_test_140 : decode cX5_test 140 = .ok (.iconst 5, 1) := by decide +kernel
theorem dX5_test_141 : decode cX5_test 141 = .ok (.iadd, 1) := by decide +kernel
theorem dX5_test_142 : decode cX5_test 142 = .ok (.aload_n 0, 1) := by decide +kernel
theorem dX5_test_143 : decode cX5_test 143 = .ok (.getfield 7, 3) := by decide +kernel
theorem dX5_test_146 : decode cX5_test 146 = .ok (.iconst 3, 1) := by decide +kernel
theorem dX5_test_147 : decode cX5_test 147 = .ok (.iaload, 1) := by decide +kernel
theorem dX5_test_148 : decode cX5_test 148 = .ok (.aload_n 0, 1) := by decide +kernel
theorem dX5_test_149 : decode cX5_test 149 = .ok (.getfield 7, 3) := by decide +kernel
theorem dX5_test_152 : decode cX5_test 152 = .ok (.iload 4, 2) := by decide +kernel
theorem dX5_test_154 : decode cX5_test 154 = .ok (.iaload, 1) := by decide +kernel
theorem dX5_test_155 : decode cX5_test 155 = .ok (.invokestatic 96, 3) := by decide +kernel
theorem dX5_test_158 : decode cX5_test 158 = .ok (.iadd, 1) := by decide +kernel
theorem dX5_test_159 : decode cX5_test 159 = .ok (.iastore, 1) := by decide +kernel
theorem dX5_test_160 : decode cX5_test 160 = .ok (.iload_n 3, 1) := by decide +kernel
theorem dX5_test_161 : decode cX5_test 161 = .ok (.ireturn, 1) := by decide +kernel
theorem dX5_want_0 : decode cX5_want 0 = .ok (.aload_n 0, 1) := by decide +kernel
theorem dX5_want_1 : decode cX5_want 1 = .ok (.iconst 0, 1) := by decide +kernel
theorem dX5_want_2 : decode cX5_want 2 = .ok (.putfield 22, 3) := by decide +kernel
theorem dX5_want_5 : decode cX5_want 5 = .ok (.iload_n 1, 1) := by decide +kernel
theorem dX5_want_6 : decode cX5_want 6 = .ok (.invokestatic 99, 3) := by decide +kernel
theorem dX5_want_9 : decode cX5_want 9 = .ok (.ifCond .ne 9, 3) := by decide +kernel
theorem dX5_want_12 : decode cX5_want 12 = .ok (.aload_n 0, 1) := by decide +kernel
theorem dX5_want_13 : decode cX5_want 13 = .ok (.iconst 1, 1) := by decide +kernel
theorem dX5_want_14 : decode cX5_want 14 = .ok (.invokevirtual 33, 3) := by decide +kernel
theorem dX5_want_17 : decode cX5_want 17 = .ok (.ireturn, 1) := by decide +kernel
theorem dX5_want_18 : decode cX5_want 18 = .ok (.iload_n 2, 1) := by decide +kernel
theorem dX5_want_19 : decode cX5_want 19 = .ok (.iconst 0, 1) := by decide +kernel
theorem dX5_want_20 : decode cX5_want 20 = .ok (.sipush 200, 3) := by decide +kernel
theorem dX5_want_23 : decode cX5_want 23 = .ok (.invokestatic 26, 3) := by decide +kernel
theorem dX5_want_26 : decode cX5_want 26 = .ok (.ifCond .ne 9, 3) := by decide +kernel
theorem dX5_want_29 : decode cX5_want 29 = .ok (.aload_n 0, 1) := by decide +kernel
theorem dX5_want_30 : decode cX5_want 30 = .ok (.iconst 2, 1) := by decide +kernel
theorem dX5_want_31 : decode cX5_want 31 = .ok (.invokevirtual 33, 3) := by decide +kernel
theorem dX5_want_34 : decode cX5_want 34 = .ok (.ireturn, 1) := by decide +kernel
theorem dX5_want_35 : decode cX5_want 35 = .ok (.aload_n 0, 1) := by decide +kernel
theorem dX5_want_36 : decode cX5_want 36 = .ok (.invokevirtual 77, 3) := by decide +kernel
theorem dX5_want_39 : decode cX5_want 39 = .ok (.aload_n 0, 1) := by decide +kernel
theorem dX5_want_40 : decode cX5_want 40 = .ok (.bipush 9, 2) := by decide +kernel
theorem dX5_want_42 : decode cX5_want 42 = .ok (.iload_n 1, 1) := by decide +kernel
theorem dX5_want_43 : decode cX5_want 43 = .ok (.iadd, 1) := by decide +kernel
theorem dX5_want_44 : decode cX5_want 44 = .ok (.iload_n 2, 1) := by decide +kernel
theorem dX5_want_45 : decode cX5_want 45 = .ok (.invokevirtual 90, 3) := by decide +kernel
theorem dX5_want_48 : decode cX5_want 48 = .ok (.ireturn, 1) := by decide +kernel
theorem dX5_set_0 : decode cX5_set 0 = .ok (.aload_n 0, 1) := by decide +kernel
theorem dX5_set_1 : decode cX5_set 1 = .ok (.iconst 0, 1) := by decide +kernel
theorem dX5_set_2 : decode cX5_set 2 = .ok (.putfield 22, 3) := by decide +kernel
theorem dX5_set_5 : decode cX5_set 5 = .ok (.iload_n 1, 1) := by decide +kernel
theorem dX5_set_6 : decode cX5_set 6 = .ok (.iconst 0, 1) := by decide +kernel
theorem dX5_set_7 : decode cX5_set 7 = .ok (.iconst 2, 1) := by decide +kernel
theorem dX5_set_8 : decode cX5_set 8 = .ok (.invokestatic 26, 3) := by decide +kernel
theorem dX5_set_11 : decode cX5_set 11 = .ok (.ifCond .ne 9, 3) := by decide +kernel
theorem dX5_set_14 : decode cX5_set 14 = .ok (.aload_n 0, 1) := by decide +kernel
theorem dX5_set_15 : decode cX5_set 15 = .ok (.iconst 1, 1) := by decide +kernel
theorem dX5_set_16 : decode cX5_set 16 = .ok (.invokevirtual 33, 3) := by decide +kernel
theorem dX5_set_19 : decode cX5_set 19 = .ok (.ireturn, 1) := by decide +kernel
theorem dX5_set_20 : decode cX5_set 20 = .ok (.iload_n 2, 1) := by decide +kernel
theorem dX5_set_21 : decode cX5_set 21 = .ok (.iload_n 1, 1) := by decide +kernel
theorem dX5_set_22 : decode cX5_set 22 = .ok (.ifCond .ne 7, 3) := by decide +kernel
theorem dX5_set_25 : decode cX5_set 25 = .ok (.iconst 4, 1) := by decide +kernel
theorem dX5_set_26 : decode cX5_set 26 = .ok (.goto 4, 3) := by decide +kernel
theorem dX5_set_29 : decode cX5_set 29 = .ok (.iconst 0, 1) := by decide +kernel
theorem dX5_set_30 : decode cX5_set 30 = .ok (.iload_n 1, 1) := by decide +kernel
theorem dX5_set_31 : decode cX5_set 31 = .ok (.ifCond .ne 8, 3) := by decide +kernel
theorem dX5_set_34 : decode cX5_set 34 = .ok (.bipush 24, 2) := by decide +kernel
theorem dX5_set_36 : decode cX5_set 36 = .ok (.goto 15, 3) := by decide +kernel
theorem dX5_set_39 : decode cX5_set 39 = .ok (.iload_n 1, 1) := by decide +kernel
theorem dX5_set_40 : decode cX5_set 40 = .ok (.iconst 1, 1) := by decide +kernel
theorem dX5_set_41 : decode cX5_set 41 = .ok (.if_icmp .ne 7, 3) := by decide +kernel
theorem dX5_set_44 : decode cX5_set 44 = .ok (.iconst 5, 1) := by decide +kernel
theorem dX5_set_45 : decode cX5_set 45 = .ok (.goto 6, 3) := by decide +kernel
theorem dX5_set_48 : decode cX5_set 48 = .ok (.sipush 200, 3) := by decide +kernel
theorem dX5_set_51 : decode cX5_set 51 = .ok (.invokestatic 26, 3) := by decide +kernel
theorem dX5_set_54 : decode cX5_set 54 = .ok (.ifCond .ne 9, 3) := by decide +kernel
theorem dX5_set_57 : decode cX5_set 57 = .ok (.aload_n 0, 1) := by decide +kernel
theorem dX5_set_58 : decode cX5_set 58 = .ok (.iconst 2, 1) := by decide +kernel
theorem dX5_set_59 : decode cX5_set 59 = .ok (.invokevirtual 33, 3) := by decide +kernel
theorem dX5_set_62 : decode cX5_set 62 = .ok (.ireturn, 1) := by decide +kernel
theorem dX5_set_63 : decode cX5_set 63 = .ok (.aload_n 0, 1) := by decide +kernel
theorem dX5_set_64 : decode cX5_set 64 = .ok (.invokevirtual 77, 3) := by decide +kernel
theorem dX5_set_67 : decode cX5_set 67 = .ok (.aload_n 0, 1) := by decide +kernel
theorem dX5_set_68 : decode cX5_set 68 = .ok (.iload_n 1, 1) := by decide +kernel
theorem dX5_set_69 : decode cX5_set 69 = .ok (.iload_n 2, 1) := by decide +kernel
theorem dX5_set_70 : decode cX5_set 70 = .ok (.invokevirtual 90, 3) := by decide +kernel
theorem dX5_set_73 : decode cX5_set 73 = .ok (.ireturn, 1) := by decide +kernel
theorem dX5_day_0 : decode cX5_day 0 = .ok (.aload_n 0, 1) := by decide +kernel
theorem dX5_day_1 : decode cX5_day 1 = .ok (.getfield 7, 3) := by decide +kernel
theorem dX5_day_4 : decode cX5_day 4 = .ok (.iconst 3, 1) := by decide +kernel
theorem dX5_day_5 : decode cX5_day 5 = .ok (.dup2, 1) := by decide +kernel
theorem dX5_day_6 : decode cX5_day 6 = .ok (.iaload, 1) := by decide +kernel
theorem dX5_day_7 : decode cX5_day 7 = .ok (.iconst 1, 1) := by decide +kernel
theorem dX5_day_8 : decode cX5_day 8 = .ok (.iadd, 1) := by decide +kernel
theorem dX5_day_9 : decode cX5_day 9 = .ok (.iastore, 1) := by decide +kernel
theorem dX5_day_10 : decode cX5_day 10 = .ok (.iconst 0, 1) := by decide +kernel
theorem dX5_day_11 : decode cX5_day 11 = .ok (.istore_n 1, 1) := by decide +kernel
theorem dX5_day_12 : decode cX5_day 12 = .ok (.iload_n 1, 1) := by decide +kernel
theorem dX5_day_13 : decode cX5_day 13 = .ok (.aload_n 0, 1) := by decide +kernel
theorem dX5_day_14 : decode cX5_day 14 = .ok (.getfield 7, 3) := by decide +kernel
theorem dX5_day_17 : decode cX5_day 17 = .ok (.iconst 5, 1) := by decide +kernel
theorem dX5_day_18 : decode cX5_day 18 = .ok (.iaload, 1) := by decide +kernel
theorem dX5_day_19 : decode cX5_day 19 = .ok (.if_icmp .ge 68, 3) := by decide +kernel
theorem dX5_day_22 : decode cX5_day 22 = .ok (.bipush 12, 2) := by decide +kernel
theorem dX5_day_24 : decode cX5_day 24 = .ok (.bipush 8, 2) := by decide +kernel
theorem dX5_day_26 : decode cX5_day 26 = .ok (.iload_n 1, 1) := by decide +kernel
theorem dX5_day_27 : decode cX5_day 27 = .ok (.imul, 1) := by decide +kernel
theorem dX5_day_28 : decode cX5_day 28 = .ok (.iadd, 1) := by decide +kernel
theorem dX5_day_29 : decode cX5_day 29 = .ok (.istore_n 2, 1) := by decide +kernel
theorem dX5_day_30 : decode cX5_day 30 = .ok (.aload_n 0, 1) := by decide +kernel
theorem dX5_day_31 : decode cX5_day 31 = .ok (.getfield 7, 3) := by decide +kernel
theorem dX5_day_34 : decode cX5_day 34 = .ok (.iload_n 2, 1) := by decide +kernel
theorem dX5_day_35 : decode cX5_day 35 = .ok (.bipush 6, 2) := by decide +kernel
theorem dX5_day_37 : decode cX5_day 37 = .ok (.iadd, 1) := by decide +kernel
theorem dX5_day_38 : decode cX5_day 38 = .ok (.iaload, 1) := by decide +kernel
theorem dX5_day_39 : decode cX5_day 39 = .ok (.iconst 4, 1) := by decide +kernel
theorem dX5_day_40 : decode cX5_day 40 = .ok (.if_icmp .ne 41, 3) := by decide +kernel
theorem dX5_day_43 : decode cX5_day 43 = .ok (.aload_n 0, 1) := by decide +kernel
theorem dX5_day_44 : decode cX5_day 44 = .ok (.getfield 7, 3) := by decide +kernel
theorem dX5_day_47 : decode cX5_day 47 = .ok (.iload_n 2, 1) := by decide +kernel
theorem dX5_day_48 : decode cX5_day 48 = .ok (.bipush 7, 2) := by decide +kernel
theorem dX5_day_50 : decode cX5_day 50 = .ok (.iadd, 1) := by decide +kernel
theorem dX5_day_51 : decode cX5_day 51 = .ok (.iaload, 1) := by decide +kernel
theorem dX5_day_52 : decode cX5_day 52 = .ok (.aload_n 0, 1) := by decide +kernel
theorem dX5_day_53 : decode cX5_day 53 = .ok (.getfield 7, 3) := by decide +kernel
theorem dX5_day_56 : decode cX5_day 56 = .ok (.iconst 3, 1) := by decide +kernel
theorem dX5_day_57 : decode cX5_day 57 = .ok (.iaload, 1) := by decide +kernel
theorem dX5_day_58 : decode cX5_day 58 = .ok (.if_icmp .ne 23, 3) := by decide +kernel
theorem dX5_day_61 : decode cX5_day 61 = .ok (.aload_n 0, 1) := by decide +kernel
theorem dX5_day_62 : decode cX5_day 62 = .ok (.getfield 7, 3) := by decide +kernel
theorem dX5_day_65 : decode cX5_day 65 = .ok (.iload_n 2, 1) := by decide +kernel
theorem dX5_day_66 : decode cX5_day 66 = .ok (.bipush 6, 2) := by decide +kernel
theorem dX5_day_68 : decode cX5_day 68 = .ok (.iadd, 1) := by decide +kernel
theorem dX5_day_69 : decode cX5_day 69 = .ok (.iconst 3, 1) := by decide +kernel
theorem dX5_day_70 : decode cX5_day 70 = .ok (.iastore, 1) := by decide +kernel
theorem dX5_day_71 : decode cX5_day 71 = .ok (.aload_n 0, 1) := by decide +kernel
theorem dX5_day_72 : decode cX5_day 72 = .ok (.getfield 7, 3) := by decide +kernel
theorem dX5_day_75 : decode cX5_day 75 = .ok (.iload_n 2, 1) := by decide +kernel
theorem dX5_day_76 : decode cX5_day 76 = .ok (.bipush 7, 2) := by decide +kernel
theorem dX5_day_78 : decode cX5_day 78 = .ok (.iadd, 1) := by decide +kernel
theorem dX5_day_79 : decode cX5_day 79 = .ok (.iconst (-1), 1) := by decide +kernel
theorem dX5_day_80 : decode cX5_day 80 = .ok (.iastore, 1) := by decide +kernel
theorem dX5_day_81 : decode cX5_day 81 = .ok (.iinc 1 1, 3) := by decide +kernel
theorem dX5_day_84 : decode cX5_day 84 = .ok (.goto (-72), 3) := by decide +kernel
theorem dX5_day_87 : decode cX5_day 87 = .ok (.iconst 0, 1) := by decide +kernel
theorem dX5_day_88 : decode cX5_day 88 = .ok (.istore_n 1, 1) := by decide +kernel
theorem dX5_day_89 : decode cX5_day 89 = .ok (.iload_n 1, 1) := by decide +kernel
theorem dX5_day_90 : decode cX5_day 90 = .ok (.aload_n 0, 1) := by decide +kernel
theorem dX5_day_91 : decode cX5_day 91 = .ok (.getfield 7, 3) := by decide +kernel
theorem dX5_day_94 : decode cX5_day 94 = .ok (.iconst 5, 1) := by decide +kernel
theorem dX5_day_95 : decode cX5_day 95 = .ok (.iaload, 1) := by decide +kernel
theorem dX5_day_96 : decode cX5_day 96 = .ok (.if_icmp .ge 85, 3) := by decide +kernel
theorem dX5_day_99 : decode cX5_day 99 = .ok (.aload_n 0, 1) := by decide +kernel
theorem dX5_day_100 : decode cX5_day 100 = .ok (.getfield 7, 3) := by decide +kernel
theorem dX5_day_103 : decode cX5_day 103 = .ok (.iconst 3, 1) := by decide +kernel
theorem dX5_day_104 : decode cX5_day 104 = .ok (.iaload, 1) := by decide +kernel
theorem dX5_day_105 : decode cX5_day 105 = .ok (.bipush 10, 2) := by decide +kernel
theorem dX5_day_107 : decode cX5_day 107 = .ok (.irem, 1) := by decide +kernel
theorem dX5_day_108 : decode cX5_day 108 = .ok (.ifCond .ne 73, 3) := by decide +kernel
theorem dX5_day_111 : decode cX5_day 111 = .ok (.aload_n 0, 1) := by decide +kernel
theorem dX5_day_112 : decode cX5_day 112 = .ok (.iload_n 1, 1) := by decide +kernel
theorem dX5_day_113 : decode cX5_day 113 = .ok (.bipush 6, 2) := by decide +kernel
theorem dX5_day_115 : decode cX5_day 115 = .ok (.invokevirtual 37, 3) := by decide +kernel
theorem dX5_day_118 : decode cX5_day 118 = .ok (.invokestatic 99, 3) := by decide +kernel
theorem dX5_day_121 : decode cX5_day 121 = .ok (.ifCond .eq 26, 3) := by decide +kernel
theorem dX5_day_124 : decode cX5_day 124 = .ok (.aload_n 0, 1) := by decide +kernel
theorem dX5_day_125 : decode cX5_day 125 = .ok (.iload_n 1, 1) := by decide +kernel
theorem dX5_day_126 : decode cX5_day 126 = .ok (.invokevirtual 62, 3) := by decide +kernel
theorem dX5_day_129 : decode cX5_day 129 = .ok (.ifCond .eq 18, 3) := by decide +kernel
theorem dX5_day_132 : decode cX5_day 132 = .ok (.aload_n 0, 1) := by decide +kernel
theorem dX5_day_133 : decode cX5_day 133 = .ok (.iload_n 1, 1) := by decide +kernel
theorem dX5_day_134 : decode cX5_day 134 = .ok (.iconst 4, 1) := by decide +kernel
theorem dX5_day_135 : decode cX5_day 135 = .ok (.invokevirtual 37, 3) := by decide +kernel
theorem dX5_day_138 : decode cX5_day 138 = .ok (.bipush 99, 2) := by decide +kernel
theorem dX5_day_140 : decode cX5_day 140 = .ok (.if_icmp .ge 7, 3) := by decide +kernel
theorem dX5_day_143 : decode cX5_day 143 = .ok (.iconst 1, 1) := by decide +kernel
theorem dX5_day_144 : decode cX5_day 144 = .ok (.goto 4, 3) := by decide +kernel
theorem dX5_day_147 : decode cX5_day 147 = .ok (.iconst 0, 1) := by decide +kernel
theorem dX5_day_148 : decode cX5_day 148 = .ok (.istore_n 2, 1) := by decide +kernel
theorem dX5_day_149 : decode cX5_day 149 = .ok (.aload_n 0, 1) := by decide +kernel
theorem dX5_day_150 : decode cX5_day 150 = .ok (.getfield 7, 3) := by decide +kernel
theorem dX5_day_153 : decode cX5_day 153 = .ok (.bipush 12, 2) := by decide +kernel
theorem dX5_day_155 : decode cX5_day 155 = .ok (.bipush 8, 2) := by decide +kernel
theorem dX5_day_157 : decode cX5_day 157 = .ok (.iload_n 1, 1) := by decide +kernel
theorem dX5_day_158 : decode cX5_day 158 = .ok (.imul, 1) := by decide +kernel
theorem dX5_day_159 : decode cX5_day 159 = .ok (.iadd, 1) := by decide +kernel
theorem dX5_day_160 : decode cX5_day 160 = .ok (.iconst 4, 1) := by decide +kernel
theorem dX5_day_161 : decode cX5_day 161 = .ok (.iadd, 1) := by decide +kernel
theorem dX5_day_162 : decode cX5_day 162 = .ok (.dup2, 1) := by decide +kernel
theorem dX5_day_163 : decode cX5_day 163 = .ok (.iaload, 1) := by decide +kernel
theorem dX5_day_164 : decode cX5_day 164 = .ok (.iload_n 2, 1) := by decide +kernel
theorem dX5_day_165 : decode cX5_day 165 = .ok (.ifCond .eq 7, 3) := by decide +kernel
theorem dX5_day_168 : decode cX5_day 168 = .ok (.iconst 1, 1) := by decide +kernel
theorem dX5_day_169 : decode cX5_day 169 = .ok (.goto 4, 3) := by decide +kernel
theorem dX5_day_172 : decode cX5_day 172 = .ok (.iconst 0, 1) := by decide +kernel
theorem dX5_day_173 : decode cX5_day 173 = .ok (.iadd, 1) := by decide +kernel
theorem dX5_day_174 : decode cX5_day 174 = .ok (.iastore, 1) := by decide +kernel
theorem dX5_day_175 : decode cX5_day 175 = .ok (.iinc 1 1, 3) := by decide +kernel
theorem dX5_day_178 : decode cX5_day 178 = .ok (.goto (-89), 3) := by decide +kernel
theorem dX5_day_181 : decode cX5_day 181 = .ok (.aload_n 0, 1) := by decide +kernel
theorem dX5_day_182 : decode cX5_day 182 = .ok (.getfield 7, 3) := by decide +kernel
theorem dX5_day_185 : decode cX5_day 185 = .ok (.iconst 3, 1) := by decide +kernel
theorem dX5_day_186 : decode cX5_day 186 = .ok (.iaload, 1) := by decide +kernel
theorem dX5_day_187 : decode cX5_day 187 = .ok (.bipush 30, 2) := by decide +kernel
theorem dX5_day_189 : decode cX5_day 189 = .ok (.irem, 1) := by decide +kernel
theorem dX5_day_190 : decode cX5_day 190 = .ok (.ifCond .ne 37, 3) := by decide +kernel
theorem dX5_day_193 : decode cX5_day 193 = .ok (.aload_n 0, 1) := by decide +kernel
theorem dX5_day_194 : decode cX5_day 194 = .ok (.getfield 7, 3) := by decide +kernel
theorem dX5_day_197 : decode cX5_day 197 = .ok (.iconst 4, 1) := by decide +kernel
theorem dX5_day_198 : decode cX5_day 198 = .ok (.iaload, 1) := by decide +kernel
theorem dX5_day_199 : decode cX5_day 199 = .ok (.aload_n 0, 1) := by decide +kernel
theorem dX5_day_200 : decode cX5_day 200 = .ok (.getfield 7, 3) := by decide +kernel
theorem dX5_day_203 : decode cX5_day 203 = .ok (.iconst 2, 1) := by decide +kernel
theorem dX5_day_204 : decode cX5_day 204 = .ok (.iaload, 1) := by decide +kernel
theorem dX5_day_205 : decode cX5_day 205 = .ok (.iadd, 1) := by decide +kernel
theorem dX5_day_206 : decode cX5_day 206 = .ok (.istore_n 1, 1) := by decide +kernel
theorem dX5_day_207 : decode cX5_day 207 = .ok (.aload_n 0, 1) := by decide +kernel
theorem dX5_day_208 : decode cX5_day 208 = .ok (.getfield 7, 3) := by decide +kernel
theorem dX5_day_211 : decode cX5_day 211 = .ok (.iconst 4, 1) := by decide +kernel
theorem dX5_day_212 : decode cX5_day 212 = .ok (.iload_n 1, 1) := by decide +kernel
theorem dX5_day_213 : decode cX5_day 213 = .ok (.sipush 9999, 3) := by decide +kernel
theorem dX5_day_216 : decode cX5_day 216 = .ok (.if_icmp .le 9, 3) := by decide +kernel
theorem dX5_day_219 : decode cX5_day 219 = .ok (.sipush 9999, 3) := by decide +kernel
theorem dX5_day_222 : decode cX5_day 222 = .ok (.goto 4, 3) := by decide +kernel
theorem dX5_day_225 : decode cX5_day 225 = .ok (.iload_n 1, 1) := by decide +kernel
theorem dX5_day_226 : decode cX5_day 226 = .ok (.iastore, 1) := by decide +kernel
theorem dX5_day_227 : decode cX5_day 227 = .ok (.return_, 1) := by decide +kernel
theorem dX5_pass_0 : decode cX5_pass 0 = .ok (.aload_n 0, 1) := by decide +kernel
theorem dX5_pass_1 : decode cX5_pass 1 = .ok (.iconst 0, 1) := by decide +kernel
theorem dX5_pass_2 : decode cX5_pass 2 = .ok (.putfield 22, 3) := by decide +kernel
theorem dX5_pass_5 : decode cX5_pass 5 = .ok (.iload_n 1, 1) := by decide +kernel
theorem dX5_pass_6 : decode cX5_pass 6 = .ok (.iconst 1, 1) := by decide +kernel
theorem dX5_pass_7 : decode cX5_pass 7 = .ok (.bipush 100, 2) := by decide +kernel
theorem dX5_pass_9 : decode cX5_pass 9 = .ok (.invokestatic 26, 3) := by decide +kernel
theorem dX5_pass_12 : decode cX5_pass 12 = .ok (.ifCond .ne 9, 3) := by decide +kernel
theorem dX5_pass_15 : decode cX5_pass 15 = .ok (.aload_n 0, 1) := by decide +kernel
theorem dX5_pass_16 : decode cX5_pass 16 = .ok (.iconst 1, 1) := by decide +kernel
theorem dX5_pass_17 : decode cX5_pass 17 = .ok (.invokevirtual 33, 3) := by decide +kernel
theorem dX5_pass_20 : decode cX5_pass 20 = .ok (.ireturn, 1) := by decide +kernel
theorem dX5_pass_21 : decode cX5_pass 21 = .ok (.aload_n 0, 1) := by decide +kernel
theorem dX5_pass_22 : decode cX5_pass 22 = .ok (.invokevirtual 77, 3) := by decide +kernel
theorem dX5_pass_25 : decode cX5_pass 25 = .ok (.iconst 0, 1) := by decide +kernel
theorem dX5_pass_26 : decode cX5_pass 26 = .ok (.istore_n 2, 1) := by decide +kernel
theorem dX5_pass_27 : decode cX5_pass 27 = .ok (.iload_n 2, 1) := by decide +kernel
theorem dX5_pass_28 : decode cX5_pass 28 = .ok (.iload_n 1, 1) := by decide +kernel
theorem dX5_pass_29 : decode cX5_pass 29 = .ok (.if_icmp .ge 13, 3) := by decide +kernel
theorem dX5_pass_32 : decode cX5_pass 32 = .ok (.aload_n 0, 1) := by decide +kernel
theorem dX5_pass_33 : decode cX5_pass 33 = .ok (.invokevirtual 102, 3) := by decide +kernel
theorem dX5_pass_36 : decode cX5_pass 36 = .ok (.iinc 2 1, 3) := by decide +kernel
theorem dX5_pass_39 : decode cX5_pass 39 = .ok (.goto (-12), 3) := by decide +kernel
theorem dX5_pass_42 : decode cX5_pass 42 = .ok (.aload_n 0, 1) := by decide +kernel
theorem dX5_pass_43 : decode cX5_pass 43 = .ok (.getfield 7, 3) := by decide +kernel
theorem dX5_pass_46 : decode cX5_pass 46 = .ok (.iconst 3, 1) := by decide +kernel
theorem dX5_pass_47 : decode cX5_pass 47 = .ok (.iaload, 1) := by decide +kernel
theorem dX5_pass_48 : decode cX5_pass 48 = .ok (.ireturn, 1) := by decide +kernel
theorem dX5_append_0 : decode cX5_append 0 = .ok (.aload_n 0, 1) := by decide +kernel
theorem dX5_append_1 : decode cX5_append 1 = .ok (.iconst 0, 1) := by decide +kernel
theorem dX5_append_2 : decode cX5_append 2 = .ok (.putfield 22, 3) := by decide +kernel
theorem dX5_append_5 : decode cX5_append 5 = .ok (.iload_n 1, 1) := by decide +kernel
theorem dX5_append_6 : decode cX5_append 6 = .ok (.bipush 33, 2) := by decide +kernel
theorem dX5_append_8 : decode cX5_append 8 = .ok (.bipush 126, 2) := by decide +kernel
theorem dX5_append_10 : decode cX5_append 10 = .ok (.invokestatic 26, 3) := by decide +kernel
theorem dX5_append_13 : decode cX5_append 13 = .ok (.ifCond .ne 9, 3) := by decide +kernel
theorem dX5_append_16 : decode cX5_append 16 = .ok (.aload_n 0, 1) := by decide +kernel
theorem dX5_append_17 : decode cX5_append 17 = .ok (.iconst 1, 1) := by decide +kernel
theorem dX5_append_18 : decode cX5_append 18 = .ok (.invokevirtual 33, 3) := by decide +kernel
theorem dX5_append_21 : decode cX5_append 21 = .ok (.ireturn, 1) := by decide +kernel
theorem dX5_append_22 : decode cX5_append 22 = .ok (.aload_n 0, 1) := by decide +kernel
theorem dX5_append_23 : decode cX5_append 23 = .ok (.getfield 105, 3) := by decide +kernel
theorem dX5_append_26 : decode cX5_append 26 = .ok (.bipush 60, 2) := by decide +kernel
theorem dX5_append_28 : decode cX5_append 28 = .ok (.if_icmp .ne 9, 3) := by decide +kernel
theorem dX5_append_31 : decode cX5_append 31 = .ok (.aload_n 0, 1) := by decide +kernel
theorem dX5_append_32 : decode cX5_append 32 = .ok (.iconst 2, 1) := by decide +kernel
theorem dX5_append_33 : decode cX5_append 33 = .ok (.invokevirtual 33, 3) := by decide +kernel
theorem dX5_append_36 : decode cX5_append 36 = .ok (.ireturn, 1) := by decide +kernel
theorem dX5_append_37 : decode cX5_append 37 = .ok (.aload_n 0, 1) := by decide +kernel
theorem dX5_append_38 : decode cX5_append 38 = .ok (.getfield 16, 3) := by decide +kernel
theorem dX5_append_41 : decode cX5_append 41 = .ok (.aload_n 0, 1) := by decide +kernel
theorem dX5_append_42 : decode cX5_append 42 = .ok (.getfield 105, 3) := by decide +kernel
theorem dX5_append_45 : decode cX5_append 45 = .ok (.iload_n 1, 1) := by decide +kernel
theorem dX5_append_46 : decode cX5_append 46 = .ok (.iastore, 1) := by decide +kernel
theorem dX5_append_47 : decode cX5_append 47 = .ok (.aload_n 0, 1) := by decide +kernel
theorem dX5_append_48 : decode cX5_append 48 = .ok (.dup, 1) := by decide +kernel
theorem dX5_append_49 : decode cX5_append 49 = .ok (.getfield 105, 3) := by decide +kernel
theorem dX5_append_52 : decode cX5_append 52 = .ok (.iconst 1, 1) := by decide +kernel
theorem dX5_append_53 : decode cX5_append 53 = .ok (.iadd, 1) := by decide +kernel
theorem dX5_append_54 : decode cX5_append 54 = .ok (.putfield 105, 3) := by decide +kernel
theorem dX5_append_57 : decode cX5_append 57 = .ok (.aload_n 0, 1) := by decide +kernel
theorem dX5_append_58 : decode cX5_append 58 = .ok (.getfield 105, 3) := by decide +kernel
theorem dX5_append_61 : decode cX5_append 61 = .ok (.ireturn, 1) := by decide +kernel
theorem dX5_clearBuffer_0 : decode cX5_clearBuffer 0 = .ok (.aload_n 0, 1) := by decide +kernel
theorem dX5_clearBuffer_1 : decode cX5_clearBuffer 1 = .ok (.iconst 0, 1) := by decide +kernel
theorem dX5_clearBuffer_2 : decode cX5_clearBuffer 2 = .ok (.putfield 22, 3) := by decide +kernel
theorem dX5_clearBuffer_5 : decode cX5_clearBuffer 5 = .ok (.aload_n 0, 1) := by decide +kernel
theorem dX5_clearBuffer_6 : decode cX5_clearBuffer 6 = .ok (.getfield 105, 3) := by decide +kernel
theorem dX5_clearBuffer_9 : decode cX5_clearBuffer 9 = .ok (.istore_n 1, 1) := by decide +kernel
theorem dX5_clearBuffer_10 : decode cX5_clearBuffer 10 = .ok (.aload_n 0, 1) := by decide +kernel
theorem dX5_clearBuffer_11 : decode cX5_clearBuffer 11 = .ok (.iconst 0, 1) := by decide +kernel
theorem dX5_clearBuffer_12 : decode cX5_clearBuffer 12 = .ok (.putfield 105, 3) := by decide +kernel
theorem dX5_clearBuffer_15 : decode cX5_clearBuffer 15 = .ok (.iload_n 1, 1) := by decide +kernel
theorem dX5_clearBuffer_16 : decode cX5_clearBuffer 16 = .ok (.ireturn, 1) := by decide +kernel
theorem dX5_isAt_0 : decode cX5_isAt 0 = .ok (.aload_n 0, 1) := by decide +kernel
theorem dX5_isAt_1 : decode cX5_isAt 1 = .ok (.getfield 108, 3) := by decide +kernel
theorem dX5_isAt_4 : decode cX5_isAt 4 = .ok (.aload_n 0, 1) := by decide +kernel
theorem dX5_isAt_5 : decode cX5_isAt 5 = .ok (.getfield 105, 3) := by decide +kernel
theorem dX5_isAt_8 : decode cX5_isAt 8 = .ok (.if_icmp .ge 24, 3) := by decide +kernel
theorem dX5_isAt_11 : decode cX5_isAt 11 = .ok (.aload_n 0, 1) := by decide +kernel
theorem dX5_isAt_12 : decode cX5_isAt 12 = .ok (.getfield 16, 3) := by decide +kernel
theorem dX5_isAt_15 : decode cX5_isAt 15 = .ok (.aload_n 0, 1) := by decide +kernel
theorem dX5_isAt_16 : decode cX5_isAt 16 = .ok (.getfield 108, 3) := by decide +kernel
theorem dX5_isAt_19 : decode cX5_isAt 19 = .ok (.iaload, 1) := by decide +kernel
theorem dX5_isAt_20 : decode cX5_isAt 20 = .ok (.iload_n 1, 1) := by decide +kernel
theorem dX5_isAt_21 : decode cX5_isAt 21 = .ok (.iload_n 2, 1) := by decide +kernel
theorem dX5_isAt_22 : decode cX5_isAt 22 = .ok (.invokestatic 26, 3) := by decide +kernel
theorem dX5_isAt_25 : decode cX5_isAt 25 = .ok (.ifCond .eq 7, 3) := by decide +kernel
theorem dX5_isAt_28 : decode cX5_isAt 28 = .ok (.iconst 1, 1) := by decide +kernel
theorem dX5_isAt_29 : decode cX5_isAt 29 = .ok (.goto 4, 3) := by decide +kernel
theorem dX5_isAt_32 : decode cX5_isAt 32 = .ok (.iconst 0, 1) := by decide +kernel
theorem dX5_isAt_33 : decode cX5_isAt 33 = .ok (.ireturn, 1) := by decide +kernel
theorem dX5_stops_0 : decode cX5_stops 0 = .ok (.aload_n 0, 1) := by decide +kernel
theorem dX5_stops_1 : decode cX5_stops 1 = .ok (.aload_n 0, 1) := by decide +kernel
theorem dX5_stops_2 : decode cX5_stops 2 = .ok (.getfield 108, 3) := by decide +kernel
theorem dX5_stops_5 : decode cX5_stops 5 = .ok (.aload_n 0, 1) := by decide +kernel
theorem dX5_stops_6 : decode cX5_stops 6 = .ok (.getfield 105, 3) := by decide +kernel
theorem dX5_stops_9 : decode cX5_stops 9 = .ok (.if_icmp .ge 7, 3) := by decide +kernel
theorem dX5_stops_12 : decode cX5_stops 12 = .ok (.iconst 1, 1) := by decide +kernel
theorem dX5_stops_13 : decode cX5_stops 13 = .ok (.goto 4, 3) := by decide +kernel
theorem dX5_stops_16 : decode cX5_stops 16 = .ok (.iconst 0, 1) := by decide +kernel
theorem dX5_stops_17 : decode cX5_stops 17 = .ok (.putfield 111, 3) := by decide +kernel
theorem dX5_stops_20 : decode cX5_stops 20 = .ok (.iconst 0, 1) := by decide +kernel
theorem dX5_stops_21 : decode cX5_stops 21 = .ok (.ireturn, 1) := by decide +kernel
theorem dX5_isLength_0 : decode cX5_isLength 0 = .ok (.aload_n 0, 1) := by decide +kernel
theorem dX5_isLength_1 : decode cX5_isLength 1 = .ok (.bipush 49, 2) := by decide +kernel
theorem dX5_isLength_3 : decode cX5_isLength 3 = .ok (.bipush 57, 2) := by decide +kernel
theorem dX5_isLength_5 : decode cX5_isLength 5 = .ok (.invokevirtual 115, 3) := by decide +kernel
theorem dX5_isLength_8 : decode cX5_isLength 8 = .ok (.ifCond .ne 8, 3) := by decide +kernel
theorem dX5_isLength_11 : decode cX5_isLength 11 = .ok (.aload_n 0, 1) := by decide +kernel
theorem dX5_isLength_12 : decode cX5_isLength 12 = .ok (.invokevirtual 118, 3) := by decide +kernel
theorem dX5_isLength_15 : decode cX5_isLength 15 = .ok (.ireturn, 1) := by decide +kernel
theorem dX5_isLength_16 : decode cX5_isLength 16 = .ok (.aload_n 0, 1) := by decide +kernel
theorem dX5_isLength_17 : decode cX5_isLength 17 = .ok (.getfield 16, 3) := by decide +kernel
theorem dX5_isLength_20 : decode cX5_isLength 20 = .ok (.aload_n 0, 1) := by decide +kernel
theorem dX5_isLength_21 : decode cX5_isLength 21 = .ok (.getfield 108, 3) := by decide +kernel
theorem dX5_isLength_24 : decode cX5_isLength 24 = .ok (.iaload, 1) := by decide +kernel
theorem dX5_isLength_25 : decode cX5_isLength 25 = .ok (.bipush 48, 2) := by decide +kernel
theorem dX5_isLength_27 : decode cX5_isLength 27 = .ok (.isub, 1) := by decide +kernel
theorem dX5_isLength_28 : decode cX5_isLength 28 = .ok (.istore_n 1, 1) := by decide +kernel
theorem dX5_isLength_29 : decode cX5_isLength 29 = .ok (.aload_n 0, 1) := by decide +kernel
theorem dX5_isLength_30 : decode cX5_isLength 30 = .ok (.dup, 1) := by decide +kernel
theorem dX5_isLength_31 : decode cX5_isLength 31 = .ok (.getfield 108, 3) := by decide +kernel
theorem dX5_isLength_34 : decode cX5_isLength 34 = .ok (.iconst 1, 1) := by decide +kernel
theorem dX5_isLength_35 : decode cX5_isLength 35 = .ok (.iadd, 1) := by decide +kernel
theorem dX5_isLength_36 : decode cX5_isLength 36 = .ok (.putfield 108, 3) := by decide +kernel
theorem dX5_isLength_39 : decode cX5_isLength 39 = .ok (.iload_n 1, 1) := by decide +kernel
theorem dX5_isLength_40 : decode cX5_isLength 40 = .ok (.iconst 5, 1) := by decide +kernel
theorem dX5_isLength_41 : decode cX5_isLength 41 = .ok (.if_icmp .ge 19, 3) := by decide +kernel
theorem dX5_isLength_44 : decode cX5_isLength 44 = .ok (.aload_n 0, 1) := by decide +kernel
theorem dX5_isLength_45 : decode cX5_isLength 45 = .ok (.bipush 48, 2) := by decide +kernel
theorem dX5_isLength_47 : decode cX5_isLength 47 = .ok (.bipush 57, 2) := by decide +kernel
theorem dX5_isLength_49 : decode cX5_isLength 49 = .ok (.invokevirtual 115, 3) := by decide +kernel
theorem dX5_isLength_52 : decode cX5_isLength 52 = .ok (.ifCond .ne 8, 3) := by decide +kernel
theorem dX5_isLength_55 : decode cX5_isLength 55 = .ok (.aload_n 0, 1) := by decide +kernel
theorem dX5_isLength_56 : decode cX5_isLength 56 = .ok (.invokevirtual 118, 3) := by decide +kernel
theorem dX5_isLength_59 : decode cX5_isLength 59 = .ok (.ireturn, 1) := by decide +kernel
theorem dX5_isLength_60 : decode cX5_isLength 60 = .ok (.iload_n 1, 1) := by decide +kernel
theorem dX5_isLength_61 : decode cX5_isLength 61 = .ok (.iconst 5, 1) := by decide +kernel
theorem dX5_isLength_62 : decode cX5_isLength 62 = .ok (.if_icmp .lt 19, 3) := by decide +kernel
theorem dX5_isLength_65 : decode cX5_isLength 65 = .ok (.iload_n 1, 1) := by decide +kernel
theorem dX5_isLength_66 : decode cX5_isLength 66 = .ok (.iconst 5, 1) := by decide +kernel
theorem dX5_isLength_67 : decode cX5_isLength 67 = .ok (.if_icmp .ne 42, 3) := by decide +kernel
theorem dX5_isLength_70 : decode cX5_isLength 70 = .ok (.aload_n 0, 1) := by decide +kernel
theorem dX5_isLength_71 : decode cX5_isLength 71 = .ok (.bipush 48, 2) := by decide +kernel
theorem dX5_isLength_73 : decode cX5_isLength 73 = .ok (.bipush 48, 2) := by decide +kernel
theorem dX5_isLength_75 : decode cX5_isLength 75 = .ok (.invokevirtual 115, 3) := by decide +kernel
theorem dX5_isLength_78 : decode cX5_isLength 78 = .ok (.ifCond .eq 31, 3) := by decide +kernel
theorem dX5_isLength_81 : decode cX5_isLength 81 = .ok (.bipush 10, 2) := by decide +kernel
theorem dX5_isLength_83 : decode cX5_isLength 83 = .ok (.iload_n 1, 1) := by decide +kernel
theorem dX5_isLength_84 : decode cX5_isLength 84 = .ok (.imul, 1) := by decide +kernel
theorem dX5_isLength_85 : decode cX5_isLength 85 = .ok (.aload_n 0, 1) := by decide +kernel
theorem dX5_isLength_86 : decode cX5_isLength 86 = .ok (.getfield 16, 3) := by decide +kernel
theorem dX5_isLength_89 : decode cX5_isLength 89 = .ok (.aload_n 0, 1) := by decide +kernel
theorem dX5_isLength_90 : decode cX5_isLength 90 = .ok (.getfield 108, 3) := by decide +kernel
theorem dX5_isLength_93 : decode cX5_isLength 93 = .ok (.iaload, 1) := by decide +kernel
theorem dX5_isLength_94 : decode cX5_isLength 94 = .ok (.iadd, 1) := by decide +kernel
theorem dX5_isLength_95 : decode cX5_isLength 95 = .ok (.bipush 48, 2) := by decide +kernel
theorem dX5_isLength_97 : decode cX5_isLength 97 = .ok (.isub, 1) := by decide +kernel
theorem dX5_isLength_98 : decode cX5_isLength 98 = .ok (.istore_n 1, 1) := by decide +kernel
theorem dX5_isLength_99 : decode cX5_isLength 99 = .ok (.aload_n 0, 1) := by decide +kernel
theorem dX5_isLength_100 : decode cX5_isLength 100 = .ok (.dup, 1) := by decide +kernel
theorem dX5_isLength_101 : decode cX5_isLength 101 = .ok (.getfield 108, 3) := by decide +kernel
theorem dX5_isLength_104 : decode cX5_isLength 104 = .ok (.iconst 1, 1) := by decide +kernel
theorem dX5_isLength_105 : decode cX5_isLength 105 = .ok (.iadd, 1) := by decide +kernel
theorem dX5_isLength_106 : decode cX5_isLength 106 = .ok (.putfield 108, 3) := by decide +kernel
theorem dX5_isLength_109 : decode cX5_isLength 109 = .ok (.aload_n 0, 1) := by decide +kernel
theorem dX5_isLength_110 : decode cX5_isLength 110 = .ok (.getfield 19, 3) := by decide +kernel
theorem dX5_isLength_113 : decode cX5_isLength 113 = .ok (.iconst 3, 1) := by decide +kernel
theorem dX5_isLength_114 : decode cX5_isLength 114 = .ok (.aload_n 0, 1) := by decide +kernel
theorem dX5_isLength_115 : decode cX5_isLength 115 = .ok (.getfield 122, 3) := by decide +kernel
theorem dX5_isLength_118 : decode cX5_isLength 118 = .ok (.imul, 1) := by decide +kernel
theorem dX5_isLength_119 : decode cX5_isLength 119 = .ok (.iconst 1, 1) := by decide +kernel
theorem dX5_isLength_120 : decode cX5_isLength 120 = .ok (.iadd, 1) := by decide +kernel
theorem dX5_isLength_121 : decode cX5_isLength 121 = .ok (.iload_n 1, 1) := by decide +kernel
theorem dX5_isLength_122 : decode cX5_isLength 122 = .ok (.iastore, 1) := by decide +kernel
theorem dX5_isLength_123 : decode cX5_isLength 123 = .ok (.iconst 1, 1) := by decide +kernel
theorem dX5_isLength_124 : decode cX5_isLength 124 = .ok (.ireturn, 1) := by decide +kernel
theorem dX5_isPart_0 : decode cX5_isPart 0 = .ok (.aload_n 0, 1) := by decide +kernel
theorem dX5_isPart_1 : decode cX5_isPart 1 = .ok (.getfield 108, 3) := by decide +kernel
theorem dX5_isPart_4 : decode cX5_isPart 4 = .ok (.aload_n 0, 1) := by decide +kernel
theorem dX5_isPart_5 : decode cX5_isPart 5 = .ok (.getfield 105, 3) := by decide +kernel
theorem dX5_isPart_8 : decode cX5_isPart 8 = .ok (.if_icmp .ge 15, 3) := by decide +kernel
theorem dX5_isPart_11 : decode cX5_isPart 11 = .ok (.aload_n 0, 1) := by decide +kernel
theorem dX5_isPart_12 : decode cX5_isPart 12 = .ok (.getfield 16, 3) := by decide +kernel
theorem dX5_isPart_15 : decode cX5_isPart 15 = .ok (.aload_n 0, 1) := by decide +kernel
theorem dX5_isPart_16 : decode cX5_isPart 16 = .ok (.getfield 108, 3) := by decide +kernel
theorem dX5_isPart_19 : decode cX5_isPart 19 = .ok (.iaload, 1) := by decide +kernel
theorem dX5_isPart_20 : decode cX5_isPart 20 = .ok (.goto 4, 3) := by decide +kernel
theorem dX5_isPart_23 : decode cX5_isPart 23 = .ok (.iconst 0, 1) := by decide +kernel
theorem dX5_isPart_24 : decode cX5_isPart 24 = .ok (.istore_n 1, 1) := by decide +kernel
theorem dX5_isPart_25 : decode cX5_isPart 25 = .ok (.aload_n 0, 1) := by decide +kernel
theorem dX5_isPart_26 : decode cX5_isPart 26 = .ok (.getfield 19, 3) := by decide +kernel
theorem dX5_isPart_29 : decode cX5_isPart 29 = .ok (.iconst 3, 1) := by decide +kernel
theorem dX5_isPart_30 : decode cX5_isPart 30 = .ok (.aload_n 0, 1) := by decide +kernel
theorem dX5_isPart_31 : decode cX5_isPart 31 = .ok (.getfield 122, 3) := by decide +kernel
theorem dX5_isPart_34 : decode cX5_isPart 34 = .ok (.imul, 1) := by decide +kernel
theorem dX5_isPart_35 : decode cX5_isPart 35 = .ok (.iload_n 1, 1) := by decide +kernel
theorem dX5_isPart_36 : decode cX5_isPart 36 = .ok (.bipush 110, 2) := by decide +kernel
theorem dX5_isPart_38 : decode cX5_isPart 38 = .ok (.if_icmp .ne 7, 3) := by decide +kernel
theorem dX5_isPart_41 : decode cX5_isPart 41 = .ok (.iconst 0, 1) := by decide +kernel
theorem dX5_isPart_42 : decode cX5_isPart 42 = .ok (.goto 14, 3) := by decide +kernel
theorem dX5_isPart_45 : decode cX5_isPart 45 = .ok (.iload_n 1, 1) := by decide +kernel
theorem dX5_isPart_46 : decode cX5_isPart 46 = .ok (.bipush 114, 2) := by decide +kernel
theorem dX5_isPart_48 : decode cX5_isPart 48 = .ok (.if_icmp .ne 7, 3) := by decide +kernel
theorem dX5_isPart_51 : decode cX5_isPart 51 = .ok (.iconst 1, 1) := by decide +kernel
theorem dX5_isPart_52 : decode cX5_isPart 52 = .ok (.goto 4, 3) := by decide +kernel
theorem dX5_isPart_55 : decode cX5_isPart 55 = .ok (.iconst 2, 1) := by decide +kernel
theorem dX5_isPart_56 : decode cX5_isPart 56 = .ok (.iastore, 1) := by decide +kernel
theorem dX5_isPart_57 : decode cX5_isPart 57 = .ok (.iload_n 1, 1) := by decide +kernel
theorem dX5_isPart_58 : decode cX5_isPart 58 = .ok (.bipush 110, 2) := by decide +kernel
theorem dX5_isPart_60 : decode cX5_isPart 60 = .ok (.if_icmp .eq 20, 3) := by decide +kernel
theorem dX5_isPart_63 : decode cX5_isPart 63 = .ok (.iload_n 1, 1) := by decide +kernel
theorem dX5_isPart_64 : decode cX5_isPart 64 = .ok (.bipush 114, 2) := by decide +kernel
theorem dX5_isPart_66 : decode cX5_isPart 66 = .ok (.if_icmp .eq 14, 3) := by decide +kernel
theorem dX5_isPart_69 : decode cX5_isPart 69 = .ok (.iload_n 1, 1) := by decide +kernel
theorem dX5_isPart_70 : decode cX5_isPart 70 = .ok (.bipush 108, 2) := by decide +kernel
theorem dX5_isPart_72 : decode cX5_isPart 72 = .ok (.if_icmp .eq 8, 3) := by decide +kernel
theorem dX5_isPart_75 : decode cX5_isPart 75 = .ok (.aload_n 0, 1) := by decide +kernel
theorem dX5_isPart_76 : decode cX5_isPart 76 = .ok (.invokevirtual 118, 3) := by decide +kernel
theorem dX5_isPart_79 : decode cX5_isPart 79 = .ok (.ireturn, 1) := by decide +kernel
theorem dX5_isPart_80 : decode cX5_isPart 80 = .ok (.aload_n 0, 1) := by decide +kernel
theorem dX5_isPart_81 : decode cX5_isPart 81 = .ok (.dup, 1) := by decide +kernel
theorem dX5_isPart_82 : decode cX5_isPart 82 = .ok (.getfield 108, 3) := by decide +kernel
theorem dX5_isPart_85 : decode cX5_isPart 85 = .ok (.iconst 1, 1) := by decide +kernel
theorem dX5_isPart_86 : decode cX5_isPart 86 = .ok (.iadd, 1) := by decide +kernel
theorem dX5_isPart_87 : decode cX5_isPart 87 = .ok (.putfield 108, 3) := by decide +kernel
theorem dX5_isPart_90 : decode cX5_isPart 90 = .ok (.aload_n 0, 1) := by decide +kernel
theorem dX5_isPart_91 : decode cX5_isPart 91 = .ok (.invokevirtual 125, 3) := by decide +kernel
theorem dX5_isPart_94 : decode cX5_isPart 94 = .ok (.ifCond .ne 5, 3) := by decide +kernel
theorem dX5_isPart_97 : decode cX5_isPart 97 = .ok (.iconst 0, 1) := by decide +kernel
theorem dX5_isPart_98 : decode cX5_isPart 98 = .ok (.ireturn, 1) := by decide +kernel
theorem dX5_isPart_99 : decode cX5_isPart 99 = .ok (.aload_n 0, 1) := by decide +kernel
theorem dX5_isPart_100 : decode cX5_isPart 100 = .ok (.bipush 97, 2) := by decide +kernel
theorem dX5_isPart_102 : decode cX5_isPart 102 = .ok (.bipush 99, 2) := by decide +kernel
theorem dX5_isPart_104 : decode cX5_isPart 104 = .ok (.invokevirtual 115, 3) := by decide +kernel
theorem dX5_isPart_107 : decode cX5_isPart 107 = .ok (.ifCond .ne 8, 3) := by decide +kernel
theorem dX5_isPart_110 : decode cX5_isPart 110 = .ok (.aload_n 0, 1) := by decide +kernel
theorem dX5_isPart_111 : decode cX5_isPart 111 = .ok (.invokevirtual 118, 3) := by decide +kernel
theorem dX5_isPart_114 : decode cX5_isPart 114 = .ok (.ireturn, 1) := by decide +kernel
theorem dX5_isPart_115 : decode cX5_isPart 115 = .ok (.aload_n 0, 1) := by decide +kernel
theorem dX5_isPart_116 : decode cX5_isPart 116 = .ok (.getfield 19, 3) := by decide +kernel
theorem dX5_isPart_119 : decode cX5_isPart 119 = .ok (.iconst 3, 1) := by decide +kernel
theorem dX5_isPart_120 : decode cX5_isPart 120 = .ok (.aload_n 0, 1) := by decide +kernel
theorem dX5_isPart_121 : decode cX5_isPart 121 = .ok (.getfield 122, 3) := by decide +kernel
theorem dX5_isPart_124 : decode cX5_isPart 124 = .ok (.imul, 1) := by decide +kernel
theorem dX5_isPart_125 : decode cX5_isPart 125 = .ok (.iconst 2, 1) := by decide +kernel
theorem dX5_isPart_126 : decode cX5_isPart 126 = .ok (.iadd, 1) := by decide +kernel
theorem dX5_isPart_127 : decode cX5_isPart 127 = .ok (.aload_n 0, 1) := by decide +kernel
theorem dX5_isPart_128 : decode cX5_isPart 128 = .ok (.getfield 16, 3) := by decide +kernel
theorem dX5_isPart_131 : decode cX5_isPart 131 = .ok (.aload_n 0, 1) := by decide +kernel
theorem dX5_isPart_132 : decode cX5_isPart 132 = .ok (.getfield 108, 3) := by decide +kernel
theorem dX5_isPart_135 : decode cX5_isPart 135 = .ok (.iaload, 1) := by decide +kernel
theorem dX5_isPart_136 : decode cX5_isPart 136 = .ok (.bipush 97, 2) := by decide +kernel
theorem dX5_isPart_138 : decode cX5_isPart 138 = .ok (.isub, 1) := by decide +kernel
theorem dX5_isPart_139 : decode cX5_isPart 139 = .ok (.iastore, 1) := by decide +kernel
theorem dX5_isPart_140 : decode cX5_isPart 140 = .ok (.aload_n 0, 1) := by decide +kernel
theorem dX5_isPart_141 : decode cX5_isPart 141 = .ok (.dup, 1) := by decide +kernel
theorem dX5_isPart_142 : decode cX5_isPart 142 = .ok (.getfield 108, 3) := by decide +kernel
theorem dX5_isPart_145 : decode cX5_isPart 145 = .ok (.iconst 1, 1) := by decide +kernel
theorem dX5_isPart_146 : decode cX5_isPart 146 = .ok (.iadd, 1) := by decide +kernel
theorem dX5_isPart_147 : decode cX5_isPart 147 = .ok (.putfield 108, 3) := by decide +kernel
theorem dX5_isPart_150 : decode cX5_isPart 150 = .ok (.iconst 1, 1) := by decide +kernel
theorem dX5_isPart_151 : decode cX5_isPart 151 = .ok (.ireturn, 1) := by decide +kernel
theorem dX5_isText_0 : decode cX5_isText 0 = .ok (.aload_n 0, 1) := by decide +kernel
theorem dX5_isText_1 : decode cX5_isText 1 = .ok (.iconst 0, 1) := by decide +kernel
theorem dX5_isText_2 : decode cX5_isText 2 = .ok (.putfield 108, 3) := by decide +kernel
theorem dX5_isText_5 : decode cX5_isText 5 = .ok (.aload_n 0, 1) := by decide +kernel
theorem dX5_isText_6 : decode cX5_isText 6 = .ok (.iconst 0, 1) := by decide +kernel
theorem dX5_isText_7 : decode cX5_isText 7 = .ok (.putfield 122, 3) := by decide +kernel
theorem dX5_isText_10 : decode cX5_isText 10 = .ok (.aload_n 0, 1) := by decide +kernel
theorem dX5_isText_11 : decode cX5_isText 11 = .ok (.iconst 0, 1) := by decide +kernel
theorem dX5_isText_12 : decode cX5_isText 12 = .ok (.putfield 111, 3) := by decide +kernel
theorem dX5_isText_15 : decode cX5_isText 15 = .ok (.iconst 1, 1) := by decide +kernel
theorem dX5_isText_16 : decode cX5_isText 16 = .ok (.istore_n 1, 1) := by decide +kernel
theorem dX5_isText_17 : decode cX5_isText 17 = .ok (.iload_n 1, 1) := by decide +kernel
theorem dX5_isText_18 : decode cX5_isText 18 = .ok (.ifCond .eq 52, 3) := by decide +kernel
theorem dX5_isText_21 : decode cX5_isText 21 = .ok (.aload_n 0, 1) := by decide +kernel
theorem dX5_isText_22 : decode cX5_isText 22 = .ok (.invokevirtual 128, 3) := by decide +kernel
theorem dX5_isText_25 : decode cX5_isText 25 = .ok (.ifCond .ne 5, 3) := by decide +kernel
theorem dX5_isText_28 : decode cX5_isText 28 = .ok (.iconst 0, 1) := by decide +kernel
theorem dX5_isText_29 : decode cX5_isText 29 = .ok (.ireturn, 1) := by decide +kernel
theorem dX5_isText_30 : decode cX5_isText 30 = .ok (.aload_n 0, 1) := by decide +kernel
theorem dX5_isText_31 : decode cX5_isText 31 = .ok (.dup, 1) := by decide +kernel
theorem dX5_isText_32 : decode cX5_isText 32 = .ok (.getfield 122, 3) := by decide +kernel
theorem dX5_isText_35 : decode cX5_isText 35 = .ok (.iconst 1, 1) := by decide +kernel
theorem dX5_isText_36 : decode cX5_isText 36 = .ok (.iadd, 1) := by decide +kernel
theorem dX5_isText_37 : decode cX5_isText 37 = .ok (.putfield 122, 3) := by decide +kernel
theorem dX5_isText_40 : decode cX5_isText 40 = .ok (.aload_n 0, 1) := by decide +kernel
theorem dX5_isText_41 : decode cX5_isText 41 = .ok (.bipush 44, 2) := by decide +kernel
theorem dX5_isText_43 : decode cX5_isText 43 = .ok (.bipush 44, 2) := by decide +kernel
theorem dX5_isText_45 : decode cX5_isText 45 = .ok (.invokevirtual 115, 3) := by decide +kernel
theorem dX5_isText_48 : decode cX5_isText 48 = .ok (.istore_n 1, 1) := by decide +kernel
theorem dX5_isText_49 : decode cX5_isText 49 = .ok (.aload_n 0, 1) := by decide +kernel
theorem dX5_isText_50 : decode cX5_isText 50 = .ok (.dup, 1) := by decide +kernel
theorem dX5_isText_51 : decode cX5_isText 51 = .ok (.getfield 108, 3) := by decide +kernel
theorem dX5_isText_54 : decode cX5_isText 54 = .ok (.iload_n 1, 1) := by decide +kernel
theorem dX5_isText_55 : decode cX5_isText 55 = .ok (.ifCond .eq 7, 3) := by decide +kernel
theorem dX5_isText_58 : decode cX5_isText 58 = .ok (.iconst 1, 1) := by decide +kernel
theorem dX5_isText_59 : decode cX5_isText 59 = .ok (.goto 4, 3) := by decide +kernel
theorem dX5_isText_62 : decode cX5_isText 62 = .ok (.iconst 0, 1) := by decide +kernel
theorem dX5_isText_63 : decode cX5_isText 63 = .ok (.iadd, 1) := by decide +kernel
theorem dX5_isText_64 : decode cX5_isText 64 = .ok (.putfield 108, 3) := by decide +kernel
theorem dX5_isText_67 : decode cX5_isText 67 = .ok (.goto (-50), 3) := by decide +kernel
theorem dX5_isText_70 : decode cX5_isText 70 = .ok (.aload_n 0, 1) := by decide +kernel
theorem dX5_isText_71 : decode cX5_isText 71 = .ok (.aload_n 0, 1) := by decide +kernel
theorem dX5_isText_72 : decode cX5_isText 72 = .ok (.getfield 108, 3) := by decide +kernel
theorem dX5_isText_75 : decode cX5_isText 75 = .ok (.aload_n 0, 1) := by decide +kernel
theorem dX5_isText_76 : decode cX5_isText 76 = .ok (.getfield 105, 3) := by decide +kernel
theorem dX5_isText_79 : decode cX5_isText 79 = .ok (.if_icmp .ge 7, 3) := by decide +kernel
theorem dX5_isText_82 : decode cX5_isText 82 = .ok (.iconst 1, 1) := by decide +kernel
theorem dX5_isText_83 : decode cX5_isText 83 = .ok (.goto 4, 3) := by decide +kernel
theorem dX5_isText_86 : decode cX5_isText 86 = .ok (.iconst 0, 1) := by decide +kernel
theorem dX5_isText_87 : decode cX5_isText 87 = .ok (.putfield 111, 3) := by decide +kernel
theorem dX5_isText_90 : decode cX5_isText 90 = .ok (.aload_n 0, 1) := by decide +kernel
theorem dX5_isText_91 : decode cX5_isText 91 = .ok (.getfield 108, 3) := by decide +kernel
theorem dX5_isText_94 : decode cX5_isText 94 = .ok (.aload_n 0, 1) := by decide +kernel
theorem dX5_isText_95 : decode cX5_isText 95 = .ok (.getfield 105, 3) := by decide +kernel
theorem dX5_isText_98 : decode cX5_isText 98 = .ok (.if_icmp .ne 7, 3) := by decide +kernel
theorem dX5_isText_101 : decode cX5_isText 101 = .ok (.iconst 1, 1) := by decide +kernel
theorem dX5_isText_102 : decode cX5_isText 102 = .ok (.goto 4, 3) := by decide +kernel
theorem dX5_isText_105 : decode cX5_isText 105 = .ok (.iconst 0, 1) := by decide +kernel
theorem dX5_isText_106 : decode cX5_isText 106 = .ok (.ireturn, 1) := by decide +kernel
theorem dX5_firstError_0 : decode cX5_firstError 0 = .ok (.aload_n 0, 1) := by decide +kernel
theorem dX5_firstError_1 : decode cX5_firstError 1 = .ok (.iconst 0, 1) := by decide +kernel
theorem dX5_firstError_2 : decode cX5_firstError 2 = .ok (.putfield 22, 3) := by decide +kernel
theorem dX5_firstError_5 : decode cX5_firstError 5 = .ok (.aload_n 0, 1) := by decide +kernel
theorem dX5_firstError_6 : decode cX5_firstError 6 = .ok (.invokevirtual 131, 3) := by decide +kernel
theorem dX5_firstError_9 : decode cX5_firstError 9 = .ok (.istore_n 1, 1) := by decide +kernel
theorem dX5_firstError_10 : decode cX5_firstError 10 = .ok (.iload_n 1, 1) := by decide +kernel
theorem dX5_firstError_11 : decode cX5_firstError 11 = .ok (.ifCond .ne 17, 3) := by decide +kernel
theorem dX5_firstError_14 : decode cX5_firstError 14 = .ok (.aload_n 0, 1) := by decide +kernel
theorem dX5_firstError_15 : decode cX5_firstError 15 = .ok (.getfield 111, 3) := by decide +kernel
theorem dX5_firstError_18 : decode cX5_firstError 18 = .ok (.ifCond .eq 10, 3) := by decide +kernel
theorem dX5_firstError_21 : decode cX5_firstError 21 = .ok (.aload_n 0, 1) := by decide +kernel
theorem dX5_firstError_22 : decode cX5_firstError 22 = .ok (.getfield 108, 3) := by decide +kernel
theorem dX5_firstError_25 : decode cX5_firstError 25 = .ok (.goto 7, 3) := by decide +kernel
theorem dX5_firstError_28 : decode cX5_firstError 28 = .ok (.aload_n 0, 1) := by decide +kernel
theorem dX5_firstError_29 : decode cX5_firstError 29 = .ok (.getfield 105, 3) := by decide +kernel
theorem dX5_firstError_32 : decode cX5_firstError 32 = .ok (.ireturn, 1) := by decide +kernel
theorem dX5_buyAll_0 : decode cX5_buyAll 0 = .ok (.aload_n 0, 1) := by decide +kernel
theorem dX5_buyAll_1 : decode cX5_buyAll 1 = .ok (.iconst 0, 1) := by decide +kernel
theorem dX5_buyAll_2 : decode cX5_buyAll 2 = .ok (.putfield 22, 3) := by decide +kernel
theorem dX5_buyAll_5 : decode cX5_buyAll 5 = .ok (.aload_n 0, 1) := by decide +kernel
theorem dX5_buyAll_6 : decode cX5_buyAll 6 = .ok (.invokevirtual 131, 3) := by decide +kernel
theorem dX5_buyAll_9 : decode cX5_buyAll 9 = .ok (.ifCond .ne 9, 3) := by decide +kernel
theorem dX5_buyAll_12 : decode cX5_buyAll 12 = .ok (.aload_n 0, 1) := by decide +kernel
theorem dX5_buyAll_13 : decode cX5_buyAll 13 = .ok (.iconst 1, 1) := by decide +kernel
theorem dX5_buyAll_14 : decode cX5_buyAll 14 = .ok (.invokevirtual 33, 3) := by decide +kernel
theorem dX5_buyAll_17 : decode cX5_buyAll 17 = .ok (.ireturn, 1) := by decide +kernel
theorem dX5_buyAll_18 : decode cX5_buyAll 18 = .ok (.aload_n 0, 1) := by decide +kernel
theorem dX5_buyAll_19 : decode cX5_buyAll 19 = .ok (.invokevirtual 77, 3) := by decide +kernel
theorem dX5_buyAll_22 : decode cX5_buyAll 22 = .ok (.aload_n 0, 1) := by decide +kernel
theorem dX5_buyAll_23 : decode cX5_buyAll 23 = .ok (.iconst 0, 1) := by decide +kernel
theorem dX5_buyAll_24 : decode cX5_buyAll 24 = .ok (.putfield 105, 3) := by decide +kernel
theorem dX5_buyAll_27 : decode cX5_buyAll 27 = .ok (.iconst 0, 1) := by decide +kernel
theorem dX5_buyAll_28 : decode cX5_buyAll 28 = .ok (.istore_n 1, 1) := by decide +kernel
theorem dX5_buyAll_29 : decode cX5_buyAll 29 = .ok (.iload_n 1, 1) := by decide +kernel
theorem dX5_buyAll_30 : decode cX5_buyAll 30 = .ok (.aload_n 0, 1) := by decide +kernel
theorem dX5_buyAll_31 : decode cX5_buyAll 31 = .ok (.getfield 122, 3) := by decide +kernel
theorem dX5_buyAll_34 : decode cX5_buyAll 34 = .ok (.if_icmp .ge 68, 3) := by decide +kernel
theorem dX5_buyAll_37 : decode cX5_buyAll 37 = .ok (.aload_n 0, 1) := by decide +kernel
theorem dX5_buyAll_38 : decode cX5_buyAll 38 = .ok (.aload_n 0, 1) := by decide +kernel
theorem dX5_buyAll_39 : decode cX5_buyAll 39 = .ok (.getfield 19, 3) := by decide +kernel
theorem dX5_buyAll_42 : decode cX5_buyAll 42 = .ok (.iconst 3, 1) := by decide +kernel
theorem dX5_buyAll_43 : decode cX5_buyAll 43 = .ok (.iload_n 1, 1) := by decide +kernel
theorem dX5_buyAll_44 : decode cX5_buyAll 44 = .ok (.imul, 1) := by decide +kernel
theorem dX5_buyAll_45 : decode cX5_buyAll 45 = .ok (.iaload, 1) := by decide +kernel
theorem dX5_buyAll_46 : decode cX5_buyAll 46 = .ok (.aload_n 0, 1) := by decide +kernel
theorem dX5_buyAll_47 : decode cX5_buyAll 47 = .ok (.getfield 19, 3) := by decide +kernel
theorem dX5_buyAll_50 : decode cX5_buyAll 50 = .ok (.iconst 3, 1) := by decide +kernel
theorem dX5_buyAll_51 : decode cX5_buyAll 51 = .ok (.iload_n 1, 1) := by decide +kernel
theorem dX5_buyAll_52 : decode cX5_buyAll 52 = .ok (.imul, 1) := by decide +kernel
theorem dX5_buyAll_53 : decode cX5_buyAll 53 = .ok (.iconst 1, 1) := by decide +kernel
theorem dX5_buyAll_54 : decode cX5_buyAll 54 = .ok (.iadd, 1) := by decide +kernel
theorem dX5_buyAll_55 : decode cX5_buyAll 55 = .ok (.iaload, 1) := by decide +kernel
theorem dX5_buyAll_56 : decode cX5_buyAll 56 = .ok (.invokevirtual 73, 3) := by decide +kernel
theorem dX5_buyAll_59 : decode cX5_buyAll 59 = .ok (.ifCond .eq 43, 3) := by decide +kernel
theorem dX5_buyAll_62 : decode cX5_buyAll 62 = .ok (.aload_n 0, 1) := by decide +kernel
theorem dX5_buyAll_63 : decode cX5_buyAll 63 = .ok (.aload_n 0, 1) := by decide +kernel
theorem dX5_buyAll_64 : decode cX5_buyAll 64 = .ok (.getfield 19, 3) := by decide +kernel
theorem dX5_buyAll_67 : decode cX5_buyAll 67 = .ok (.iconst 3, 1) := by decide +kernel
theorem dX5_buyAll_68 : decode cX5_buyAll 68 = .ok (.iload_n 1, 1) := by decide +kernel
theorem dX5_buyAll_69 : decode cX5_buyAll 69 = .ok (.imul, 1) := by decide +kernel
theorem dX5_buyAll_70 : decode cX5_buyAll 70 = .ok (.iaload, 1) := by decide +kernel
theorem dX5_buyAll_71 : decode cX5_buyAll 71 = .ok (.aload_n 0, 1) := by decide +kernel
theorem dX5_buyAll_72 : decode cX5_buyAll 72 = .ok (.getfield 19, 3) := by decide +kernel
theorem dX5_buyAll_75 : decode cX5_buyAll 75 = .ok (.iconst 3, 1) := by decide +kernel
theorem dX5_buyAll_76 : decode cX5_buyAll 76 = .ok (.iload_n 1, 1) := by decide +kernel
theorem dX5_buyAll_77 : decode cX5_buyAll 77 = .ok (.imul, 1) := by decide +kernel
theorem dX5_buyAll_78 : decode cX5_buyAll 78 = .ok (.iconst 1, 1) := by decide +kernel
theorem dX5_buyAll_79 : decode cX5_buyAll 79 = .ok (.iadd, 1) := by decide +kernel
theorem dX5_buyAll_80 : decode cX5_buyAll 80 = .ok (.iaload, 1) := by decide +kernel
theorem dX5_buyAll_81 : decode cX5_buyAll 81 = .ok (.aload_n 0, 1) := by decide +kernel
theorem dX5_buyAll_82 : decode cX5_buyAll 82 = .ok (.getfield 19, 3) := by decide +kernel
theorem dX5_buyAll_85 : decode cX5_buyAll 85 = .ok (.iconst 3, 1) := by decide +kernel
theorem dX5_buyAll_86 : decode cX5_buyAll 86 = .ok (.iload_n 1, 1) := by decide +kernel
theorem dX5_buyAll_87 : decode cX5_buyAll 87 = .ok (.imul, 1) := by decide +kernel
theorem dX5_buyAll_88 : decode cX5_buyAll 88 = .ok (.iconst 2, 1) := by decide +kernel
theorem dX5_buyAll_89 : decode cX5_buyAll 89 = .ok (.iadd, 1) := by decide +kernel
theorem dX5_buyAll_90 : decode cX5_buyAll 90 = .ok (.iaload, 1) := by decide +kernel
theorem dX5_buyAll_91 : decode cX5_buyAll 91 = .ok (.iconst 3, 1) := by decide +kernel
theorem dX5_buyAll_92 : decode cX5_buyAll 92 = .ok (.invokevirtual 80, 3) := by decide +kernel
theorem dX5_buyAll_95 : decode cX5_buyAll 95 = .ok (.pop, 1) := by decide +kernel
theorem dX5_buyAll_96 : decode cX5_buyAll 96 = .ok (.iinc 1 1, 3) := by decide +kernel
theorem dX5_buyAll_99 : decode cX5_buyAll 99 = .ok (.goto (-70), 3) := by decide +kernel
theorem dX5_buyAll_102 : decode cX5_buyAll 102 = .ok (.iload_n 1, 1) := by decide +kernel
theorem dX5_buyAll_103 : decode cX5_buyAll 103 = .ok (.ireturn, 1) := by decide +kernel
theorem dX5_ofHose_0 : decode cX5_ofHose 0 = .ok (.iload_n 2, 1) := by decide +kernel
theorem dX5_ofHose_1 : decode cX5_ofHose 1 = .ok (.tableswitch 91 5 9 #[35, 47, 54, 62, 85], 35) := by decide +kernel
theorem dX5_ofHose_36 : decode cX5_ofHose 36 = .ok (.aload_n 0, 1) := by decide +kernel
theorem dX5_ofHose_37 : decode cX5_ofHose 37 = .ok (.iload_n 1, 1) := by decide +kernel
theorem dX5_ofHose_38 : decode cX5_ofHose 38 = .ok (.aload_n 0, 1) := by decide +kernel
theorem dX5_ofHose_39 : decode cX5_ofHose 39 = .ok (.iload_n 1, 1) := by decide +kernel
theorem dX5_ofHose_40 : decode cX5_ofHose 40 = .ok (.iconst 4, 1) := by decide +kernel
theorem dX5_ofHose_41 : decode cX5_ofHose 41 = .ok (.invokevirtual 37, 3) := by decide +kernel
theorem dX5_ofHose_44 : decode cX5_ofHose 44 = .ok (.invokevirtual 50, 3) := by decide +kernel
theorem dX5_ofHose_47 : decode cX5_ofHose 47 = .ok (.ireturn, 1) := by decide +kernel
theorem dX5_ofHose_48 : decode cX5_ofHose 48 = .ok (.aload_n 0, 1) := by decide +kernel
theorem dX5_ofHose_49 : decode cX5_ofHose 49 = .ok (.iload_n 1, 1) := by decide +kernel
theorem dX5_ofHose_50 : decode cX5_ofHose 50 = .ok (.iconst 5, 1) := by decide +kernel
theorem dX5_ofHose_51 : decode cX5_ofHose 51 = .ok (.invokevirtual 37, 3) := by decide +kernel
theorem dX5_ofHose_54 : decode cX5_ofHose 54 = .ok (.ireturn, 1) := by decide +kernel
theorem dX5_ofHose_55 : decode cX5_ofHose 55 = .ok (.aload_n 0, 1) := by decide +kernel
theorem dX5_ofHose_56 : decode cX5_ofHose 56 = .ok (.iload_n 1, 1) := by decide +kernel
theorem dX5_ofHose_57 : decode cX5_ofHose 57 = .ok (.bipush 6, 2) := by decide +kernel
theorem dX5_ofHose_59 : decode cX5_ofHose 59 = .ok (.invokevirtual 37, 3) := by decide +kernel
theorem dX5_ofHose_62 : decode cX5_ofHose 62 = .ok (.ireturn, 1) := by decide +kernel
theorem dX5_ofHose_63 : decode cX5_ofHose 63 = .ok (.aload_n 0, 1) := by decide +kernel
theorem dX5_ofHose_64 : decode cX5_ofHose 64 = .ok (.iload_n 1, 1) := by decide +kernel
theorem dX5_ofHose_65 : decode cX5_ofHose 65 = .ok (.bipush 6, 2) := by decide +kernel
theorem dX5_ofHose_67 : decode cX5_ofHose 67 = .ok (.invokevirtual 37, 3) := by decide +kernel
theorem dX5_ofHose_70 : decode cX5_ofHose 70 = .ok (.iconst 4, 1) := by decide +kernel
theorem dX5_ofHose_71 : decode cX5_ofHose 71 = .ok (.if_icmp .ne 13, 3) := by decide +kernel
theorem dX5_ofHose_74 : decode cX5_ofHose 74 = .ok (.aload_n 0, 1) := by decide +kernel
theorem dX5_ofHose_75 : decode cX5_ofHose 75 = .ok (.iload_n 1, 1) := by decide +kernel
theorem dX5_ofHose_76 : decode cX5_ofHose 76 = .ok (.bipush 7, 2) := by decide +kernel
theorem dX5_ofHose_78 : decode cX5_ofHose 78 = .ok (.invokevirtual 37, 3) := by decide +kernel
theorem dX5_ofHose_81 : decode cX5_ofHose 81 = .ok (.goto 4, 3) := by decide +kernel
theorem dX5_ofHose_84 : decode cX5_ofHose 84 = .ok (.iconst (-1), 1) := by decide +kernel
theorem dX5_ofHose_85 : decode cX5_ofHose 85 = .ok (.ireturn, 1) := by decide +kernel
theorem dX5_ofHose_86 : decode cX5_ofHose 86 = .ok (.aload_n 0, 1) := by decide +kernel
theorem dX5_ofHose_87 : decode cX5_ofHose 87 = .ok (.iload_n 1, 1) := by decide +kernel
theorem dX5_ofHose_88 : decode cX5_ofHose 88 = .ok (.invokevirtual 44, 3) := by decide +kernel
theorem dX5_ofHose_91 : decode cX5_ofHose 91 = .ok (.ireturn, 1) := by decide +kernel
theorem dX5_ofHose_92 : decode cX5_ofHose 92 = .ok (.aload_n 0, 1) := by decide +kernel
theorem dX5_ofHose_93 : decode cX5_ofHose 93 = .ok (.iload_n 1, 1) := by decide +kernel
theorem dX5_ofHose_94 : decode cX5_ofHose 94 = .ok (.iload_n 2, 1) := by decide +kernel
theorem dX5_ofHose_95 : decode cX5_ofHose 95 = .ok (.invokevirtual 37, 3) := by decide +kernel
theorem dX5_ofHose_98 : decode cX5_ofHose 98 = .ok (.ireturn, 1) := by decide +kernel
theorem dX5_hose_0 : decode cX5_hose 0 = .ok (.aload_n 0, 1) := by decide +kernel
theorem dX5_hose_1 : decode cX5_hose 1 = .ok (.iconst 0, 1) := by decide +kernel
theorem dX5_hose_2 : decode cX5_hose 2 = .ok (.putfield 22, 3) := by decide +kernel
theorem dX5_hose_5 : decode cX5_hose 5 = .ok (.aload_n 0, 1) := by decide +kernel
theorem dX5_hose_6 : decode cX5_hose 6 = .ok (.iload_n 1, 1) := by decide +kernel
theorem dX5_hose_7 : decode cX5_hose 7 = .ok (.invokevirtual 84, 3) := by decide +kernel
theorem dX5_hose_10 : decode cX5_hose 10 = .ok (.ifCond .ne 9, 3) := by decide +kernel
theorem dX5_hose_13 : decode cX5_hose 13 = .ok (.aload_n 0, 1) := by decide +kernel
theorem dX5_hose_14 : decode cX5_hose 14 = .ok (.iconst 1, 1) := by decide +kernel
theorem dX5_hose_15 : decode cX5_hose 15 = .ok (.invokevirtual 33, 3) := by decide +kernel
theorem dX5_hose_18 : decode cX5_hose 18 = .ok (.ireturn, 1) := by decide +kernel
theorem dX5_hose_19 : decode cX5_hose 19 = .ok (.iload_n 2, 1) := by decide +kernel
theorem dX5_hose_20 : decode cX5_hose 20 = .ok (.iconst 0, 1) := by decide +kernel
theorem dX5_hose_21 : decode cX5_hose 21 = .ok (.bipush 9, 2) := by decide +kernel
theorem dX5_hose_23 : decode cX5_hose 23 = .ok (.invokestatic 26, 3) := by decide +kernel
theorem dX5_hose_26 : decode cX5_hose 26 = .ok (.ifCond .eq 12, 3) := by decide +kernel
theorem dX5_hose_29 : decode cX5_hose 29 = .ok (.aload_n 0, 1) := by decide +kernel
theorem dX5_hose_30 : decode cX5_hose 30 = .ok (.iload_n 1, 1) := by decide +kernel
theorem dX5_hose_31 : decode cX5_hose 31 = .ok (.iload_n 2, 1) := by decide +kernel
theorem dX5_hose_32 : decode cX5_hose 32 = .ok (.invokevirtual 134, 3) := by decide +kernel
theorem dX5_hose_35 : decode cX5_hose 35 = .ok (.goto 8, 3) := by decide +kernel
theorem dX5_hose_38 : decode cX5_hose 38 = .ok (.aload_n 0, 1) := by decide +kernel
theorem dX5_hose_39 : decode cX5_hose 39 = .ok (.iconst 2, 1) := by decide +kernel
theorem dX5_hose_40 : decode cX5_hose 40 = .ok (.invokevirtual 33, 3) := by decide +kernel
theorem dX5_hose_43 : decode cX5_hose 43 = .ok (.ireturn, 1) := by decide +kernel
theorem dX5_on_0 : decode cX5_on 0 = .ok (.iconst 0, 1) := by decide +kernel
theorem dX5_on_1 : decode cX5_on 1 = .ok (.istore_n 3, 1) := by decide +kernel
theorem dX5_on_2 : decode cX5_on 2 = .ok (.iconst 0, 1) := by decide +kernel
theorem dX5_on_3 : decode cX5_on 3 = .ok (.istore 4, 2) := by decide +kernel
theorem dX5_on_5 : decode cX5_on 5 = .ok (.iload 4, 2) := by decide +kernel
theorem dX5_on_7 : decode cX5_on 7 = .ok (.aload_n 0, 1) := by decide +kernel
theorem dX5_on_8 : decode cX5_on 8 = .ok (.getfield 7, 3) := by decide +kernel
theorem dX5_on_11 : decode cX5_on 11 = .ok (.iconst 5, 1) := by decide +kernel
theorem dX5_on_12 : decode cX5_on 12 = .ok (.iaload, 1) := by decide +kernel
theorem dX5_on_13 : decode cX5_on 13 = .ok (.if_icmp .ge 42, 3) := by decide +kernel
theorem dX5_on_16 : decode cX5_on 16 = .ok (.iload_n 3, 1) := by decide +kernel
theorem dX5_on_17 : decode cX5_on 17 = .ok (.aload_n 0, 1) := by decide +kernel
theorem dX5_on_18 : decode cX5_on 18 = .ok (.iload 4, 2) := by decide +kernel
theorem dX5_on_20 : decode cX5_on 20 = .ok (.bipush 6, 2) := by decide +kernel
theorem dX5_on_22 : decode cX5_on 22 = .ok (.invokevirtual 37, 3) := by decide +kernel
theorem dX5_on_25 : decode cX5_on 25 = .ok (.iload_n 1, 1) := by decide +kernel
theorem dX5_on_26 : decode cX5_on 26 = .ok (.if_icmp .ne 20, 3) := by decide +kernel
theorem dX5_on_29 : decode cX5_on 29 = .ok (.iload_n 2, 1) := by decide +kernel
theorem dX5_on_30 : decode cX5_on 30 = .ok (.ifCond .eq 12, 3) := by decide +kernel
theorem dX5_on_33 : decode cX5_on 33 = .ok (.aload_n 0, 1) := by decide +kernel
theorem dX5_on_34 : decode cX5_on 34 = .ok (.iload 4, 2) := by decide +kernel
theorem dX5_on_36 : decode cX5_on 36 = .ok (.invokevirtual 62, 3) := by decide +kernel
theorem dX5_on_39 : decode cX5_on 39 = .ok (.ifCond .eq 7, 3) := by decide +kernel
theorem dX5_on_42 : decode cX5_on 42 = .ok (.iconst 1, 1) := by decide +kernel
theorem dX5_on_43 : decode cX5_on 43 = .ok (.goto 4, 3) := by decide +kernel
theorem dX5_on_46 : decode cX5_on 46 = .ok (.iconst 0, 1) := by decide +kernel
theorem dX5_on_47 : decode cX5_on 47 = .ok (.iadd, 1) := by decide +kernel
theorem dX5_on_48 : decode cX5_on 48 = .ok (.istore_n 3, 1) := by decide +kernel
theorem dX5_on_49 : decode cX5_on 49 = .ok (.iinc 4 1, 3) := by decide +kernel
theorem dX5_on_52 : decode cX5_on 52 = .ok (.goto (-47), 3) := by decide +kernel
theorem dX5_on_55 : decode cX5_on 55 = .ok (.iload_n 3, 1) := by decide +kernel
theorem dX5_on_56 : decode cX5_on 56 = .ok (.ireturn, 1) := by decide +kernel
theorem dX5_ofTruck_0 : decode cX5_ofTruck 0 = .ok (.aload_n 0, 1) := by decide +kernel
theorem dX5_ofTruck_1 : decode cX5_ofTruck 1 = .ok (.iload_n 1, 1) := by decide +kernel
theorem dX5_ofTruck_2 : decode cX5_ofTruck 2 = .ok (.iconst (-1), 1) := by decide +kernel
theorem dX5_ofTruck_3 : decode cX5_ofTruck 3 = .ok (.invokevirtual 137, 3) := by decide +kernel
theorem dX5_ofTruck_6 : decode cX5_ofTruck 6 = .ok (.istore_n 3, 1) := by decide +kernel
theorem dX5_ofTruck_7 : decode cX5_ofTruck 7 = .ok (.iload_n 2, 1) := by decide +kernel
theorem dX5_ofTruck_8 : decode cX5_ofTruck 8 = .ok (.tableswitch 81 0 5 #[40, 50, 55, 55, 71, 76], 40) := by decide +kernel
theorem dX5_ofTruck_48 : decode cX5_ofTruck 48 = .ok (.aload_n 0, 1) := by decide +kernel
theorem dX5_ofTruck_49 : decode cX5_ofTruck 49 = .ok (.getfield 7, 3) := by decide +kernel
theorem dX5_ofTruck_52 : decode cX5_ofTruck 52 = .ok (.bipush 9, 2) := by decide +kernel
theorem dX5_ofTruck_54 : decode cX5_ofTruck 54 = .ok (.iload_n 1, 1) := by decide +kernel
theorem dX5_ofTruck_55 : decode cX5_ofTruck 55 = .ok (.iadd, 1) := by decide +kernel
theorem dX5_ofTruck_56 : decode cX5_ofTruck 56 = .ok (.iaload, 1) := by decide +kernel
theorem dX5_ofTruck_57 : decode cX5_ofTruck 57 = .ok (.ireturn, 1) := by decide +kernel
theorem dX5_ofTruck_58 : decode cX5_ofTruck 58 = .ok (.aload_n 0, 1) := by decide +kernel
theorem dX5_ofTruck_59 : decode cX5_ofTruck 59 = .ok (.getfield 53, 3) := by decide +kernel
theorem dX5_ofTruck_62 : decode cX5_ofTruck 62 = .ok (.ireturn, 1) := by decide +kernel
theorem dX5_ofTruck_63 : decode cX5_ofTruck 63 = .ok (.aload_n 0, 1) := by decide +kernel
theorem dX5_ofTruck_64 : decode cX5_ofTruck 64 = .ok (.iload_n 1, 1) := by decide +kernel
theorem dX5_ofTruck_65 : decode cX5_ofTruck 65 = .ok (.iload_n 2, 1) := by decide +kernel
theorem dX5_ofTruck_66 : decode cX5_ofTruck 66 = .ok (.iconst 3, 1) := by decide +kernel
theorem dX5_ofTruck_67 : decode cX5_ofTruck 67 = .ok (.if_icmp .ne 7, 3) := by decide +kernel
theorem dX5_ofTruck_70 : decode cX5_ofTruck 70 = .ok (.iconst 1, 1) := by decide +kernel
theorem dX5_ofTruck_71 : decode cX5_ofTruck 71 = .ok (.goto 4, 3) := by decide +kernel
theorem dX5_ofTruck_74 : decode cX5_ofTruck 74 = .ok (.iconst 0, 1) := by decide +kernel
theorem dX5_ofTruck_75 : decode cX5_ofTruck 75 = .ok (.invokevirtual 140, 3) := by decide +kernel
theorem dX5_ofTruck_78 : decode cX5_ofTruck 78 = .ok (.ireturn, 1) := by decide +kernel
theorem dX5_ofTruck_79 : decode cX5_ofTruck 79 = .ok (.aload_n 0, 1) := by decide +kernel
theorem dX5_ofTruck_80 : decode cX5_ofTruck 80 = .ok (.getfield 56, 3) := by decide +kernel
theorem dX5_ofTruck_83 : decode cX5_ofTruck 83 = .ok (.ireturn, 1) := by decide +kernel
theorem dX5_ofTruck_84 : decode cX5_ofTruck 84 = .ok (.aload_n 0, 1) := by decide +kernel
theorem dX5_ofTruck_85 : decode cX5_ofTruck 85 = .ok (.getfield 59, 3) := by decide +kernel
theorem dX5_ofTruck_88 : decode cX5_ofTruck 88 = .ok (.ireturn, 1) := by decide +kernel
theorem dX5_ofTruck_89 : decode cX5_ofTruck 89 = .ok (.iload_n 3, 1) := by decide +kernel
theorem dX5_ofTruck_90 : decode cX5_ofTruck 90 = .ok (.ifCond .eq 7, 3) := by decide +kernel
theorem dX5_ofTruck_93 : decode cX5_ofTruck 93 = .ok (.iconst 1, 1) := by decide +kernel
theorem dX5_ofTruck_94 : decode cX5_ofTruck 94 = .ok (.goto 4, 3) := by decide +kernel
theorem dX5_ofTruck_97 : decode cX5_ofTruck 97 = .ok (.iconst 0, 1) := by decide +kernel
theorem dX5_ofTruck_98 : decode cX5_ofTruck 98 = .ok (.ireturn, 1) := by decide +kernel
theorem dX5_truck_0 : decode cX5_truck 0 = .ok (.aload_n 0, 1) := by decide +kernel
theorem dX5_truck_1 : decode cX5_truck 1 = .ok (.iconst 0, 1) := by decide +kernel
theorem dX5_truck_2 : decode cX5_truck 2 = .ok (.putfield 22, 3) := by decide +kernel
theorem dX5_truck_5 : decode cX5_truck 5 = .ok (.iload_n 1, 1) := by decide +kernel
theorem dX5_truck_6 : decode cX5_truck 6 = .ok (.invokestatic 99, 3) := by decide +kernel
theorem dX5_truck_9 : decode cX5_truck 9 = .ok (.ifCond .ne 9, 3) := by decide +kernel
theorem dX5_truck_12 : decode cX5_truck 12 = .ok (.aload_n 0, 1) := by decide +kernel
theorem dX5_truck_13 : decode cX5_truck 13 = .ok (.iconst 1, 1) := by decide +kernel
theorem dX5_truck_14 : decode cX5_truck 14 = .ok (.invokevirtual 33, 3) := by decide +kernel
theorem dX5_truck_17 : decode cX5_truck 17 = .ok (.ireturn, 1) := by decide +kernel
theorem dX5_truck_18 : decode cX5_truck 18 = .ok (.iload_n 2, 1) := by decide +kernel
theorem dX5_truck_19 : decode cX5_truck 19 = .ok (.iconst 0, 1) := by decide +kernel
theorem dX5_truck_20 : decode cX5_truck 20 = .ok (.bipush 6, 2) := by decide +kernel
theorem dX5_truck_22 : decode cX5_truck 22 = .ok (.invokestatic 26, 3) := by decide +kernel
theorem dX5_truck_25 : decode cX5_truck 25 = .ok (.ifCond .eq 12, 3) := by decide +kernel
theorem dX5_truck_28 : decode cX5_truck 28 = .ok (.aload_n 0, 1) := by decide +kernel
theorem dX5_truck_29 : decode cX5_truck 29 = .ok (.iload_n 1, 1) := by decide +kernel
theorem dX5_truck_30 : decode cX5_truck 30 = .ok (.iload_n 2, 1) := by decide +kernel
theorem dX5_truck_31 : decode cX5_truck 31 = .ok (.invokevirtual 144, 3) := by decide +kernel
theorem dX5_truck_34 : decode cX5_truck 34 = .ok (.goto 8, 3) := by decide +kernel
theorem dX5_truck_37 : decode cX5_truck 37 = .ok (.aload_n 0, 1) := by decide +kernel
theorem dX5_truck_38 : decode cX5_truck 38 = .ok (.iconst 2, 1) := by decide +kernel
theorem dX5_truck_39 : decode cX5_truck 39 = .ok (.invokevirtual 33, 3) := by decide +kernel
theorem dX5_truck_42 : decode cX5_truck 42 = .ok (.ireturn, 1) := by decide +kernel
theorem dX5_having_0 : decode cX5_having 0 = .ok (.iconst 0, 1) := by decide +kernel
theorem dX5_having_1 : decode cX5_having 1 = .ok (.istore_n 2, 1) := by decide +kernel
theorem dX5_having_2 : decode cX5_having 2 = .ok (.iconst 0, 1) := by decide +kernel
theorem dX5_having_3 : decode cX5_having 3 = .ok (.istore_n 3, 1) := by decide +kernel
theorem dX5_having_4 : decode cX5_having 4 = .ok (.iload_n 3, 1) := by decide +kernel
theorem dX5_having_5 : decode cX5_having 5 = .ok (.aload_n 0, 1) := by decide +kernel
theorem dX5_having_6 : decode cX5_having 6 = .ok (.getfield 7, 3) := by decide +kernel
theorem dX5_having_9 : decode cX5_having 9 = .ok (.iconst 5, 1) := by decide +kernel
theorem dX5_having_10 : decode cX5_having 10 = .ok (.iaload, 1) := by decide +kernel
theorem dX5_having_11 : decode cX5_having 11 = .ok (.if_icmp .ge 26, 3) := by decide +kernel
theorem dX5_having_14 : decode cX5_having 14 = .ok (.iload_n 2, 1) := by decide +kernel
theorem dX5_having_15 : decode cX5_having 15 = .ok (.aload_n 0, 1) := by decide +kernel
theorem dX5_having_16 : decode cX5_having 16 = .ok (.iload_n 3, 1) := by decide +kernel
theorem dX5_having_17 : decode cX5_having 17 = .ok (.invokevirtual 44, 3) := by decide +kernel
theorem dX5_having_20 : decode cX5_having 20 = .ok (.iload_n 1, 1) := by decide +kernel
theorem dX5_having_21 : decode cX5_having 21 = .ok (.if_icmp .ne 7, 3) := by decide +kernel
theorem dX5_having_24 : decode cX5_having 24 = .ok (.iconst 1, 1) := by decide +kernel
theorem dX5_having_25 : decode cX5_having 25 = .ok (.goto 4, 3) := by decide +kernel
theorem dX5_having_28 : decode cX5_having 28 = .ok (.iconst 0, 1) := by decide +kernel
theorem dX5_having_29 : decode cX5_having 29 = .ok (.iadd, 1) := by decide +kernel
theorem dX5_having_30 : decode cX5_having 30 = .ok (.istore_n 2, 1) := by decide +kernel
theorem dX5_having_31 : decode cX5_having 31 = .ok (.iinc 3 1, 3) := by decide +kernel
theorem dX5_having_34 : decode cX5_having 34 = .ok (.goto (-30), 3) := by decide +kernel
theorem dX5_having_37 : decode cX5_having 37 = .ok (.iload_n 2, 1) := by decide +kernel
theorem dX5_having_38 : decode cX5_having 38 = .ok (.ireturn, 1) := by decide +kernel
theorem dX5_counted_0 : decode cX5_counted 0 = .ok (.iload_n 1, 1) := by decide +kernel
theorem dX5_counted_1 : decode cX5_counted 1 = .ok (.tableswitch 113 3 10 #[47, 47, 47, 71, 95, 95, 95, 108], 47) := by decide +kernel
theorem dX5_counted_48 : decode cX5_counted 48 = .ok (.aload_n 0, 1) := by decide +kernel
theorem dX5_counted_49 : decode cX5_counted 49 = .ok (.iload_n 1, 1) := by decide +kernel
theorem dX5_counted_50 : decode cX5_counted 50 = .ok (.iconst 3, 1) := by decide +kernel
theorem dX5_counted_51 : decode cX5_counted 51 = .ok (.if_icmp .ne 7, 3) := by decide +kernel
theorem dX5_counted_54 : decode cX5_counted 54 = .ok (.iconst 1, 1) := by decide +kernel
theorem dX5_counted_55 : decode cX5_counted 55 = .ok (.goto 13, 3) := by decide +kernel
theorem dX5_counted_58 : decode cX5_counted 58 = .ok (.iload_n 1, 1) := by decide +kernel
theorem dX5_counted_59 : decode cX5_counted 59 = .ok (.iconst 4, 1) := by decide +kernel
theorem dX5_counted_60 : decode cX5_counted 60 = .ok (.if_icmp .ne 7, 3) := by decide +kernel
theorem dX5_counted_63 : decode cX5_counted 63 = .ok (.iconst 0, 1) := by decide +kernel
theorem dX5_counted_64 : decode cX5_counted 64 = .ok (.goto 4, 3) := by decide +kernel
theorem dX5_counted_67 : decode cX5_counted 67 = .ok (.iconst 2, 1) := by decide +kernel
theorem dX5_counted_68 : decode cX5_counted 68 = .ok (.invokevirtual 147, 3) := by decide +kernel
theorem dX5_counted_71 : decode cX5_counted 71 = .ok (.ireturn, 1) := by decide +kernel
theorem dX5_counted_72 : decode cX5_counted 72 = .ok (.aload_n 0, 1) := by decide +kernel
theorem dX5_counted_73 : decode cX5_counted 73 = .ok (.iconst 0, 1) := by decide +kernel
theorem dX5_counted_74 : decode cX5_counted 74 = .ok (.bipush 6, 2) := by decide +kernel
theorem dX5_counted_76 : decode cX5_counted 76 = .ok (.invokevirtual 144, 3) := by decide +kernel
theorem dX5_counted_79 : decode cX5_counted 79 = .ok (.aload_n 0, 1) := by decide +kernel
theorem dX5_counted_80 : decode cX5_counted 80 = .ok (.iconst 1, 1) := by decide +kernel
theorem dX5_counted_81 : decode cX5_counted 81 = .ok (.bipush 6, 2) := by decide +kernel
theorem dX5_counted_83 : decode cX5_counted 83 = .ok (.invokevirtual 144, 3) := by decide +kernel
theorem dX5_counted_86 : decode cX5_counted 86 = .ok (.iadd, 1) := by decide +kernel
theorem dX5_counted_87 : decode cX5_counted 87 = .ok (.aload_n 0, 1) := by decide +kernel
theorem dX5_counted_88 : decode cX5_counted 88 = .ok (.iconst 2, 1) := by decide +kernel
theorem dX5_counted_89 : decode cX5_counted 89 = .ok (.bipush 6, 2) := by decide +kernel
theorem dX5_counted_91 : decode cX5_counted 91 = .ok (.invokevirtual 144, 3) := by decide +kernel
theorem dX5_counted_94 : decode cX5_counted 94 = .ok (.iadd, 1) := by decide +kernel
theorem dX5_counted_95 : decode cX5_counted 95 = .ok (.ireturn, 1) := by decide +kernel
theorem dX5_counted_96 : decode cX5_counted 96 = .ok (.aload_n 0, 1) := by decide +kernel
theorem dX5_counted_97 : decode cX5_counted 97 = .ok (.getfield 7, 3) := by decide +kernel
theorem dX5_counted_100 : decode cX5_counted 100 = .ok (.bipush 6, 2) := by decide +kernel
theorem dX5_counted_102 : decode cX5_counted 102 = .ok (.iload_n 1, 1) := by decide +kernel
theorem dX5_counted_103 : decode cX5_counted 103 = .ok (.iadd, 1) := by decide +kernel
theorem dX5_counted_104 : decode cX5_counted 104 = .ok (.bipush 7, 2) := by decide +kernel
theorem dX5_counted_106 : decode cX5_counted 106 = .ok (.isub, 1) := by decide +kernel
theorem dX5_counted_107 : decode cX5_counted 107 = .ok (.iaload, 1) := by decide +kernel
theorem dX5_counted_108 : decode cX5_counted 108 = .ok (.ireturn, 1) := by decide +kernel
theorem dX5_counted_109 : decode cX5_counted 109 = .ok (.aload_n 0, 1) := by decide +kernel
theorem dX5_counted_110 : decode cX5_counted 110 = .ok (.getfield 30, 3) := by decide +kernel
theorem dX5_counted_113 : decode cX5_counted 113 = .ok (.ireturn, 1) := by decide +kernel
theorem dX5_counted_114 : decode cX5_counted 114 = .ok (.aload_n 0, 1) := by decide +kernel
theorem dX5_counted_115 : decode cX5_counted 115 = .ok (.getfield 7, 3) := by decide +kernel
theorem dX5_counted_118 : decode cX5_counted 118 = .ok (.iconst 3, 1) := by decide +kernel
theorem dX5_counted_119 : decode cX5_counted 119 = .ok (.iload_n 1, 1) := by decide +kernel
theorem dX5_counted_120 : decode cX5_counted 120 = .ok (.iadd, 1) := by decide +kernel
theorem dX5_counted_121 : decode cX5_counted 121 = .ok (.iaload, 1) := by decide +kernel
theorem dX5_counted_122 : decode cX5_counted 122 = .ok (.ireturn, 1) := by decide +kernel
theorem dX5_count_0 : decode cX5_count 0 = .ok (.aload_n 0, 1) := by decide +kernel
theorem dX5_count_1 : decode cX5_count 1 = .ok (.iconst 0, 1) := by decide +kernel
theorem dX5_count_2 : decode cX5_count 2 = .ok (.putfield 22, 3) := by decide +kernel
theorem dX5_count_5 : decode cX5_count 5 = .ok (.iload_n 1, 1) := by decide +kernel
theorem dX5_count_6 : decode cX5_count 6 = .ok (.iconst 0, 1) := by decide +kernel
theorem dX5_count_7 : decode cX5_count 7 = .ok (.bipush 10, 2) := by decide +kernel
theorem dX5_count_9 : decode cX5_count 9 = .ok (.invokestatic 26, 3) := by decide +kernel
theorem dX5_count_12 : decode cX5_count 12 = .ok (.ifCond .eq 11, 3) := by decide +kernel
theorem dX5_count_15 : decode cX5_count 15 = .ok (.aload_n 0, 1) := by decide +kernel
theorem dX5_count_16 : decode cX5_count 16 = .ok (.iload_n 1, 1) := by decide +kernel
theorem dX5_count_17 : decode cX5_count 17 = .ok (.invokevirtual 150, 3) := by decide +kernel
theorem dX5_count_20 : decode cX5_count 20 = .ok (.goto 8, 3) := by decide +kernel
theorem dX5_count_23 : decode cX5_count 23 = .ok (.aload_n 0, 1) := by decide +kernel
theorem dX5_count_24 : decode cX5_count 24 = .ok (.iconst 1, 1) := by decide +kernel
theorem dX5_count_25 : decode cX5_count 25 = .ok (.invokevirtual 33, 3) := by decide +kernel
theorem dX5_count_28 : decode cX5_count 28 = .ok (.ireturn, 1) := by decide +kernel
theorem dX5_setting_0 : decode cX5_setting 0 = .ok (.aload_n 0, 1) := by decide +kernel
theorem dX5_setting_1 : decode cX5_setting 1 = .ok (.iconst 0, 1) := by decide +kernel
theorem dX5_setting_2 : decode cX5_setting 2 = .ok (.putfield 22, 3) := by decide +kernel
theorem dX5_setting_5 : decode cX5_setting 5 = .ok (.iload_n 1, 1) := by decide +kernel
theorem dX5_setting_6 : decode cX5_setting 6 = .ok (.iconst 0, 1) := by decide +kernel
theorem dX5_setting_7 : decode cX5_setting 7 = .ok (.iconst 2, 1) := by decide +kernel
theorem dX5_setting_8 : decode cX5_setting 8 = .ok (.invokestatic 26, 3) := by decide +kernel
theorem dX5_setting_11 : decode cX5_setting 11 = .ok (.ifCond .eq 12, 3) := by decide +kernel
theorem dX5_setting_14 : decode cX5_setting 14 = .ok (.aload_n 0, 1) := by decide +kernel
theorem dX5_setting_15 : decode cX5_setting 15 = .ok (.getfield 7, 3) := by decide +kernel
theorem dX5_setting_18 : decode cX5_setting 18 = .ok (.iload_n 1, 1) := by decide +kernel
theorem dX5_setting_19 : decode cX5_setting 19 = .ok (.iaload, 1) := by decide +kernel
theorem dX5_setting_20 : decode cX5_setting 20 = .ok (.goto 8, 3) := by decide +kernel
theorem dX5_setting_23 : decode cX5_setting 23 = .ok (.aload_n 0, 1) := by decide +kernel
theorem dX5_setting_24 : decode cX5_setting 24 = .ok (.iconst 1, 1) := by decide +kernel
theorem dX5_setting_25 : decode cX5_setting 25 = .ok (.invokevirtual 33, 3) := by decide +kernel
theorem dX5_setting_28 : decode cX5_setting 28 = .ok (.ireturn, 1) := by decide +kernel
theorem dX5_tried_0 : decode cX5_tried 0 = .ok (.aload_n 0, 1) := by decide +kernel
theorem dX5_tried_1 : decode cX5_tried 1 = .ok (.iload_n 1, 1) := by decide +kernel
theorem dX5_tried_2 : decode cX5_tried 2 = .ok (.bipush 6, 2) := by decide +kernel
theorem dX5_tried_4 : decode cX5_tried 4 = .ok (.invokevirtual 37, 3) := by decide +kernel
theorem dX5_tried_7 : decode cX5_tried 7 = .ok (.iconst (-1), 1) := by decide +kernel
theorem dX5_tried_8 : decode cX5_tried 8 = .ok (.if_icmp .ne 7, 3) := by decide +kernel
theorem dX5_tried_11 : decode cX5_tried 11 = .ok (.iconst (-1), 1) := by decide +kernel
theorem dX5_tried_12 : decode cX5_tried 12 = .ok (.goto 9, 3) := by decide +kernel
theorem dX5_tried_15 : decode cX5_tried 15 = .ok (.aload_n 0, 1) := by decide +kernel
theorem dX5_tried_16 : decode cX5_tried 16 = .ok (.iload_n 1, 1) := by decide +kernel
theorem dX5_tried_17 : decode cX5_tried 17 = .ok (.iload_n 2, 1) := by decide +kernel
theorem dX5_tried_18 : decode cX5_tried 18 = .ok (.invokevirtual 93, 3) := by decide +kernel
theorem dX5_tried_21 : decode cX5_tried 21 = .ok (.ireturn, 1) := by decide +kernel
theorem dX5_ifTested_0 : decode cX5_ifTested 0 = .ok (.aload_n 0, 1) := by decide +kernel
theorem dX5_ifTested_1 : decode cX5_ifTested 1 = .ok (.iconst 0, 1) := by decide +kernel
theorem dX5_ifTested_2 : decode cX5_ifTested 2 = .ok (.putfield 22, 3) := by decide +kernel
theorem dX5_ifTested_5 : decode cX5_ifTested 5 = .ok (.aload_n 0, 1) := by decide +kernel
theorem dX5_ifTested_6 : decode cX5_ifTested 6 = .ok (.iload_n 1, 1) := by decide +kernel
theorem dX5_ifTested_7 : decode cX5_ifTested 7 = .ok (.invokevirtual 84, 3) := by decide +kernel
theorem dX5_ifTested_10 : decode cX5_ifTested 10 = .ok (.ifCond .ne 9, 3) := by decide +kernel
theorem dX5_ifTested_13 : decode cX5_ifTested 13 = .ok (.aload_n 0, 1) := by decide +kernel
theorem dX5_ifTested_14 : decode cX5_ifTested 14 = .ok (.iconst 1, 1) := by decide +kernel
theorem dX5_ifTested_15 : decode cX5_ifTested 15 = .ok (.invokevirtual 33, 3) := by decide +kernel
theorem dX5_ifTested_18 : decode cX5_ifTested 18 = .ok (.ireturn, 1) := by decide +kernel
theorem dX5_ifTested_19 : decode cX5_ifTested 19 = .ok (.iload_n 2, 1) := by decide +kernel
theorem dX5_ifTested_20 : decode cX5_ifTested 20 = .ok (.iconst 4, 1) := by decide +kernel
theorem dX5_ifTested_21 : decode cX5_ifTested 21 = .ok (.bipush 24, 2) := by decide +kernel
theorem dX5_ifTested_23 : decode cX5_ifTested 23 = .ok (.invokestatic 26, 3) := by decide +kernel
theorem dX5_ifTested_26 : decode cX5_ifTested 26 = .ok (.ifCond .eq 12, 3) := by decide +kernel
theorem dX5_ifTested_29 : decode cX5_ifTested 29 = .ok (.aload_n 0, 1) := by decide +kernel
theorem dX5_ifTested_30 : decode cX5_ifTested 30 = .ok (.iload_n 1, 1) := by decide +kernel
theorem dX5_ifTested_31 : decode cX5_ifTested 31 = .ok (.iload_n 2, 1) := by decide +kernel
theorem dX5_ifTested_32 : decode cX5_ifTested 32 = .ok (.invokevirtual 153, 3) := by decide +kernel
theorem dX5_ifTested_35 : decode cX5_ifTested 35 = .ok (.goto 8, 3) := by decide +kernel
theorem dX5_ifTested_38 : decode cX5_ifTested 38 = .ok (.aload_n 0, 1) := by decide +kernel
theorem dX5_ifTested_39 : decode cX5_ifTested 39 = .ok (.iconst 2, 1) := by decide +kernel
theorem dX5_ifTested_40 : decode cX5_ifTested 40 = .ok (.invokevirtual 33, 3) := by decide +kernel
theorem dX5_ifTested_43 : decode cX5_ifTested 43 = .ok (.ireturn, 1) := by decide +kernel
theorem dX5_greatest_0 : decode cX5_greatest 0 = .ok (.bipush 24, 2) := by decide +kernel
theorem dX5_greatest_2 : decode cX5_greatest 2 = .ok (.istore_n 2, 1) := by decide +kernel
theorem dX5_greatest_3 : decode cX5_greatest 3 = .ok (.iload_n 2, 1) := by decide +kernel
theorem dX5_greatest_4 : decode cX5_greatest 4 = .ok (.iconst 3, 1) := by decide +kernel
theorem dX5_greatest_5 : decode cX5_greatest 5 = .ok (.if_icmp .le 26, 3) := by decide +kernel
theorem dX5_greatest_8 : decode cX5_greatest 8 = .ok (.aload_n 0, 1) := by decide +kernel
theorem dX5_greatest_9 : decode cX5_greatest 9 = .ok (.iload_n 1, 1) := by decide +kernel
theorem dX5_greatest_10 : decode cX5_greatest 10 = .ok (.iload_n 2, 1) := by decide +kernel
theorem dX5_greatest_11 : decode cX5_greatest 11 = .ok (.invokevirtual 153, 3) := by decide +kernel
theorem dX5_greatest_14 : decode cX5_greatest 14 = .ok (.iconst 0, 1) := by decide +kernel
theorem dX5_greatest_15 : decode cX5_greatest 15 = .ok (.bipush 99, 2) := by decide +kernel
theorem dX5_greatest_17 : decode cX5_greatest 17 = .ok (.invokestatic 26, 3) := by decide +kernel
theorem dX5_greatest_20 : decode cX5_greatest 20 = .ok (.ifCond .eq 5, 3) := by decide +kernel
theorem dX5_greatest_23 : decode cX5_greatest 23 = .ok (.iload_n 2, 1) := by decide +kernel
theorem dX5_greatest_24 : decode cX5_greatest 24 = .ok (.ireturn, 1) := by decide +kernel
theorem dX5_greatest_25 : decode cX5_greatest 25 = .ok (.iinc 2 (-1), 3) := by decide +kernel
theorem dX5_greatest_28 : decode cX5_greatest 28 = .ok (.goto (-25), 3) := by decide +kernel
theorem dX5_greatest_31 : decode cX5_greatest 31 = .ok (.iconst (-1), 1) := by decide +kernel
theorem dX5_greatest_32 : decode cX5_greatest 32 = .ok (.ireturn, 1) := by decide +kernel
theorem dX5_safe_0 : decode cX5_safe 0 = .ok (.aload_n 0, 1) := by decide +kernel
theorem dX5_safe_1 : decode cX5_safe 1 = .ok (.iconst 0, 1) := by decide +kernel
theorem dX5_safe_2 : decode cX5_safe 2 = .ok (.putfield 22, 3) := by decide +kernel
theorem dX5_safe_5 : decode cX5_safe 5 = .ok (.aload_n 0, 1) := by decide +kernel
theorem dX5_safe_6 : decode cX5_safe 6 = .ok (.iload_n 1, 1) := by decide +kernel
theorem dX5_safe_7 : decode cX5_safe 7 = .ok (.invokevirtual 84, 3) := by decide +kernel
theorem dX5_safe_10 : decode cX5_safe 10 = .ok (.ifCond .eq 11, 3) := by decide +kernel
theorem dX5_safe_13 : decode cX5_safe 13 = .ok (.aload_n 0, 1) := by decide +kernel
theorem dX5_safe_14 : decode cX5_safe 14 = .ok (.iload_n 1, 1) := by decide +kernel
theorem dX5_safe_15 : decode cX5_safe 15 = .ok (.invokevirtual 156, 3) := by decide +kernel
theorem dX5_safe_18 : decode cX5_safe 18 = .ok (.goto 8, 3) := by decide +kernel
theorem dX5_safe_21 : decode cX5_safe 21 = .ok (.aload_n 0, 1) := by decide +kernel
theorem dX5_safe_22 : decode cX5_safe 22 = .ok (.iconst 1, 1) := by decide +kernel
theorem dX5_safe_23 : decode cX5_safe 23 = .ok (.invokevirtual 33, 3) := by decide +kernel
theorem dX5_safe_26 : decode cX5_safe 26 = .ok (.ireturn, 1) := by decide +kernel
theorem dX5_lapses_0 : decode cX5_lapses 0 = .ok (.iconst (-1), 1) := by decide +kernel
theorem dX5_lapses_1 : decode cX5_lapses 1 = .ok (.istore_n 1, 1) := by decide +kernel
theorem dX5_lapses_2 : decode cX5_lapses 2 = .ok (.iconst 0, 1) := by decide +kernel
theorem dX5_lapses_3 : decode cX5_lapses 3 = .ok (.istore_n 2, 1) := by decide +kernel
theorem dX5_lapses_4 : decode cX5_lapses 4 = .ok (.iload_n 2, 1) := by decide +kernel
theorem dX5_lapses_5 : decode cX5_lapses 5 = .ok (.aload_n 0, 1) := by decide +kernel
theorem dX5_lapses_6 : decode cX5_lapses 6 = .ok (.getfield 7, 3) := by decide +kernel
theorem dX5_lapses_9 : decode cX5_lapses 9 = .ok (.iconst 5, 1) := by decide +kernel
theorem dX5_lapses_10 : decode cX5_lapses 10 = .ok (.iaload, 1) := by decide +kernel
theorem dX5_lapses_11 : decode cX5_lapses 11 = .ok (.if_icmp .ge 87, 3) := by decide +kernel
theorem dX5_lapses_14 : decode cX5_lapses 14 = .ok (.aload_n 0, 1) := by decide +kernel
theorem dX5_lapses_15 : decode cX5_lapses 15 = .ok (.iload_n 2, 1) := by decide +kernel
theorem dX5_lapses_16 : decode cX5_lapses 16 = .ok (.invokevirtual 62, 3) := by decide +kernel
theorem dX5_lapses_19 : decode cX5_lapses 19 = .ok (.ifCond .eq 73, 3) := by decide +kernel
theorem dX5_lapses_22 : decode cX5_lapses 22 = .ok (.aload_n 0, 1) := by decide +kernel
theorem dX5_lapses_23 : decode cX5_lapses 23 = .ok (.iload_n 2, 1) := by decide +kernel
theorem dX5_lapses_24 : decode cX5_lapses 24 = .ok (.iconst 3, 1) := by decide +kernel
theorem dX5_lapses_25 : decode cX5_lapses 25 = .ok (.invokevirtual 37, 3) := by decide +kernel
theorem dX5_lapses_28 : decode cX5_lapses 28 = .ok (.aload_n 0, 1) := by decide +kernel
theorem dX5_lapses_29 : decode cX5_lapses 29 = .ok (.iload_n 2, 1) := by decide +kernel
theorem dX5_lapses_30 : decode cX5_lapses 30 = .ok (.iconst 0, 1) := by decide +kernel
theorem dX5_lapses_31 : decode cX5_lapses 31 = .ok (.invokevirtual 37, 3) := by decide +kernel
theorem dX5_lapses_34 : decode cX5_lapses 34 = .ok (.invokestatic 41, 3) := by decide +kernel
theorem dX5_lapses_37 : decode cX5_lapses 37 = .ok (.iadd, 1) := by decide +kernel
theorem dX5_lapses_38 : decode cX5_lapses 38 = .ok (.istore_n 3, 1) := by decide +kernel
theorem dX5_lapses_39 : decode cX5_lapses 39 = .ok (.aload_n 0, 1) := by decide +kernel
theorem dX5_lapses_40 : decode cX5_lapses 40 = .ok (.iload_n 2, 1) := by decide +kernel
theorem dX5_lapses_41 : decode cX5_lapses 41 = .ok (.iconst 5, 1) := by decide +kernel
theorem dX5_lapses_42 : decode cX5_lapses 42 = .ok (.invokevirtual 37, 3) := by decide +kernel
theorem dX5_lapses_45 : decode cX5_lapses 45 = .ok (.iload_n 3, 1) := by decide +kernel
theorem dX5_lapses_46 : decode cX5_lapses 46 = .ok (.if_icmp .ge 12, 3) := by decide +kernel
theorem dX5_lapses_49 : decode cX5_lapses 49 = .ok (.aload_n 0, 1) := by decide +kernel
theorem dX5_lapses_50 : decode cX5_lapses 50 = .ok (.iload_n 2, 1) := by decide +kernel
theorem dX5_lapses_51 : decode cX5_lapses 51 = .ok (.iconst 5, 1) := by decide +kernel
theorem dX5_lapses_52 : decode cX5_lapses 52 = .ok (.invokevirtual 37, 3) := by decide +kernel
theorem dX5_lapses_55 : decode cX5_lapses 55 = .ok (.goto 4, 3) := by decide +kernel
theorem dX5_lapses_58 : decode cX5_lapses 58 = .ok (.iload_n 3, 1) := by decide +kernel
theorem dX5_lapses_59 : decode cX5_lapses 59 = .ok (.istore 4, 2) := by decide +kernel
theorem dX5_lapses_61 : decode cX5_lapses 61 = .ok (.iload 4, 2) := by decide +kernel
theorem dX5_lapses_63 : decode cX5_lapses 63 = .ok (.aload_n 0, 1) := by decide +kernel
theorem dX5_lapses_64 : decode cX5_lapses 64 = .ok (.getfield 7, 3) := by decide +kernel
theorem dX5_lapses_67 : decode cX5_lapses 67 = .ok (.iconst 3, 1) := by decide +kernel
theorem dX5_lapses_68 : decode cX5_lapses 68 = .ok (.iaload, 1) := by decide +kernel
theorem dX5_lapses_69 : decode cX5_lapses 69 = .ok (.isub, 1) := by decide +kernel
theorem dX5_lapses_70 : decode cX5_lapses 70 = .ok (.iconst 1, 1) := by decide +kernel
theorem dX5_lapses_71 : decode cX5_lapses 71 = .ok (.iadd, 1) := by decide +kernel
theorem dX5_lapses_72 : decode cX5_lapses 72 = .ok (.istore 5, 2) := by decide +kernel
theorem dX5_lapses_74 : decode cX5_lapses 74 = .ok (.iload_n 1, 1) := by decide +kernel
theorem dX5_lapses_75 : decode cX5_lapses 75 = .ok (.iconst (-1), 1) := by decide +kernel
theorem dX5_lapses_76 : decode cX5_lapses 76 = .ok (.if_icmp .eq 9, 3) := by decide +kernel
theorem dX5_lapses_79 : decode cX5_lapses 79 = .ok (.iload 5, 2) := by decide +kernel
theorem dX5_lapses_81 : decode cX5_lapses 81 = .ok (.iload_n 1, 1) := by decide +kernel
theorem dX5_lapses_82 : decode cX5_lapses 82 = .ok (.if_icmp .ge 8, 3) := by decide +kernel
theorem dX5_lapses_85 : decode cX5_lapses 85 = .ok (.iload 5, 2) := by decide +kernel
theorem dX5_lapses_87 : decode cX5_lapses 87 = .ok (.goto 4, 3) := by decide +kernel
theorem dX5_lapses_90 : decode cX5_lapses 90 = .ok (.iload_n 1, 1) := by decide +kernel
theorem dX5_lapses_91 : decode cX5_lapses 91 = .ok (.istore_n 1, 1) := by decide +kernel
theorem dX5_lapses_92 : decode cX5_lapses 92 = .ok (.iinc 2 1, 3) := by decide +kernel
theorem dX5_lapses_95 : decode cX5_lapses 95 = .ok (.goto (-91), 3) := by decide +kernel
theorem dX5_lapses_98 : decode cX5_lapses 98 = .ok (.iload_n 1, 1) := by decide +kernel
theorem dX5_lapses_99 : decode cX5_lapses 99 = .ok (.ireturn, 1) := by decide +kernel
theorem dX5_nextLapse_0 : decode cX5_nextLapse 0 = .ok (.aload_n 0, 1) := by decide +kernel
theorem dX5_nextLapse_1 : decode cX5_nextLapse 1 = .ok (.iconst 0, 1) := by decide +kernel
theorem dX5_nextLapse_2 : decode cX5_nextLapse 2 = .ok (.putfield 22, 3) := by decide +kernel
theorem dX5_nextLapse_5 : decode cX5_nextLapse 5 = .ok (.aload_n 0, 1) := by decide +kernel
theorem dX5_nextLapse_6 : decode cX5_nextLapse 6 = .ok (.invokevirtual 159, 3) := by decide +kernel
theorem dX5_nextLapse_9 : decode cX5_nextLapse 9 = .ok (.ireturn, 1) := by decide +kernel
theorem dX5_cheapest_0 : decode cX5_cheapest 0 = .ok (.iconst (-1), 1) := by decide +kernel
theorem dX5_cheapest_1 : decode cX5_cheapest 1 = .ok (.istore_n 2, 1) := by decide +kernel
theorem dX5_cheapest_2 : decode cX5_cheapest 2 = .ok (.aload_n 0, 1) := by decide +kernel
theorem dX5_cheapest_3 : decode cX5_cheapest 3 = .ok (.iload_n 1, 1) := by decide +kernel
theorem dX5_cheapest_4 : decode cX5_cheapest 4 = .ok (.iconst (-1), 1) := by decide +kernel
theorem dX5_cheapest_5 : decode cX5_cheapest 5 = .ok (.invokevirtual 137, 3) := by decide +kernel
theorem dX5_cheapest_8 : decode cX5_cheapest 8 = .ok (.istore_n 3, 1) := by decide +kernel
theorem dX5_cheapest_9 : decode cX5_cheapest 9 = .ok (.iconst 0, 1) := by decide +kernel
theorem dX5_cheapest_10 : decode cX5_cheapest 10 = .ok (.istore 4, 2) := by decide +kernel
theorem dX5_cheapest_12 : decode cX5_cheapest 12 = .ok (.iload 4, 2) := by decide +kernel
theorem dX5_cheapest_14 : decode cX5_cheapest 14 = .ok (.aload_n 0, 1) := by decide +kernel
theorem dX5_cheapest_15 : decode cX5_cheapest 15 = .ok (.getfield 7, 3) := by decide +kernel
theorem dX5_cheapest_18 : decode cX5_cheapest 18 = .ok (.iconst 5, 1) := by decide +kernel
theorem dX5_cheapest_19 : decode cX5_cheapest 19 = .ok (.iaload, 1) := by decide +kernel
theorem dX5_cheapest_20 : decode cX5_cheapest 20 = .ok (.if_icmp .ge 103, 3) := by decide +kernel
theorem dX5_cheapest_23 : decode cX5_cheapest 23 = .ok (.iload_n 3, 1) := by decide +kernel
theorem dX5_cheapest_24 : decode cX5_cheapest 24 = .ok (.ifCond .ne 99, 3) := by decide +kernel
theorem dX5_cheapest_27 : decode cX5_cheapest 27 = .ok (.aload_n 0, 1) := by decide +kernel
theorem dX5_cheapest_28 : decode cX5_cheapest 28 = .ok (.iload 4, 2) := by decide +kernel
theorem dX5_cheapest_30 : decode cX5_cheapest 30 = .ok (.bipush 6, 2) := by decide +kernel
theorem dX5_cheapest_32 : decode cX5_cheapest 32 = .ok (.invokevirtual 37, 3) := by decide +kernel
theorem dX5_cheapest_35 : decode cX5_cheapest 35 = .ok (.iconst 3, 1) := by decide +kernel
theorem dX5_cheapest_36 : decode cX5_cheapest 36 = .ok (.if_icmp .ne 26, 3) := by decide +kernel
theorem dX5_cheapest_39 : decode cX5_cheapest 39 = .ok (.aload_n 0, 1) := by decide +kernel
theorem dX5_cheapest_40 : decode cX5_cheapest 40 = .ok (.iload 4, 2) := by decide +kernel
theorem dX5_cheapest_42 : decode cX5_cheapest 42 = .ok (.invokevirtual 62, 3) := by decide +kernel
theorem dX5_cheapest_45 : decode cX5_cheapest 45 = .ok (.ifCond .eq 17, 3) := by decide +kernel
theorem dX5_cheapest_48 : decode cX5_cheapest 48 = .ok (.aload_n 0, 1) := by decide +kernel
theorem dX5_cheapest_49 : decode cX5_cheapest 49 = .ok (.iload_n 1, 1) := by decide +kernel
theorem dX5_cheapest_50 : decode cX5_cheapest 50 = .ok (.iload 4, 2) := by decide +kernel
theorem dX5_cheapest_52 : decode cX5_cheapest 52 = .ok (.invokevirtual 137, 3) := by decide +kernel
theorem dX5_cheapest_55 : decode cX5_cheapest 55 = .ok (.ifCond .eq 7, 3) := by decide +kernel
theorem dX5_cheapest_58 : decode cX5_cheapest 58 = .ok (.iconst 1, 1) := by decide +kernel
theorem dX5_cheapest_59 : decode cX5_cheapest 59 = .ok (.goto 4, 3) := by decide +kernel
theorem dX5_cheapest_62 : decode cX5_cheapest 62 = .ok (.iconst 0, 1) := by decide +kernel
theorem dX5_cheapest_63 : decode cX5_cheapest 63 = .ok (.istore 5, 2) := by decide +kernel
theorem dX5_cheapest_65 : decode cX5_cheapest 65 = .ok (.iload 5, 2) := by decide +kernel
theorem dX5_cheapest_67 : decode cX5_cheapest 67 = .ok (.ifCond .eq 48, 3) := by decide +kernel
theorem dX5_cheapest_70 : decode cX5_cheapest 70 = .ok (.iload_n 2, 1) := by decide +kernel
theorem dX5_cheapest_71 : decode cX5_cheapest 71 = .ok (.iconst (-1), 1) := by decide +kernel
theorem dX5_cheapest_72 : decode cX5_cheapest 72 = .ok (.if_icmp .eq 38, 3) := by decide +kernel
theorem dX5_cheapest_75 : decode cX5_cheapest 75 = .ok (.aload_n 0, 1) := by decide +kernel
theorem dX5_cheapest_76 : decode cX5_cheapest 76 = .ok (.iload 4, 2) := by decide +kernel
theorem dX5_cheapest_78 : decode cX5_cheapest 78 = .ok (.iconst 0, 1) := by decide +kernel
theorem dX5_cheapest_79 : decode cX5_cheapest 79 = .ok (.invokevirtual 37, 3) := by decide +kernel
theorem dX5_cheapest_82 : decode cX5_cheapest 82 = .ok (.aload_n 0, 1) := by decide +kernel
theorem dX5_cheapest_83 : decode cX5_cheapest 83 = .ok (.iload 4, 2) := by decide +kernel
theorem dX5_cheapest_85 : decode cX5_cheapest 85 = .ok (.iconst 1, 1) := by decide +kernel
theorem dX5_cheapest_86 : decode cX5_cheapest 86 = .ok (.invokevirtual 37, 3) := by decide +kernel
theorem dX5_cheapest_89 : decode cX5_cheapest 89 = .ok (.invokestatic 70, 3) := by decide +kernel
theorem dX5_cheapest_92 : decode cX5_cheapest 92 = .ok (.aload_n 0, 1) := by decide +kernel
theorem dX5_cheapest_93 : decode cX5_cheapest 93 = .ok (.iload_n 2, 1) := by decide +kernel
theorem dX5_cheapest_94 : decode cX5_cheapest 94 = .ok (.iconst 0, 1) := by decide +kernel
theorem dX5_cheapest_95 : decode cX5_cheapest 95 = .ok (.invokevirtual 37, 3) := by decide +kernel
theorem dX5_cheapest_98 : decode cX5_cheapest 98 = .ok (.aload_n 0, 1) := by decide +kernel
theorem dX5_cheapest_99 : decode cX5_cheapest 99 = .ok (.iload_n 2, 1) := by decide +kernel
theorem dX5_cheapest_100 : decode cX5_cheapest 100 = .ok (.iconst 1, 1) := by decide +kernel
theorem dX5_cheapest_101 : decode cX5_cheapest 101 = .ok (.invokevirtual 37, 3) := by decide +kernel
theorem dX5_cheapest_104 : decode cX5_cheapest 104 = .ok (.invokestatic 70, 3) := by decide +kernel
theorem dX5_cheapest_107 : decode cX5_cheapest 107 = .ok (.if_icmp .ge 8, 3) := by decide +kernel
theorem dX5_cheapest_110 : decode cX5_cheapest 110 = .ok (.iload 4, 2) := by decide +kernel
theorem dX5_cheapest_112 : decode cX5_cheapest 112 = .ok (.goto 4, 3) := by decide +kernel
theorem dX5_cheapest_115 : decode cX5_cheapest 115 = .ok (.iload_n 2, 1) := by decide +kernel
theorem dX5_cheapest_116 : decode cX5_cheapest 116 = .ok (.istore_n 2, 1) := by decide +kernel
theorem dX5_cheapest_117 : decode cX5_cheapest 117 = .ok (.iinc 4 1, 3) := by decide +kernel
theorem dX5_cheapest_120 : decode cX5_cheapest 120 = .ok (.goto (-108), 3) := by decide +kernel
theorem dX5_cheapest_123 : decode cX5_cheapest 123 = .ok (.iload_n 2, 1) := by decide +kernel
theorem dX5_cheapest_124 : decode cX5_cheapest 124 = .ok (.ireturn, 1) := by decide +kernel
theorem dX5_helps_0 : decode cX5_helps 0 = .ok (.aload_n 0, 1) := by decide +kernel
theorem dX5_helps_1 : decode cX5_helps 1 = .ok (.iconst 0, 1) := by decide +kernel
theorem dX5_helps_2 : decode cX5_helps 2 = .ok (.putfield 22, 3) := by decide +kernel
theorem dX5_helps_5 : decode cX5_helps 5 = .ok (.iload_n 1, 1) := by decide +kernel
theorem dX5_helps_6 : decode cX5_helps 6 = .ok (.invokestatic 99, 3) := by decide +kernel
theorem dX5_helps_9 : decode cX5_helps 9 = .ok (.ifCond .eq 11, 3) := by decide +kernel
theorem dX5_helps_12 : decode cX5_helps 12 = .ok (.aload_n 0, 1) := by decide +kernel
theorem dX5_helps_13 : decode cX5_helps 13 = .ok (.iload_n 1, 1) := by decide +kernel
theorem dX5_helps_14 : decode cX5_helps 14 = .ok (.invokevirtual 163, 3) := by decide +kernel
theorem dX5_helps_17 : decode cX5_helps 17 = .ok (.goto 8, 3) := by decide +kernel
theorem dX5_helps_20 : decode cX5_helps 20 = .ok (.aload_n 0, 1) := by decide +kernel
theorem dX5_helps_21 : decode cX5_helps 21 = .ok (.iconst 1, 1) := by decide +kernel
theorem dX5_helps_22 : decode cX5_helps 22 = .ok (.invokevirtual 33, 3) := by decide +kernel
theorem dX5_helps_25 : decode cX5_helps 25 = .ok (.ireturn, 1) := by decide +kernel
theorem dX5_share_0 : decode cX5_share 0 = .ok (.aload_n 0, 1) := by decide +kernel
theorem dX5_share_1 : decode cX5_share 1 = .ok (.getfield 7, 3) := by decide +kernel
theorem dX5_share_4 : decode cX5_share 4 = .ok (.iconst 5, 1) := by decide +kernel
theorem dX5_share_5 : decode cX5_share 5 = .ok (.iaload, 1) := by decide +kernel
theorem dX5_share_6 : decode cX5_share 6 = .ok (.aload_n 0, 1) := by decide +kernel
theorem dX5_share_7 : decode cX5_share 7 = .ok (.iconst 1, 1) := by decide +kernel
theorem dX5_share_8 : decode cX5_share 8 = .ok (.invokevirtual 147, 3) := by decide +kernel
theorem dX5_share_11 : decode cX5_share 11 = .ok (.isub, 1) := by decide +kernel
theorem dX5_share_12 : decode cX5_share 12 = .ok (.istore_n 1, 1) := by decide +kernel
theorem dX5_share_13 : decode cX5_share 13 = .ok (.iload_n 1, 1) := by decide +kernel
theorem dX5_share_14 : decode cX5_share 14 = .ok (.ifCond .ne 7, 3) := by decide +kernel
theorem dX5_share_17 : decode cX5_share 17 = .ok (.dconst 1, 1) := by decide +kernel
theorem dX5_share_18 : decode cX5_share 18 = .ok (.goto 12, 3) := by decide +kernel
theorem dX5_share_21 : decode cX5_share 21 = .ok (.aload_n 0, 1) := by decide +kernel
theorem dX5_share_22 : decode cX5_share 22 = .ok (.iconst 0, 1) := by decide +kernel
theorem dX5_share_23 : decode cX5_share 23 = .ok (.invokevirtual 147, 3) := by decide +kernel
theorem dX5_share_26 : decode cX5_share 26 = .ok (.i2d, 1) := by decide +kernel
theorem dX5_share_27 : decode cX5_share 27 = .ok (.iload_n 1, 1) := by decide +kernel
theorem dX5_share_28 : decode cX5_share 28 = .ok (.i2d, 1) := by decide +kernel
theorem dX5_share_29 : decode cX5_share 29 = .ok (.ddiv, 1) := by decide +kernel
theorem dX5_share_30 : decode cX5_share 30 = .ok (.dreturn, 1) := by decide +kernel
theorem dX5_readyShare_0 : decode cX5_readyShare 0 = .ok (.aload_n 0, 1) := by decide +kernel
theorem dX5_readyShare_1 : decode cX5_readyShare 1 = .ok (.iconst 0, 1) := by decide +kernel
theorem dX5_readyShare_2 : decode cX5_readyShare 2 = .ok (.putfield 22, 3) := by decide +kernel
theorem dX5_readyShare_5 : decode cX5_readyShare 5 = .ok (.aload_n 0, 1) := by decide +kernel
theorem dX5_readyShare_6 : decode cX5_readyShare 6 = .ok (.invokevirtual 166, 3) := by decide +kernel
theorem dX5_readyShare_9 : decode cX5_readyShare 9 = .ok (.dreturn, 1) := by decide +kernel
theorem dX5_digest_0 : decode cX5_digest 0 = .ok (.aload_n 0, 1) := by decide +kernel
theorem dX5_digest_1 : decode cX5_digest 1 = .ok (.iconst 0, 1) := by decide +kernel
theorem dX5_digest_2 : decode cX5_digest 2 = .ok (.putfield 22, 3) := by decide +kernel
theorem dX5_digest_5 : decode cX5_digest 5 = .ok (.ldc2_w 170, 3) := by decide +kernel
theorem dX5_digest_8 : decode cX5_digest 8 = .ok (.lstore_n 1, 1) := by decide +kernel
theorem dX5_digest_9 : decode cX5_digest 9 = .ok (.iconst 0, 1) := by decide +kernel
theorem dX5_digest_10 : decode cX5_digest 10 = .ok (.istore_n 3, 1) := by decide +kernel
theorem dX5_digest_11 : decode cX5_digest 11 = .ok (.iload_n 3, 1) := by decide +kernel
theorem dX5_digest_12 : decode cX5_digest 12 = .ok (.bipush 11, 2) := by decide +kernel
theorem dX5_digest_14 : decode cX5_digest 14 = .ok (.if_icmp .ge 22, 3) := by decide +kernel
theorem dX5_digest_17 : decode cX5_digest 17 = .ok (.ldc2_w 172, 3) := by decide +kernel
theorem dX5_digest_20 : decode cX5_digest 20 = .ok (.lload_n 1, 1) := by decide +kernel
theorem dX5_digest_21 : decode cX5_digest 21 = .ok (.lmul, 1) := by decide +kernel
theorem dX5_digest_22 : decode cX5_digest 22 = .ok (.aload_n 0, 1) := by decide +kernel
theorem dX5_digest_23 : decode cX5_digest 23 = .ok (.iload_n 3, 1) := by decide +kernel
theorem dX5_digest_24 : decode cX5_digest 24 = .ok (.invokevirtual 150, 3) := by decide +kernel
theorem dX5_digest_27 : decode cX5_digest 27 = .ok (.i2l, 1) := by decide +kernel
theorem dX5_digest_28 : decode cX5_digest 28 = .ok (.ladd, 1) := by decide +kernel
theorem dX5_digest_29 : decode cX5_digest 29 = .ok (.lstore_n 1, 1) := by decide +kernel
theorem dX5_digest_30 : decode cX5_digest 30 = .ok (.iinc 3 1, 3) := by decide +kernel
theorem dX5_digest_33 : decode cX5_digest 33 = .ok (.goto (-22), 3) := by decide +kernel
theorem dX5_digest_36 : decode cX5_digest 36 = .ok (.iconst 0, 1) := by decide +kernel
theorem dX5_digest_37 : decode cX5_digest 37 = .ok (.istore_n 3, 1) := by decide +kernel
theorem dX5_digest_38 : decode cX5_digest 38 = .ok (.iload_n 3, 1) := by decide +kernel
theorem dX5_digest_39 : decode cX5_digest 39 = .ok (.iconst 3, 1) := by decide +kernel
theorem dX5_digest_40 : decode cX5_digest 40 = .ok (.if_icmp .ge 23, 3) := by decide +kernel
theorem dX5_digest_43 : decode cX5_digest 43 = .ok (.ldc2_w 172, 3) := by decide +kernel
theorem dX5_digest_46 : decode cX5_digest 46 = .ok (.lload_n 1, 1) := by decide +kernel
theorem dX5_digest_47 : decode cX5_digest 47 = .ok (.lmul, 1) := by decide +kernel
theorem dX5_digest_48 : decode cX5_digest 48 = .ok (.aload_n 0, 1) := by decide +kernel
theorem dX5_digest_49 : decode cX5_digest 49 = .ok (.getfield 7, 3) := by decide +kernel
theorem dX5_digest_52 : decode cX5_digest 52 = .ok (.iload_n 3, 1) := by decide +kernel
theorem dX5_digest_53 : decode cX5_digest 53 = .ok (.iaload, 1) := by decide +kernel
theorem dX5_digest_54 : decode cX5_digest 54 = .ok (.i2l, 1) := by decide +kernel
theorem dX5_digest_55 : decode cX5_digest 55 = .ok (.ladd, 1) := by decide +kernel
theorem dX5_digest_56 : decode cX5_digest 56 = .ok (.lstore_n 1, 1) := by decide +kernel
theorem dX5_digest_57 : decode cX5_digest 57 = .ok (.iinc 3 1, 3) := by decide +kernel
theorem dX5_digest_60 : decode cX5_digest 60 = .ok (.goto (-22), 3) := by decide +kernel
theorem dX5_digest_63 : decode cX5_digest 63 = .ok (.iconst 0, 1) := by decide +kernel
theorem dX5_digest_64 : decode cX5_digest 64 = .ok (.istore_n 3, 1) := by decide +kernel
theorem dX5_digest_65 : decode cX5_digest 65 = .ok (.iload_n 3, 1) := by decide +kernel
theorem dX5_digest_66 : decode cX5_digest 66 = .ok (.aload_n 0, 1) := by decide +kernel
theorem dX5_digest_67 : decode cX5_digest 67 = .ok (.getfield 7, 3) := by decide +kernel
theorem dX5_digest_70 : decode cX5_digest 70 = .ok (.iconst 5, 1) := by decide +kernel
theorem dX5_digest_71 : decode cX5_digest 71 = .ok (.iaload, 1) := by decide +kernel
theorem dX5_digest_72 : decode cX5_digest 72 = .ok (.if_icmp .ge 66, 3) := by decide +kernel
theorem dX5_digest_75 : decode cX5_digest 75 = .ok (.iconst 0, 1) := by decide +kernel
theorem dX5_digest_76 : decode cX5_digest 76 = .ok (.istore 4, 2) := by decide +kernel
theorem dX5_digest_78 : decode cX5_digest 78 = .ok (.iload 4, 2) := by decide +kernel
theorem dX5_digest_80 : decode cX5_digest 80 = .ok (.bipush 10, 2) := by decide +kernel
theorem dX5_digest_82 : decode cX5_digest 82 = .ok (.if_icmp .ge 24, 3) := by decide +kernel
theorem dX5_digest_85 : decode cX5_digest 85 = .ok (.ldc2_w 172, 3) := by decide +kernel
theorem dX5_digest_88 : decode cX5_digest 88 = .ok (.lload_n 1, 1) := by decide +kernel
theorem dX5_digest_89 : decode cX5_digest 89 = .ok (.lmul, 1) := by decide +kernel
theorem dX5_digest_90 : decode cX5_digest 90 = .ok (.aload_n 0, 1) := by decide +kernel
theorem dX5_digest_91 : decode cX5_digest 91 = .ok (.iload_n 3, 1) := by decide +kernel
theorem dX5_digest_92 : decode cX5_digest 92 = .ok (.iload 4, 2) := by decide +kernel
theorem dX5_digest_94 : decode cX5_digest 94 = .ok (.invokevirtual 134, 3) := by decide +kernel
theorem dX5_digest_97 : decode cX5_digest 97 = .ok (.i2l, 1) := by decide +kernel
theorem dX5_digest_98 : decode cX5_digest 98 = .ok (.ladd, 1) := by decide +kernel
theorem dX5_digest_99 : decode cX5_digest 99 = .ok (.lstore_n 1, 1) := by decide +kernel
theorem dX5_digest_100 : decode cX5_digest 100 = .ok (.iinc 4 1, 3) := by decide +kernel
theorem dX5_digest_103 : decode cX5_digest 103 = .ok (.goto (-25), 3) := by decide +kernel
theorem dX5_digest_106 : decode cX5_digest 106 = .ok (.ldc2_w 172, 3) := by decide +kernel
theorem dX5_digest_109 : decode cX5_digest 109 = .ok (.ldc2_w 172, 3) := by decide +kernel
theorem dX5_digest_112 : decode cX5_digest 112 = .ok (.lload_n 1, 1) := by decide +kernel
theorem dX5_digest_113 : decode cX5_digest 113 = .ok (.lmul, 1) := by decide +kernel
theorem dX5_digest_114 : decode cX5_digest 114 = .ok (.aload_n 0, 1) := by decide +kernel
theorem dX5_digest_115 : decode cX5_digest 115 = .ok (.iload_n 3, 1) := by decide +kernel
theorem dX5_digest_116 : decode cX5_digest 116 = .ok (.bipush 12, 2) := by decide +kernel
theorem dX5_digest_118 : decode cX5_digest 118 = .ok (.invokevirtual 153, 3) := by decide +kernel
theorem dX5_digest_121 : decode cX5_digest 121 = .ok (.i2l, 1) := by decide +kernel
theorem dX5_digest_122 : decode cX5_digest 122 = .ok (.ladd, 1) := by decide +kernel
theorem dX5_digest_123 : decode cX5_digest 123 = .ok (.lmul, 1) := by decide +kernel
theorem dX5_digest_124 : decode cX5_digest 124 = .ok (.aload_n 0, 1) := by decide +kernel
theorem dX5_digest_125 : decode cX5_digest 125 = .ok (.iload_n 3, 1) := by decide +kernel
theorem dX5_digest_126 : decode cX5_digest 126 = .ok (.invokevirtual 156, 3) := by decide +kernel
theorem dX5_digest_129 : decode cX5_digest 129 = .ok (.i2l, 1) := by decide +kernel
theorem dX5_digest_130 : decode cX5_digest 130 = .ok (.ladd, 1) := by decide +kernel
theorem dX5_digest_131 : decode cX5_digest 131 = .ok (.lstore_n 1, 1) := by decide +kernel
theorem dX5_digest_132 : decode cX5_digest 132 = .ok (.iinc 3 1, 3) := by decide +kernel
theorem dX5_digest_135 : decode cX5_digest 135 = .ok (.goto (-70), 3) := by decide +kernel
theorem dX5_digest_138 : decode cX5_digest 138 = .ok (.iconst 0, 1) := by decide +kernel
theorem dX5_digest_139 : decode cX5_digest 139 = .ok (.istore_n 3, 1) := by decide +kernel
theorem dX5_digest_140 : decode cX5_digest 140 = .ok (.iload_n 3, 1) := by decide +kernel
theorem dX5_digest_141 : decode cX5_digest 141 = .ok (.iconst 3, 1) := by decide +kernel
theorem dX5_digest_142 : decode cX5_digest 142 = .ok (.if_icmp .ge 53, 3) := by decide +kernel
theorem dX5_digest_145 : decode cX5_digest 145 = .ok (.iconst 0, 1) := by decide +kernel
theorem dX5_digest_146 : decode cX5_digest 146 = .ok (.istore 4, 2) := by decide +kernel
theorem dX5_digest_148 : decode cX5_digest 148 = .ok (.iload 4, 2) := by decide +kernel
theorem dX5_digest_150 : decode cX5_digest 150 = .ok (.bipush 7, 2) := by decide +kernel
theorem dX5_digest_152 : decode cX5_digest 152 = .ok (.if_icmp .ge 24, 3) := by decide +kernel
theorem dX5_digest_155 : decode cX5_digest 155 = .ok (.ldc2_w 172, 3) := by decide +kernel
theorem dX5_digest_158 : decode cX5_digest 158 = .ok (.lload_n 1, 1) := by decide +kernel
theorem dX5_digest_159 : decode cX5_digest 159 = .ok (.lmul, 1) := by decide +kernel
theorem dX5_digest_160 : decode cX5_digest 160 = .ok (.aload_n 0, 1) := by decide +kernel
theorem dX5_digest_161 : decode cX5_digest 161 = .ok (.iload_n 3, 1) := by decide +kernel
theorem dX5_digest_162 : decode cX5_digest 162 = .ok (.iload 4, 2) := by decide +kernel
theorem dX5_digest_164 : decode cX5_digest 164 = .ok (.invokevirtual 144, 3) := by decide +kernel
theorem dX5_digest_167 : decode cX5_digest 167 = .ok (.i2l, 1) := by decide +kernel
theorem dX5_digest_168 : decode cX5_digest 168 = .ok (.ladd, 1) := by decide +kernel
theorem dX5_digest_169 : decode cX5_digest 169 = .ok (.lstore_n 1, 1) := by decide +kernel
theorem dX5_digest_170 : decode cX5_digest 170 = .ok (.iinc 4 1, 3) := by decide +kernel
theorem dX5_digest_173 : decode cX5_digest 173 = .ok (.goto (-25), 3) := by decide +kernel
theorem dX5_digest_176 : decode cX5_digest 176 = .ok (.ldc2_w 172, 3) := by decide +kernel
theorem dX5_digest_179 : decode cX5_digest 179 = .ok (.lload_n 1, 1) := by decide +kernel
theorem dX5_digest_180 : decode cX5_digest 180 = .ok (.lmul, 1) := by decide +kernel
theorem dX5_digest_181 : decode cX5_digest 181 = .ok (.aload_n 0, 1) := by decide +kernel
theorem dX5_digest_182 : decode cX5_digest 182 = .ok (.iload_n 3, 1) := by decide +kernel
theorem dX5_digest_183 : decode cX5_digest 183 = .ok (.invokevirtual 163, 3) := by decide +kernel
theorem dX5_digest_186 : decode cX5_digest 186 = .ok (.i2l, 1) := by decide +kernel
theorem dX5_digest_187 : decode cX5_digest 187 = .ok (.ladd, 1) := by decide +kernel
theorem dX5_digest_188 : decode cX5_digest 188 = .ok (.lstore_n 1, 1) := by decide +kernel
theorem dX5_digest_189 : decode cX5_digest 189 = .ok (.iinc 3 1, 3) := by decide +kernel
theorem dX5_digest_192 : decode cX5_digest 192 = .ok (.goto (-52), 3) := by decide +kernel
theorem dX5_digest_195 : decode cX5_digest 195 = .ok (.ldc2_w 172, 3) := by decide +kernel
theorem dX5_digest_198 : decode cX5_digest 198 = .ok (.lload_n 1, 1) := by decide +kernel
theorem dX5_digest_199 : decode cX5_digest 199 = .ok (.lmul, 1) := by decide +kernel
theorem dX5_digest_200 : decode cX5_digest 200 = .ok (.aload_n 0, 1) := by decide +kernel
theorem dX5_digest_201 : decode cX5_digest 201 = .ok (.invokevirtual 159, 3) := by decide +kernel
theorem dX5_digest_204 : decode cX5_digest 204 = .ok (.i2l, 1) := by decide +kernel
theorem dX5_digest_205 : decode cX5_digest 205 = .ok (.ladd, 1) := by decide +kernel
theorem dX5_digest_206 : decode cX5_digest 206 = .ok (.lstore_n 1, 1) := by decide +kernel
theorem dX5_digest_207 : decode cX5_digest 207 = .ok (.ldc2_w 172, 3) := by decide +kernel
theorem dX5_digest_210 : decode cX5_digest 210 = .ok (.ldc2_w 172, 3) := by decide +kernel
theorem dX5_digest_213 : decode cX5_digest 213 = .ok (.lload_n 1, 1) := by decide +kernel
theorem dX5_digest_214 : decode cX5_digest 214 = .ok (.lmul, 1) := by decide +kernel
theorem dX5_digest_215 : decode cX5_digest 215 = .ok (.aload_n 0, 1) := by decide +kernel
theorem dX5_digest_216 : decode cX5_digest 216 = .ok (.invokevirtual 166, 3) := by decide +kernel
theorem dX5_digest_219 : decode cX5_digest 219 = .ok (.invokestatic 174, 3) := by decide +kernel
theorem dX5_digest_222 : decode cX5_digest 222 = .ok (.ladd, 1) := by decide +kernel
theorem dX5_digest_223 : decode cX5_digest 223 = .ok (.lmul, 1) := by decide +kernel
theorem dX5_digest_224 : decode cX5_digest 224 = .ok (.aload_n 0, 1) := by decide +kernel
theorem dX5_digest_225 : decode cX5_digest 225 = .ok (.getfield 105, 3) := by decide +kernel
theorem dX5_digest_228 : decode cX5_digest 228 = .ok (.i2l, 1) := by decide +kernel
theorem dX5_digest_229 : decode cX5_digest 229 = .ok (.ladd, 1) := by decide +kernel
theorem dX5_digest_230 : decode cX5_digest 230 = .ok (.lstore_n 1, 1) := by decide +kernel
theorem dX5_digest_231 : decode cX5_digest 231 = .ok (.iconst 0, 1) := by decide +kernel
theorem dX5_digest_232 : decode cX5_digest 232 = .ok (.istore_n 3, 1) := by decide +kernel
theorem dX5_digest_233 : decode cX5_digest 233 = .ok (.iload_n 3, 1) := by decide +kernel
theorem dX5_digest_234 : decode cX5_digest 234 = .ok (.aload_n 0, 1) := by decide +kernel
theorem dX5_digest_235 : decode cX5_digest 235 = .ok (.getfield 105, 3) := by decide +kernel
theorem dX5_digest_238 : decode cX5_digest 238 = .ok (.if_icmp .ge 23, 3) := by decide +kernel
theorem dX5_digest_241 : decode cX5_digest 241 = .ok (.ldc2_w 172, 3) := by decide +kernel
theorem dX5_digest_244 : decode cX5_digest 244 = .ok (.lload_n 1, 1) := by decide +kernel
theorem dX5_digest_245 : decode cX5_digest 245 = .ok (.lmul, 1) := by decide +kernel
theorem dX5_digest_246 : decode cX5_digest 246 = .ok (.aload_n 0, 1) := by decide +kernel
theorem dX5_digest_247 : decode cX5_digest 247 = .ok (.getfield 16, 3) := by decide +kernel
theorem dX5_digest_250 : decode cX5_digest 250 = .ok (.iload_n 3, 1) := by decide +kernel
theorem dX5_digest_251 : decode cX5_digest 251 = .ok (.iaload, 1) := by decide +kernel
theorem dX5_digest_252 : decode cX5_digest 252 = .ok (.i2l, 1) := by decide +kernel
theorem dX5_digest_253 : decode cX5_digest 253 = .ok (.ladd, 1) := by decide +kernel
theorem dX5_digest_254 : decode cX5_digest 254 = .ok (.lstore_n 1, 1) := by decide +kernel
theorem dX5_digest_255 : decode cX5_digest 255 = .ok (.iinc 3 1, 3) := by decide +kernel
theorem dX5_digest_258 : decode cX5_digest 258 = .ok (.goto (-25), 3) := by decide +kernel
theorem dX5_digest_261 : decode cX5_digest 261 = .ok (.lload_n 1, 1) := by decide +kernel
theorem dX5_digest_262 : decode cX5_digest 262 = .ok (.lreturn, 1) := by decide +kernel
theorem dJxe99ae_isNaN_b9ae7_0 : decode cJxe99ae_isNaN_b9ae7 0 = .ok (.dload_n 0, 1) := by decide +kernel
theorem dJxe99ae_isNaN_b9ae7_1 : decode cJxe99ae_isNaN_b9ae7 1 = .ok (.dload_n 0, 1) := by decide +kernel
theorem dJxe99ae_isNaN_b9ae7_2 : decode cJxe99ae_isNaN_b9ae7 2 = .ok (.dcmp .l, 1) := by decide +kernel
theorem dJxe99ae_isNaN_b9ae7_3 : decode cJxe99ae_isNaN_b9ae7 3 = .ok (.ifCond .eq 7, 3) := by decide +kernel
theorem dJxe99ae_isNaN_b9ae7_6 : decode cJxe99ae_isNaN_b9ae7 6 = .ok (.iconst 1, 1) := by decide +kernel
theorem dJxe99ae_isNaN_b9ae7_7 : decode cJxe99ae_isNaN_b9ae7 7 = .ok (.goto 4, 3) := by decide +kernel
theorem dJxe99ae_isNaN_b9ae7_10 : decode cJxe99ae_isNaN_b9ae7 10 = .ok (.iconst 0, 1) := by decide +kernel
theorem dJxe99ae_isNaN_b9ae7_11 : decode cJxe99ae_isNaN_b9ae7 11 = .ok (.ireturn, 1) := by decide +kernel
theorem dJxe99ae_doubleToLongBits_ccdee_0 : decode cJxe99ae_doubleToLongBits_ccdee 0 = .ok (.dload_n 0, 1) := by decide +kernel
theorem dJxe99ae_doubleToLongBits_ccdee_1 : decode cJxe99ae_doubleToLongBits_ccdee 1 = .ok (.invokestatic 122, 3) := by decide +kernel
theorem dJxe99ae_doubleToLongBits_ccdee_4 : decode cJxe99ae_doubleToLongBits_ccdee 4 = .ok (.ifCond .ne 8, 3) := by decide +kernel
theorem dJxe99ae_doubleToLongBits_ccdee_7 : decode cJxe99ae_doubleToLongBits_ccdee 7 = .ok (.dload_n 0, 1) := by decide +kernel
theorem dJxe99ae_doubleToLongBits_ccdee_8 : decode cJxe99ae_doubleToLongBits_ccdee 8 = .ok (.invokestatic 134, 3) := by decide +kernel
theorem dJxe99ae_doubleToLongBits_ccdee_11 : decode cJxe99ae_doubleToLongBits_ccdee 11 = .ok (.lreturn, 1) := by decide +kernel
theorem dJxe99ae_doubleToLongBits_ccdee_12 : decode cJxe99ae_doubleToLongBits_ccdee 12 = .ok (.ldc2_w 137, 3) := by decide +kernel
theorem dJxe99ae_doubleToLongBits_ccdee_15 : decode cJxe99ae_doubleToLongBits_ccdee 15 = .ok (.lreturn, 1) := by decide +kernel
theorem dJ9_max_7cf53_0 : decode cJ9_max_7cf53 0 = .ok (.iload_n 0, 1) := by decide +kernel
theorem dJ9_max_7cf53_1 : decode cJ9_max_7cf53 1 = .ok (.iload_n 1, 1) := by decide +kernel
theorem dJ9_max_7cf53_2 : decode cJ9_max_7cf53 2 = .ok (.if_icmp .lt 7, 3) := by decide +kernel
theorem dJ9_max_7cf53_5 : decode cJ9_max_7cf53 5 = .ok (.iload_n 0, 1) := by decide +kernel
theorem dJ9_max_7cf53_6 : decode cJ9_max_7cf53 6 = .ok (.goto 4, 3) := by decide +kernel
theorem dJ9_max_7cf53_9 : decode cJ9_max_7cf53 9 = .ok (.iload_n 1, 1) := by decide +kernel
theorem dJ9_max_7cf53_10 : decode cJ9_max_7cf53 10 = .ok (.ireturn, 1) := by decide +kernel
theorem dJ9_min_7cf53_0 : decode cJ9_min_7cf53 0 = .ok (.iload_n 0, 1) := by decide +kernel
theorem dJ9_min_7cf53_1 : decode cJ9_min_7cf53 1 = .ok (.iload_n 1, 1) := by decide +kernel
theorem dJ9_min_7cf53_2 : decode cJ9_min_7cf53 2 = .ok (.if_icmp .gt 7, 3) := by decide +kernel
theorem dJ9_min_7cf53_5 : decode cJ9_min_7cf53 5 = .ok (.iload_n 0, 1) := by decide +kernel
theorem dJ9_min_7cf53_6 : decode cJ9_min_7cf53 6 = .ok (.goto 4, 3) := by decide +kernel
theorem dJ9_min_7cf53_9 : decode cJ9_min_7cf53 9 = .ok (.iload_n 1, 1) := by decide +kernel
theorem dJ9_min_7cf53_10 : decode cJ9_min_7cf53 10 = .ok (.ireturn, 1) := by decide +kernel
theorem dL_buy_0 : decode cL_buy 0 = .ok (.aload 4, 2) := by decide +kernel
theorem dL_buy_2 : decode cL_buy 2 = .ok (.iconst 0, 1) := by decide +kernel
theorem dL_buy_3 : decode cL_buy 3 = .ok (.aload_n 0, 1) := by decide +kernel
theorem dL_buy_4 : decode cL_buy 4 = .ok (.iload_n 1, 1) := by decide +kernel
theorem dL_buy_5 : decode cL_buy 5 = .ok (.iload_n 2, 1) := by decide +kernel
theorem dL_buy_6 : decode cL_buy 6 = .ok (.iload_n 3, 1) := by decide +kernel
theorem dL_buy_7 : decode cL_buy 7 = .ok (.invokevirtual 7, 3) := by decide +kernel
theorem dL_buy_10 : decode cL_buy 10 = .ok (.i2l, 1) := by decide +kernel
theorem dL_buy_11 : decode cL_buy 11 = .ok (.lastore, 1) := by decide +kernel
theorem dL_buy_12 : decode cL_buy 12 = .ok (.goto 11, 3) := by decide +kernel
theorem dL_buy_15 : decode cL_buy 15 = .ok (.astore 5, 2) := by decide +kernel
theorem dL_buy_17 : decode cL_buy 17 = .ok (.iconst 1, 1) := by decide +kernel
theorem dL_buy_18 : decode cL_buy 18 = .ok (.ireturn, 1) := by decide +kernel
theorem dL_buy_19 : decode cL_buy 19 = .ok (.astore 5, 2) := by decide +kernel
theorem dL_buy_21 : decode cL_buy 21 = .ok (.iconst 2, 1) := by decide +kernel
theorem dL_buy_22 : decode cL_buy 22 = .ok (.ireturn, 1) := by decide +kernel
theorem dL_buy_23 : decode cL_buy 23 = .ok (.iconst 0, 1) := by decide +kernel
theorem dL_buy_24 : decode cL_buy 24 = .ok (.ireturn, 1) := by decide +kernel
theorem dL_renew_0 : decode cL_renew 0 = .ok (.aload_n 2, 1) := by decide +kernel
theorem dL_renew_1 : decode cL_renew 1 = .ok (.iconst 0, 1) := by decide +kernel
theorem dL_renew_2 : decode cL_renew 2 = .ok (.aload_n 0, 1) := by decide +kernel
theorem dL_renew_3 : decode cL_renew 3 = .ok (.iload_n 1, 1) := by decide +kernel
theorem dL_renew_4 : decode cL_renew 4 = .ok (.invokevirtual 17, 3) := by decide +kernel
theorem dL_renew_7 : decode cL_renew 7 = .ok (.i2l, 1) := by decide +kernel
theorem dL_renew_8 : decode cL_renew 8 = .ok (.lastore, 1) := by decide +kernel
theorem dL_renew_9 : decode cL_renew 9 = .ok (.goto 9, 3) := by decide +kernel
theorem dL_renew_12 : decode cL_renew 12 = .ok (.astore_n 3, 1) := by decide +kernel
theorem dL_renew_13 : decode cL_renew 13 = .ok (.iconst 1, 1) := by decide +kernel
theorem dL_renew_14 : decode cL_renew 14 = .ok (.ireturn, 1) := by decide +kernel
theorem dL_renew_15 : decode cL_renew 15 = .ok (.astore_n 3, 1) := by decide +kernel
theorem dL_renew_16 : decode cL_renew 16 = .ok (.iconst 2, 1) := by decide +kernel
theorem dL_renew_17 : decode cL_renew 17 = .ok (.ireturn, 1) := by decide +kernel
theorem dL_renew_18 : decode cL_renew 18 = .ok (.iconst 0, 1) := by decide +kernel
theorem dL_renew_19 : decode cL_renew 19 = .ok (.ireturn, 1) := by decide +kernel
theorem dL_put_0 : decode cL_put 0 = .ok (.aload_n 3, 1) := by decide +kernel
theorem dL_put_1 : decode cL_put 1 = .ok (.iconst 0, 1) := by decide +kernel
theorem dL_put_2 : decode cL_put 2 = .ok (.aload_n 0, 1) := by decide +kernel
theorem dL_put_3 : decode cL_put 3 = .ok (.iload_n 1, 1) := by decide +kernel
theorem dL_put_4 : decode cL_put 4 = .ok (.iload_n 2, 1) := by decide +kernel
theorem dL_put_5 : decode cL_put 5 = .ok (.invokevirtual 23, 3) := by decide +kernel
theorem dL_put_8 : decode cL_put 8 = .ok (.i2l, 1) := by decide +kernel
theorem dL_put_9 : decode cL_put 9 = .ok (.lastore, 1) := by decide +kernel
theorem dL_put_10 : decode cL_put 10 = .ok (.goto 15, 3) := by decide +kernel
theorem dL_put_13 : decode cL_put 13 = .ok (.astore 4, 2) := by decide +kernel
theorem dL_put_15 : decode cL_put 15 = .ok (.iconst 1, 1) := by decide +kernel
theorem dL_put_16 : decode cL_put 16 = .ok (.ireturn, 1) := by decide +kernel
theorem dL_put_17 : decode cL_put 17 = .ok (.astore 4, 2) := by decide +kernel
theorem dL_put_19 : decode cL_put 19 = .ok (.iconst 2, 1) := by decide +kernel
theorem dL_put_20 : decode cL_put 20 = .ok (.ireturn, 1) := by decide +kernel
theorem dL_put_21 : decode cL_put 21 = .ok (.astore 4, 2) := by decide +kernel
theorem dL_put_23 : decode cL_put 23 = .ok (.iconst 3, 1) := by decide +kernel
theorem dL_put_24 : decode cL_put 24 = .ok (.ireturn, 1) := by decide +kernel
theorem dL_put_25 : decode cL_put 25 = .ok (.iconst 0, 1) := by decide +kernel
theorem dL_put_26 : decode cL_put 26 = .ok (.ireturn, 1) := by decide +kernel
theorem dL_lend_0 : decode cL_lend 0 = .ok (.aload_n 3, 1) := by decide +kernel
theorem dL_lend_1 : decode cL_lend 1 = .ok (.iconst 0, 1) := by decide +kernel
theorem dL_lend_2 : decode cL_lend 2 = .ok (.aload_n 0, 1) := by decide +kernel
theorem dL_lend_3 : decode cL_lend 3 = .ok (.iload_n 1, 1) := by decide +kernel
theorem dL_lend_4 : decode cL_lend 4 = .ok (.iload_n 2, 1) := by decide +kernel
theorem dL_lend_5 : decode cL_lend 5 = .ok (.invokevirtual 27, 3) := by decide +kernel
theorem dL_lend_8 : decode cL_lend 8 = .ok (.i2l, 1) := by decide +kernel
theorem dL_lend_9 : decode cL_lend 9 = .ok (.lastore, 1) := by decide +kernel
theorem dL_lend_10 : decode cL_lend 10 = .ok (.goto 15, 3) := by decide +kernel
theorem dL_lend_13 : decode cL_lend 13 = .ok (.astore 4, 2) := by decide +kernel
theorem dL_lend_15 : decode cL_lend 15 = .ok (.iconst 1, 1) := by decide +kernel
theorem dL_lend_16 : decode cL_lend 16 = .ok (.ireturn, 1) := by decide +kernel
theorem dL_lend_17 : decode cL_lend 17 = .ok (.astore 4, 2) := by decide +kernel
theorem dL_lend_19 : decode cL_lend 19 = .ok (.iconst 2, 1) := by decide +kernel
theorem dL_lend_20 : decode cL_lend 20 = .ok (.ireturn, 1) := by decide +kernel
theorem dL_lend_21 : decode cL_lend 21 = .ok (.astore 4, 2) := by decide +kernel
theorem dL_lend_23 : decode cL_lend 23 = .ok (.iconst 3, 1) := by decide +kernel
theorem dL_lend_24 : decode cL_lend 24 = .ok (.ireturn, 1) := by decide +kernel
theorem dL_lend_25 : decode cL_lend 25 = .ok (.iconst 0, 1) := by decide +kernel
theorem dL_lend_26 : decode cL_lend 26 = .ok (.ireturn, 1) := by decide +kernel
theorem dL_test_0 : decode cL_test 0 = .ok (.aload_n 3, 1) := by decide +kernel
theorem dL_test_1 : decode cL_test 1 = .ok (.iconst 0, 1) := by decide +kernel
theorem dL_test_2 : decode cL_test 2 = .ok (.aload_n 0, 1) := by decide +kernel
theorem dL_test_3 : decode cL_test 3 = .ok (.iload_n 1, 1) := by decide +kernel
theorem dL_test_4 : decode cL_test 4 = .ok (.iload_n 2, 1) := by decide +kernel
theorem dL_test_5 : decode cL_test 5 = .ok (.invokevirtual 30, 3) := by decide +kernel
theorem dL_test_8 : decode cL_test 8 = .ok (.i2l, 1) := by decide +kernel
theorem dL_test_9 : decode cL_test 9 = .ok (.lastore, 1) := by decide +kernel
theorem dL_test_10 : decode cL_test 10 = .ok (.goto 15, 3) := by decide +kernel
theorem dL_test_13 : decode cL_test 13 = .ok (.astore 4, 2) := by decide +kernel
theorem dL_test_15 : decode cL_test 15 = .ok (.iconst 1, 1) := by decide +kernel
theorem dL_test_16 : decode cL_test 16 = .ok (.ireturn, 1) := by decide +kernel
theorem dL_test_17 : decode cL_test 17 = .ok (.astore 4, 2) := by decide +kernel
theorem dL_test_19 : decode cL_test 19 = .ok (.iconst 2, 1) := by decide +kernel
theorem dL_test_20 : decode cL_test 20 = .ok (.ireturn, 1) := by decide +kernel
theorem dL_test_21 : decode cL_test 21 = .ok (.astore 4, 2) := by decide +kernel
theorem dL_test_23 : decode cL_test 23 = .ok (.iconst 3, 1) := by decide +kernel
theorem dL_test_24 : decode cL_test 24 = .ok (.ireturn, 1) := by decide +kernel
theorem dL_test_25 : decode cL_test 25 = .ok (.iconst 0, 1) := by decide +kernel
theorem dL_test_26 : decode cL_test 26 = .ok (.ireturn, 1) := by decide +kernel
theorem dL_want_0 : decode cL_want 0 = .ok (.aload_n 3, 1) := by decide +kernel
theorem dL_want_1 : decode cL_want 1 = .ok (.iconst 0, 1) := by decide +kernel
theorem dL_want_2 : decode cL_want 2 = .ok (.aload_n 0, 1) := by decide +kernel
theorem dL_want_3 : decode cL_want 3 = .ok (.iload_n 1, 1) := by decide +kernel
theorem dL_want_4 : decode cL_want 4 = .ok (.iload_n 2, 1) := by decide +kernel
theorem dL_want_5 : decode cL_want 5 = .ok (.invokevirtual 33, 3) := by decide +kernel
theorem dL_want_8 : decode cL_want 8 = .ok (.i2l, 1) := by decide +kernel
theorem dL_want_9 : decode cL_want 9 = .ok (.lastore, 1) := by decide +kernel
theorem dL_want_10 : decode cL_want 10 = .ok (.goto 11, 3) := by decide +kernel
theorem dL_want_13 : decode cL_want 13 = .ok (.astore 4, 2) := by decide +kernel
theorem dL_want_15 : decode cL_want 15 = .ok (.iconst 1, 1) := by decide +kernel
theorem dL_want_16 : decode cL_want 16 = .ok (.ireturn, 1) := by decide +kernel
theorem dL_want_17 : decode cL_want 17 = .ok (.astore 4, 2) := by decide +kernel
theorem dL_want_19 : decode cL_want 19 = .ok (.iconst 2, 1) := by decide +kernel
theorem dL_want_20 : decode cL_want 20 = .ok (.ireturn, 1) := by decide +kernel
theorem dL_want_21 : decode cL_want 21 = .ok (.iconst 0, 1) := by decide +kernel
theorem dL_want_22 : decode cL_want 22 = .ok (.ireturn, 1) := by decide +kernel
theorem dL_set_0 : decode cL_set 0 = .ok (.aload_n 3, 1) := by decide +kernel
theorem dL_set_1 : decode cL_set 1 = .ok (.iconst 0, 1) := by decide +kernel
theorem dL_set_2 : decode cL_set 2 = .ok (.aload_n 0, 1) := by decide +kernel
theorem dL_set_3 : decode cL_set 3 = .ok (.iload_n 1, 1) := by decide +kernel
theorem dL_set_4 : decode cL_set 4 = .ok (.iload_n 2, 1) := by decide +kernel
theorem dL_set_5 : decode cL_set 5 = .ok (.invokevirtual 36, 3) := by decide +kernel
theorem dL_set_8 : decode cL_set 8 = .ok (.i2l, 1) := by decide +kernel
theorem dL_set_9 : decode cL_set 9 = .ok (.lastore, 1) := by decide +kernel
theorem dL_set_10 : decode cL_set 10 = .ok (.goto 11, 3) := by decide +kernel
theorem dL_set_13 : decode cL_set 13 = .ok (.astore 4, 2) := by decide +kernel
theorem dL_set_15 : decode cL_set 15 = .ok (.iconst 1, 1) := by decide +kernel
theorem dL_set_16 : decode cL_set 16 = .ok (.ireturn, 1) := by decide +kernel
theorem dL_set_17 : decode cL_set 17 = .ok (.astore 4, 2) := by decide +kernel
theorem dL_set_19 : decode cL_set 19 = .ok (.iconst 2, 1) := by decide +kernel
theorem dL_set_20 : decode cL_set 20 = .ok (.ireturn, 1) := by decide +kernel
theorem dL_set_21 : decode cL_set 21 = .ok (.iconst 0, 1) := by decide +kernel
theorem dL_set_22 : decode cL_set 22 = .ok (.ireturn, 1) := by decide +kernel
theorem dL_pass_0 : decode cL_pass 0 = .ok (.aload_n 2, 1) := by decide +kernel
theorem dL_pass_1 : decode cL_pass 1 = .ok (.iconst 0, 1) := by decide +kernel
theorem dL_pass_2 : decode cL_pass 2 = .ok (.aload_n 0, 1) := by decide +kernel
theorem dL_pass_3 : decode cL_pass 3 = .ok (.iload_n 1, 1) := by decide +kernel
theorem dL_pass_4 : decode cL_pass 4 = .ok (.invokevirtual 39, 3) := by decide +kernel
theorem dL_pass_7 : decode cL_pass 7 = .ok (.i2l, 1) := by decide +kernel
theorem dL_pass_8 : decode cL_pass 8 = .ok (.lastore, 1) := by decide +kernel
theorem dL_pass_9 : decode cL_pass 9 = .ok (.goto 6, 3) := by decide +kernel
theorem dL_pass_12 : decode cL_pass 12 = .ok (.astore_n 3, 1) := by decide +kernel
theorem dL_pass_13 : decode cL_pass 13 = .ok (.iconst 1, 1) := by decide +kernel
theorem dL_pass_14 : decode cL_pass 14 = .ok (.ireturn, 1) := by decide +kernel
theorem dL_pass_15 : decode cL_pass 15 = .ok (.iconst 0, 1) := by decide +kernel
theorem dL_pass_16 : decode cL_pass 16 = .ok (.ireturn, 1) := by decide +kernel
theorem dL_append_0 : decode cL_append 0 = .ok (.aload_n 2, 1) := by decide +kernel
theorem dL_append_1 : decode cL_append 1 = .ok (.iconst 0, 1) := by decide +kernel
theorem dL_append_2 : decode cL_append 2 = .ok (.aload_n 0, 1) := by decide +kernel
theorem dL_append_3 : decode cL_append 3 = .ok (.iload_n 1, 1) := by decide +kernel
theorem dL_append_4 : decode cL_append 4 = .ok (.invokevirtual 42, 3) := by decide +kernel
theorem dL_append_7 : decode cL_append 7 = .ok (.i2l, 1) := by decide +kernel
theorem dL_append_8 : decode cL_append 8 = .ok (.lastore, 1) := by decide +kernel
theorem dL_append_9 : decode cL_append 9 = .ok (.goto 9, 3) := by decide +kernel
theorem dL_append_12 : decode cL_append 12 = .ok (.astore_n 3, 1) := by decide +kernel
theorem dL_append_13 : decode cL_append 13 = .ok (.iconst 1, 1) := by decide +kernel
theorem dL_append_14 : decode cL_append 14 = .ok (.ireturn, 1) := by decide +kernel
theorem dL_append_15 : decode cL_append 15 = .ok (.astore_n 3, 1) := by decide +kernel
theorem dL_append_16 : decode cL_append 16 = .ok (.iconst 2, 1) := by decide +kernel
theorem dL_append_17 : decode cL_append 17 = .ok (.ireturn, 1) := by decide +kernel
theorem dL_append_18 : decode cL_append 18 = .ok (.iconst 0, 1) := by decide +kernel
theorem dL_append_19 : decode cL_append 19 = .ok (.ireturn, 1) := by decide +kernel
theorem dL_buyAll_0 : decode cL_buyAll 0 = .ok (.aload_n 1, 1) := by decide +kernel
theorem dL_buyAll_1 : decode cL_buyAll 1 = .ok (.iconst 0, 1) := by decide +kernel
theorem dL_buyAll_2 : decode cL_buyAll 2 = .ok (.aload_n 0, 1) := by decide +kernel
theorem dL_buyAll_3 : decode cL_buyAll 3 = .ok (.invokevirtual 45, 3) := by decide +kernel
theorem dL_buyAll_6 : decode cL_buyAll 6 = .ok (.i2l, 1) := by decide +kernel
theorem dL_buyAll_7 : decode cL_buyAll 7 = .ok (.lastore, 1) := by decide +kernel
theorem dL_buyAll_8 : decode cL_buyAll 8 = .ok (.goto 6, 3) := by decide +kernel
theorem dL_buyAll_11 : decode cL_buyAll 11 = .ok (.astore_n 2, 1) := by decide +kernel
theorem dL_buyAll_12 : decode cL_buyAll 12 = .ok (.iconst 1, 1) := by decide +kernel
theorem dL_buyAll_13 : decode cL_buyAll 13 = .ok (.ireturn, 1) := by decide +kernel
theorem dL_buyAll_14 : decode cL_buyAll 14 = .ok (.iconst 0, 1) := by decide +kernel
theorem dL_buyAll_15 : decode cL_buyAll 15 = .ok (.ireturn, 1) := by decide +kernel
theorem dL_undo_0 : decode cL_undo 0 = .ok (.aload_n 1, 1) := by decide +kernel
theorem dL_undo_1 : decode cL_undo 1 = .ok (.iconst 0, 1) := by decide +kernel
theorem dL_undo_2 : decode cL_undo 2 = .ok (.aload_n 0, 1) := by decide +kernel
theorem dL_undo_3 : decode cL_undo 3 = .ok (.invokevirtual 49, 3) := by decide +kernel
theorem dL_undo_6 : decode cL_undo 6 = .ok (.i2l, 1) := by decide +kernel
theorem dL_undo_7 : decode cL_undo 7 = .ok (.lastore, 1) := by decide +kernel
theorem dL_undo_8 : decode cL_undo 8 = .ok (.goto 6, 3) := by decide +kernel
theorem dL_undo_11 : decode cL_undo 11 = .ok (.astore_n 2, 1) := by decide +kernel
theorem dL_undo_12 : decode cL_undo 12 = .ok (.iconst 1, 1) := by decide +kernel
theorem dL_undo_13 : decode cL_undo 13 = .ok (.ireturn, 1) := by decide +kernel
theorem dL_undo_14 : decode cL_undo 14 = .ok (.iconst 0, 1) := by decide +kernel
theorem dL_undo_15 : decode cL_undo 15 = .ok (.ireturn, 1) := by decide +kernel
theorem dL_hose_0 : decode cL_hose 0 = .ok (.aload_n 3, 1) := by decide +kernel
theorem dL_hose_1 : decode cL_hose 1 = .ok (.iconst 0, 1) := by decide +kernel
theorem dL_hose_2 : decode cL_hose 2 = .ok (.aload_n 0, 1) := by decide +kernel
theorem dL_hose_3 : decode cL_hose 3 = .ok (.iload_n 1, 1) := by decide +kernel
theorem dL_hose_4 : decode cL_hose 4 = .ok (.iload_n 2, 1) := by decide +kernel
theorem dL_hose_5 : decode cL_hose 5 = .ok (.invokevirtual 52, 3) := by decide +kernel
theorem dL_hose_8 : decode cL_hose 8 = .ok (.i2l, 1) := by decide +kernel
theorem dL_hose_9 : decode cL_hose 9 = .ok (.lastore, 1) := by decide +kernel
theorem dL_hose_10 : decode cL_hose 10 = .ok (.goto 11, 3) := by decide +kernel
theorem dL_hose_13 : decode cL_hose 13 = .ok (.astore 4, 2) := by decide +kernel
theorem dL_hose_15 : decode cL_hose 15 = .ok (.iconst 1, 1) := by decide +kernel
theorem dL_hose_16 : decode cL_hose 16 = .ok (.ireturn, 1) := by decide +kernel
theorem dL_hose_17 : decode cL_hose 17 = .ok (.astore 4, 2) := by decide +kernel
theorem dL_hose_19 : decode cL_hose 19 = .ok (.iconst 2, 1) := by decide +kernel
theorem dL_hose_20 : decode cL_hose 20 = .ok (.ireturn, 1) := by decide +kernel
theorem dL_hose_21 : decode cL_hose 21 = .ok (.iconst 0, 1) := by decide +kernel
theorem dL_hose_22 : decode cL_hose 22 = .ok (.ireturn, 1) := by decide +kernel
theorem dL_truck_0 : decode cL_truck 0 = .ok (.aload_n 3, 1) := by decide +kernel
theorem dL_truck_1 : decode cL_truck 1 = .ok (.iconst 0, 1) := by decide +kernel
theorem dL_truck_2 : decode cL_truck 2 = .ok (.aload_n 0, 1) := by decide +kernel
theorem dL_truck_3 : decode cL_truck 3 = .ok (.iload_n 1, 1) := by decide +kernel
theorem dL_truck_4 : decode cL_truck 4 = .ok (.iload_n 2, 1) := by decide +kernel
theorem dL_truck_5 : decode cL_truck 5 = .ok (.invokevirtual 55, 3) := by decide +kernel
theorem dL_truck_8 : decode cL_truck 8 = .ok (.i2l, 1) := by decide +kernel
theorem dL_truck_9 : decode cL_truck 9 = .ok (.lastore, 1) := by decide +kernel
theorem dL_truck_10 : decode cL_truck 10 = .ok (.goto 11, 3) := by decide +kernel
theorem dL_truck_13 : decode cL_truck 13 = .ok (.astore 4, 2) := by decide +kernel
theorem dL_truck_15 : decode cL_truck 15 = .ok (.iconst 1, 1) := by decide +kernel
theorem dL_truck_16 : decode cL_truck 16 = .ok (.ireturn, 1) := by decide +kernel
theorem dL_truck_17 : decode cL_truck 17 = .ok (.astore 4, 2) := by decide +kernel
theorem dL_truck_19 : decode cL_truck 19 = .ok (.iconst 2, 1) := by decide +kernel
theorem dL_truck_20 : decode cL_truck 20 = .ok (.ireturn, 1) := by decide +kernel
theorem dL_truck_21 : decode cL_truck 21 = .ok (.iconst 0, 1) := by decide +kernel
theorem dL_truck_22 : decode cL_truck 22 = .ok (.ireturn, 1) := by decide +kernel
theorem dL_count_0 : decode cL_count 0 = .ok (.aload_n 2, 1) := by decide +kernel
theorem dL_count_1 : decode cL_count 1 = .ok (.iconst 0, 1) := by decide +kernel
theorem dL_count_2 : decode cL_count 2 = .ok (.aload_n 0, 1) := by decide +kernel
theorem dL_count_3 : decode cL_count 3 = .ok (.iload_n 1, 1) := by decide +kernel
theorem dL_count_4 : decode cL_count 4 = .ok (.invokevirtual 58, 3) := by decide +kernel
theorem dL_count_7 : decode cL_count 7 = .ok (.i2l, 1) := by decide +kernel
theorem dL_count_8 : decode cL_count 8 = .ok (.lastore, 1) := by decide +kernel
theorem dL_count_9 : decode cL_count 9 = .ok (.goto 6, 3) := by decide +kernel
theorem dL_count_12 : decode cL_count 12 = .ok (.astore_n 3, 1) := by decide +kernel
theorem dL_count_13 : decode cL_count 13 = .ok (.iconst 1, 1) := by decide +kernel
theorem dL_count_14 : decode cL_count 14 = .ok (.ireturn, 1) := by decide +kernel
theorem dL_count_15 : decode cL_count 15 = .ok (.iconst 0, 1) := by decide +kernel
theorem dL_count_16 : decode cL_count 16 = .ok (.ireturn, 1) := by decide +kernel
theorem dL_setting_0 : decode cL_setting 0 = .ok (.aload_n 2, 1) := by decide +kernel
theorem dL_setting_1 : decode cL_setting 1 = .ok (.iconst 0, 1) := by decide +kernel
theorem dL_setting_2 : decode cL_setting 2 = .ok (.aload_n 0, 1) := by decide +kernel
theorem dL_setting_3 : decode cL_setting 3 = .ok (.iload_n 1, 1) := by decide +kernel
theorem dL_setting_4 : decode cL_setting 4 = .ok (.invokevirtual 61, 3) := by decide +kernel
theorem dL_setting_7 : decode cL_setting 7 = .ok (.i2l, 1) := by decide +kernel
theorem dL_setting_8 : decode cL_setting 8 = .ok (.lastore, 1) := by decide +kernel
theorem dL_setting_9 : decode cL_setting 9 = .ok (.goto 6, 3) := by decide +kernel
theorem dL_setting_12 : decode cL_setting 12 = .ok (.astore_n 3, 1) := by decide +kernel
theorem dL_setting_13 : decode cL_setting 13 = .ok (.iconst 1, 1) := by decide +kernel
theorem dL_setting_14 : decode cL_setting 14 = .ok (.ireturn, 1) := by decide +kernel
theorem dL_setting_15 : decode cL_setting 15 = .ok (.iconst 0, 1) := by decide +kernel
theorem dL_setting_16 : decode cL_setting 16 = .ok (.ireturn, 1) := by decide +kernel
theorem dL_ifTested_0 : decode cL_ifTested 0 = .ok (.aload_n 3, 1) := by decide +kernel
theorem dL_ifTested_1 : decode cL_ifTested 1 = .ok (.iconst 0, 1) := by decide +kernel
theorem dL_ifTested_2 : decode cL_ifTested 2 = .ok (.aload_n 0, 1) := by decide +kernel
theorem dL_ifTested_3 : decode cL_ifTested 3 = .ok (.iload_n 1, 1) := by decide +kernel
theorem dL_ifTested_4 : decode cL_ifTested 4 = .ok (.iload_n 2, 1) := by decide +kernel
theorem dL_ifTested_5 : decode cL_ifTested 5 = .ok (.invokevirtual 64, 3) := by decide +kernel
theorem dL_ifTested_8 : decode cL_ifTested 8 = .ok (.i2l, 1) := by decide +kernel
theorem dL_ifTested_9 : decode cL_ifTested 9 = .ok (.lastore, 1) := by decide +kernel
theorem dL_ifTested_10 : decode cL_ifTested 10 = .ok (.goto 11, 3) := by decide +kernel
theorem dL_ifTested_13 : decode cL_ifTested 13 = .ok (.astore 4, 2) := by decide +kernel
theorem dL_ifTested_15 : decode cL_ifTested 15 = .ok (.iconst 1, 1) := by decide +kernel
theorem dL_ifTested_16 : decode cL_ifTested 16 = .ok (.ireturn, 1) := by decide +kernel
theorem dL_ifTested_17 : decode cL_ifTested 17 = .ok (.astore 4, 2) := by decide +kernel
theorem dL_ifTested_19 : decode cL_ifTested 19 = .ok (.iconst 2, 1) := by decide +kernel
theorem dL_ifTested_20 : decode cL_ifTested 20 = .ok (.ireturn, 1) := by decide +kernel
theorem dL_ifTested_21 : decode cL_ifTested 21 = .ok (.iconst 0, 1) := by decide +kernel
theorem dL_ifTested_22 : decode cL_ifTested 22 = .ok (.ireturn, 1) := by decide +kernel
theorem dL_safe_0 : decode cL_safe 0 = .ok (.aload_n 2, 1) := by decide +kernel
theorem dL_safe_1 : decode cL_safe 1 = .ok (.iconst 0, 1) := by decide +kernel
theorem dL_safe_2 : decode cL_safe 2 = .ok (.aload_n 0, 1) := by decide +kernel
theorem dL_safe_3 : decode cL_safe 3 = .ok (.iload_n 1, 1) := by decide +kernel
theorem dL_safe_4 : decode cL_safe 4 = .ok (.invokevirtual 67, 3) := by decide +kernel
theorem dL_safe_7 : decode cL_safe 7 = .ok (.i2l, 1) := by decide +kernel
theorem dL_safe_8 : decode cL_safe 8 = .ok (.lastore, 1) := by decide +kernel
theorem dL_safe_9 : decode cL_safe 9 = .ok (.goto 6, 3) := by decide +kernel
theorem dL_safe_12 : decode cL_safe 12 = .ok (.astore_n 3, 1) := by decide +kernel
theorem dL_safe_13 : decode cL_safe 13 = .ok (.iconst 1, 1) := by decide +kernel
theorem dL_safe_14 : decode cL_safe 14 = .ok (.ireturn, 1) := by decide +kernel
theorem dL_safe_15 : decode cL_safe 15 = .ok (.iconst 0, 1) := by decide +kernel
theorem dL_safe_16 : decode cL_safe 16 = .ok (.ireturn, 1) := by decide +kernel
theorem dL_helps_0 : decode cL_helps 0 = .ok (.aload_n 2, 1) := by decide +kernel
theorem dL_helps_1 : decode cL_helps 1 = .ok (.iconst 0, 1) := by decide +kernel
theorem dL_helps_2 : decode cL_helps 2 = .ok (.aload_n 0, 1) := by decide +kernel
theorem dL_helps_3 : decode cL_helps 3 = .ok (.iload_n 1, 1) := by decide +kernel
theorem dL_helps_4 : decode cL_helps 4 = .ok (.invokevirtual 70, 3) := by decide +kernel
theorem dL_helps_7 : decode cL_helps 7 = .ok (.i2l, 1) := by decide +kernel
theorem dL_helps_8 : decode cL_helps 8 = .ok (.lastore, 1) := by decide +kernel
theorem dL_helps_9 : decode cL_helps 9 = .ok (.goto 6, 3) := by decide +kernel
theorem dL_helps_12 : decode cL_helps 12 = .ok (.astore_n 3, 1) := by decide +kernel
theorem dL_helps_13 : decode cL_helps 13 = .ok (.iconst 1, 1) := by decide +kernel
theorem dL_helps_14 : decode cL_helps 14 = .ok (.ireturn, 1) := by decide +kernel
theorem dL_helps_15 : decode cL_helps 15 = .ok (.iconst 0, 1) := by decide +kernel
theorem dL_helps_16 : decode cL_helps 16 = .ok (.ireturn, 1) := by decide +kernel
theorem dL_law_0 : decode cL_law 0 = .ok (.new 8, 3) := by decide +kernel
theorem dL_law_3 : decode cL_law 3 = .ok (.dup, 1) := by decide +kernel
theorem dL_law_4 : decode cL_law 4 = .ok (.invokespecial 73, 3) := by decide +kernel
theorem dL_law_7 : decode cL_law 7 = .ok (.astore_n 1, 1) := by decide +kernel
theorem dL_law_8 : decode cL_law 8 = .ok (.new 74, 3) := by decide +kernel
theorem dL_law_11 : decode cL_law 11 = .ok (.dup, 1) := by decide +kernel
theorem dL_law_12 : decode cL_law 12 = .ok (.invokespecial 76, 3) := by decide +kernel
theorem dL_law_15 : decode cL_law 15 = .ok (.astore_n 2, 1) := by decide +kernel
theorem dL_law_16 : decode cL_law 16 = .ok (.iconst 1, 1) := by decide +kernel
theorem dL_law_17 : decode cL_law 17 = .ok (.newarray .long, 2) := by decide +kernel
theorem dL_law_19 : decode cL_law 19 = .ok (.astore_n 3, 1) := by decide +kernel
theorem dL_law_20 : decode cL_law 20 = .ok (.iconst 0, 1) := by decide +kernel
theorem dL_law_21 : decode cL_law 21 = .ok (.istore 4, 2) := by decide +kernel
theorem dL_law_23 : decode cL_law 23 = .ok (.iload 4, 2) := by decide +kernel
theorem dL_law_25 : decode cL_law 25 = .ok (.aload_n 0, 1) := by decide +kernel
theorem dL_law_26 : decode cL_law 26 = .ok (.arraylength, 1) := by decide +kernel
theorem dL_law_27 : decode cL_law 27 = .ok (.iconst 4, 1) := by decide +kernel
theorem dL_law_28 : decode cL_law 28 = .ok (.isub, 1) := by decide +kernel
theorem dL_law_29 : decode cL_law 29 = .ok (.if_icmp .gt 1319, 3) := by decide +kernel
theorem dL_law_32 : decode cL_law 32 = .ok (.aload_n 0, 1) := by decide +kernel
theorem dL_law_33 : decode cL_law 33 = .ok (.iload 4, 2) := by decide +kernel
theorem dL_law_35 : decode cL_law 35 = .ok (.iaload, 1) := by decide +kernel
theorem dL_law_36 : decode cL_law 36 = .ok (.bipush 31, 2) := by decide +kernel
theorem dL_law_38 : decode cL_law 38 = .ok (.iand, 1) := by decide +kernel
theorem dL_law_39 : decode cL_law 39 = .ok (.tableswitch 1303 0 22 #[105, 185, 241, 309, 377, 445, 513, 581, 637, 693, 706, 719, 763, 807, 875, 943, 999, 1055, 1123, 1179, 1192, 1248, 1289], 105) := by decide +kernel
theorem dL_law_144 : decode cL_law 144 = .ok (.aload_n 1, 1) := by decide +kernel
theorem dL_law_145 : decode cL_law 145 = .ok (.aload_n 0, 1) := by decide +kernel
theorem dL_law_146 : decode cL_law 146 = .ok (.iload 4, 2) := by decide +kernel
theorem dL_law_148 : decode cL_law 148 = .ok (.iconst 1, 1) := by decide +kernel
theorem dL_law_149 : decode cL_law 149 = .ok (.iadd, 1) := by decide +kernel
theorem dL_law_150 : decode cL_law 150 = .ok (.iaload, 1) := by decide +kernel
theorem dL_law_151 : decode cL_law 151 = .ok (.aload_n 0, 1) := by decide +kernel
theorem dL_law_152 : decode cL_law 152 = .ok (.iload 4, 2) := by decide +kernel
theorem dL_law_154 : decode cL_law 154 = .ok (.iconst 2, 1) := by decide +kernel
theorem dL_law_155 : decode cL_law 155 = .ok (.iadd, 1) := by decide +kernel
theorem dL_law_156 : decode cL_law 156 = .ok (.iaload, 1) := by decide +kernel
theorem dL_law_157 : decode cL_law 157 = .ok (.aload_n 0, 1) := by decide +kernel
theorem dL_law_158 : decode cL_law 158 = .ok (.iload 4, 2) := by decide +kernel
theorem dL_law_160 : decode cL_law 160 = .ok (.iconst 3, 1) := by decide +kernel
theorem dL_law_161 : decode cL_law 161 = .ok (.iadd, 1) := by decide +kernel
theorem dL_law_162 : decode cL_law 162 = .ok (.iaload, 1) := by decide +kernel
theorem dL_law_163 : decode cL_law 163 = .ok (.aload_n 3, 1) := by decide +kernel
theorem dL_law_164 : decode cL_law 164 = .ok (.invokestatic 77, 3) := by decide +kernel
theorem dL_law_167 : decode cL_law 167 = .ok (.istore 5, 2) := by decide +kernel
theorem dL_law_169 : decode cL_law 169 = .ok (.aload_n 2, 1) := by decide +kernel
theorem dL_law_170 : decode cL_law 170 = .ok (.aload_n 0, 1) := by decide +kernel
theorem dL_law_171 : decode cL_law 171 = .ok (.iload 4, 2) := by decide +kernel
theorem dL_law_173 : decode cL_law 173 = .ok (.iconst 1, 1) := by decide +kernel
theorem dL_law_174 : decode cL_law 174 = .ok (.iadd, 1) := by decide +kernel
theorem dL_law_175 : decode cL_law 175 = .ok (.iaload, 1) := by decide +kernel
theorem dL_law_176 : decode cL_law 176 = .ok (.aload_n 0, 1) := by decide +kernel
theorem dL_law_177 : decode cL_law 177 = .ok (.iload 4, 2) := by decide +kernel
theorem dL_law_179 : decode cL_law 179 = .ok (.iconst 2, 1) := by decide +kernel
theorem dL_law_180 : decode cL_law 180 = .ok (.iadd, 1) := by decide +kernel
theorem dL_law_181 : decode cL_law 181 = .ok (.iaload, 1) := by decide +kernel
theorem dL_law_182 : decode cL_law 182 = .ok (.aload_n 0, 1) := by decide +kernel
theorem dL_law_183 : decode cL_law 183 = .ok (.iload 4, 2) := by decide +kernel
theorem dL_law_185 : decode cL_law 185 = .ok (.iconst 3, 1) := by decide +kernel
theorem dL_law_186 : decode cL_law 186 = .ok (.iadd, 1) := by decide +kernel
theorem dL_law_187 : decode cL_law 187 = .ok (.iaload, 1) := by decide +kernel
theorem dL_law_188 : decode cL_law 188 = .ok (.invokevirtual 82, 3) := by decide +kernel
theorem dL_law_191 : decode cL_law 191 = .ok (.istore 6, 2) := by decide +kernel
theorem dL_law_193 : decode cL_law 193 = .ok (.aload_n 2, 1) := by decide +kernel
theorem dL_law_194 : decode cL_law 194 = .ok (.invokevirtual 83, 3) := by decide +kernel
theorem dL_law_197 : decode cL_law 197 = .ok (.iload 5, 2) := by decide +kernel
theorem dL_law_199 : decode cL_law 199 = .ok (.if_icmp .eq 5, 3) := by decide +kernel
theorem dL_law_202 : decode cL_law 202 = .ok (.iconst 0, 1) := by decide +kernel
theorem dL_law_203 : decode cL_law 203 = .ok (.ireturn, 1) := by decide +kernel
theorem dL_law_204 : decode cL_law 204 = .ok (.iload 5, 2) := by decide +kernel
theorem dL_law_206 : decode cL_law 206 = .ok (.ifCond .ne 15, 3) := by decide +kernel
theorem dL_law_209 : decode cL_law 209 = .ok (.aload_n 3, 1) := by decide +kernel
theorem dL_law_210 : decode cL_law 210 = .ok (.iconst 0, 1) := by decide +kernel
theorem dL_law_211 : decode cL_law 211 = .ok (.laload, 1) := by decide +kernel
theorem dL_law_212 : decode cL_law 212 = .ok (.iload 6, 2) := by decide +kernel
theorem dL_law_214 : decode cL_law 214 = .ok (.i2l, 1) := by decide +kernel
theorem dL_law_215 : decode cL_law 215 = .ok (.lcmp, 1) := by decide +kernel
theorem dL_law_216 : decode cL_law 216 = .ok (.ifCond .eq 5, 3) := by decide +kernel
theorem dL_law_219 : decode cL_law 219 = .ok (.iconst 0, 1) := by decide +kernel
theorem dL_law_220 : decode cL_law 220 = .ok (.ireturn, 1) := by decide +kernel
theorem dL_law_221 : decode cL_law 221 = .ok (.goto 1121, 3) := by decide +kernel
theorem dL_law_224 : decode cL_law 224 = .ok (.aload_n 1, 1) := by decide +kernel
theorem dL_law_225 : decode cL_law 225 = .ok (.aload_n 0, 1) := by decide +kernel
theorem dL_law_226 : decode cL_law 226 = .ok (.iload 4, 2) := by decide +kernel
theorem dL_law_228 : decode cL_law 228 = .ok (.iconst 1, 1) := by decide +kernel
theorem dL_law_229 : decode cL_law 229 = .ok (.iadd, 1) := by decide +kernel
theorem dL_law_230 : decode cL_law 230 = .ok (.iaload, 1) := by decide +kernel
theorem dL_law_231 : decode cL_law 231 = .ok (.aload_n 3, 1) := by decide +kernel
theorem dL_law_232 : decode cL_law 232 = .ok (.invokestatic 86, 3) := by decide +kernel
theorem dL_law_235 : decode cL_law 235 = .ok (.istore 5, 2) := by decide +kernel
theorem dL_law_237 : decode cL_law 237 = .ok (.aload_n 2, 1) := by decide +kernel
theorem dL_law_238 : decode cL_law 238 = .ok (.aload_n 0, 1) := by decide +kernel
theorem dL_law_239 : decode cL_law 239 = .ok (.iload 4, 2) := by decide +kernel
theorem dL_law_241 : decode cL_law 241 = .ok (.iconst 1, 1) := by decide +kernel
theorem dL_law_242 : decode cL_law 242 = .ok (.iadd, 1) := by decide +kernel
theorem dL_law_243 : decode cL_law 243 = .ok (.iaload, 1) := by decide +kernel
theorem dL_law_244 : decode cL_law 244 = .ok (.invokevirtual 89, 3) := by decide +kernel
theorem dL_law_247 : decode cL_law 247 = .ok (.istore 6, 2) := by decide +kernel
theorem dL_law_249 : decode cL_law 249 = .ok (.aload_n 2, 1) := by decide +kernel
theorem dL_law_250 : decode cL_law 250 = .ok (.invokevirtual 83, 3) := by decide +kernel
theorem dL_law_253 : decode cL_law 253 = .ok (.iload 5, 2) := by decide +kernel
theorem dL_law_255 : decode cL_law 255 = .ok (.if_icmp .eq 5, 3) := by decide +kernel
theorem dL_law_258 : decode cL_law 258 = .ok (.iconst 0, 1) := by decide +kernel
theorem dL_law_259 : decode cL_law 259 = .ok (.ireturn, 1) := by decide +kernel
theorem dL_law_260 : decode cL_law 260 = .ok (.iload 5, 2) := by decide +kernel
theorem dL_law_262 : decode cL_law 262 = .ok (.ifCond .ne 15, 3) := by decide +kernel
theorem dL_law_265 : decode cL_law 265 = .ok (.aload_n 3, 1) := by decide +kernel
theorem dL_law_266 : decode cL_law 266 = .ok (.iconst 0, 1) := by decide +kernel
theorem dL_law_267 : decode cL_law 267 = .ok (.laload, 1) := by decide +kernel
theorem dL_law_268 : decode cL_law 268 = .ok (.iload 6, 2) := by decide +kernel
theorem dL_law_270 : decode cL_law 270 = .ok (.i2l, 1) := by decide +kernel
theorem dL_law_271 : decode cL_law 271 = .ok (.lcmp, 1) := by decide +kernel
theorem dL_law_272 : decode cL_law 272 = .ok (.ifCond .eq 5, 3) := by decide +kernel
theorem dL_law_275 : decode cL_law 275 = .ok (.iconst 0, 1) := by decide +kernel
theorem dL_law_276 : decode cL_law 276 = .ok (.ireturn, 1) := by decide +kernel
theorem dL_law_277 : decode cL_law 277 = .ok (.goto 1065, 3) := by decide +kernel
theorem dL_law_280 : decode cL_law 280 = .ok (.aload_n 1, 1) := by decide +kernel
theorem dL_law_281 : decode cL_law 281 = .ok (.aload_n 0, 1) := by decide +kernel
theorem dL_law_282 : decode cL_law 282 = .ok (.iload 4, 2) := by decide +kernel
theorem dL_law_284 : decode cL_law 284 = .ok (.iconst 1, 1) := by decide +kernel
theorem dL_law_285 : decode cL_law 285 = .ok (.iadd, 1) := by decide +kernel
theorem dL_law_286 : decode cL_law 286 = .ok (.iaload, 1) := by decide +kernel
theorem dL_law_287 : decode cL_law 287 = .ok (.aload_n 0, 1) := by decide +kernel
theorem dL_law_288 : decode cL_law 288 = .ok (.iload 4, 2) := by decide +kernel
theorem dL_law_290 : decode cL_law 290 = .ok (.iconst 2, 1) := by decide +kernel
theorem dL_law_291 : decode cL_law 291 = .ok (.iadd, 1) := by decide +kernel
theorem dL_law_292 : decode cL_law 292 = .ok (.iaload, 1) := by decide +kernel
theorem dL_law_293 : decode cL_law 293 = .ok (.aload_n 3, 1) := by decide +kernel
theorem dL_law_294 : decode cL_law 294 = .ok (.invokestatic 90, 3) := by decide +kernel
theorem dL_law_297 : decode cL_law 297 = .ok (.istore 5, 2) := by decide +kernel
theorem dL_law_299 : decode cL_law 299 = .ok (.aload_n 2, 1) := by decide +kernel
theorem dL_law_300 : decode cL_law 300 = .ok (.aload_n 0, 1) := by decide +kernel
theorem dL_law_301 : decode cL_law 301 = .ok (.iload 4, 2) := by decide +kernel
theorem dL_law_303 : decode cL_law 303 = .ok (.iconst 1, 1) := by decide +kernel
theorem dL_law_304 : decode cL_law 304 = .ok (.iadd, 1) := by decide +kernel
theorem dL_law_305 : decode cL_law 305 = .ok (.iaload, 1) := by decide +kernel
theorem dL_law_306 : decode cL_law 306 = .ok (.aload_n 0, 1) := by decide +kernel
theorem dL_law_307 : decode cL_law 307 = .ok (.iload 4, 2) := by decide +kernel
theorem dL_law_309 : decode cL_law 309 = .ok (.iconst 2, 1) := by decide +kernel
theorem dL_law_310 : decode cL_law 310 = .ok (.iadd, 1) := by decide +kernel
theorem dL_law_311 : decode cL_law 311 = .ok (.iaload, 1) := by decide +kernel
theorem dL_law_312 : decode cL_law 312 = .ok (.invokevirtual 93, 3) := by decide +kernel
theorem dL_law_315 : decode cL_law 315 = .ok (.istore 6, 2) := by decide +kernel
theorem dL_law_317 : decode cL_law 317 = .ok (.aload_n 2, 1) := by decide +kernel
theorem dL_law_318 : decode cL_law 318 = .ok (.invokevirtual 83, 3) := by decide +kernel
theorem dL_law_321 : decode cL_law 321 = .ok (.iload 5, 2) := by decide +kernel
theorem dL_law_323 : decode cL_law 323 = .ok (.if_icmp .eq 5, 3) := by decide +kernel
theorem dL_law_326 : decode cL_law 326 = .ok (.iconst 0, 1) := by decide +kernel
theorem dL_law_327 : decode cL_law 327 = .ok (.ireturn, 1) := by decide +kernel
theorem dL_law_328 : decode cL_law 328 = .ok (.iload 5, 2) := by decide +kernel
theorem dL_law_330 : decode cL_law 330 = .ok (.ifCond .ne 15, 3) := by decide +kernel
theorem dL_law_333 : decode cL_law 333 = .ok (.aload_n 3, 1) := by decide +kernel
theorem dL_law_334 : decode cL_law 334 = .ok (.iconst 0, 1) := by decide +kernel
theorem dL_law_335 : decode cL_law 335 = .ok (.laload, 1) := by decide +kernel
theorem dL_law_336 : decode cL_law 336 = .ok (.iload 6, 2) := by decide +kernel
theorem dL_law_338 : decode cL_law 338 = .ok (.i2l, 1) := by decide +kernel
theorem dL_law_339 : decode cL_law 339 = .ok (.lcmp, 1) := by decide +kernel
theorem dL_law_340 : decode cL_law 340 = .ok (.ifCond .eq 5, 3) := by decide +kernel
theorem dL_law_343 : decode cL_law 343 = .ok (.iconst 0, 1) := by decide +kernel
theorem dL_law_344 : decode cL_law 344 = .ok (.ireturn, 1) := by decide +kernel
theorem dL_law_345 : decode cL_law 345 = .ok (.goto 997, 3) := by decide +kernel
theorem dL_law_348 : decode cL_law 348 = .ok (.aload_n 1, 1) := by decide +kernel
theorem dL_law_349 : decode cL_law 349 = .ok (.aload_n 0, 1) := by decide +kernel
theorem dL_law_350 : decode cL_law 350 = .ok (.iload 4, 2) := by decide +kernel
theorem dL_law_352 : decode cL_law 352 = .ok (.iconst 1, 1) := by decide +kernel
theorem dL_law_353 : decode cL_law 353 = .ok (.iadd, 1) := by decide +kernel
theorem dL_law_354 : decode cL_law 354 = .ok (.iaload, 1) := by decide +kernel
theorem dL_law_355 : decode cL_law 355 = .ok (.aload_n 0, 1) := by decide +kernel
theorem dL_law_356 : decode cL_law 356 = .ok (.iload 4, 2) := by decide +kernel
theorem dL_law_358 : decode cL_law 358 = .ok (.iconst 2, 1) := by decide +kernel
theorem dL_law_359 : decode cL_law 359 = .ok (.iadd, 1) := by decide +kernel
theorem dL_law_360 : decode cL_law 360 = .ok (.iaload, 1) := by decide +kernel
theorem dL_law_361 : decode cL_law 361 = .ok (.aload_n 3, 1) := by decide +kernel
theorem dL_law_362 : decode cL_law 362 = .ok (.invokestatic 94, 3) := by decide +kernel
theorem dL_law_365 : decode cL_law 365 = .ok (.istore 5, 2) := by decide +kernel
theorem dL_law_367 : decode cL_law 367 = .ok (.aload_n 2, 1) := by decide +kernel
theorem dL_law_368 : decode cL_law 368 = .ok (.aload_n 0, 1) := by decide +kernel
theorem dL_law_369 : decode cL_law 369 = .ok (.iload 4, 2) := by decide +kernel
theorem dL_law_371 : decode cL_law 371 = .ok (.iconst 1, 1) := by decide +kernel
theorem dL_law_372 : decode cL_law 372 = .ok (.iadd, 1) := by decide +kernel
theorem dL_law_373 : decode cL_law 373 = .ok (.iaload, 1) := by decide +kernel
theorem dL_law_374 : decode cL_law 374 = .ok (.aload_n 0, 1) := by decide +kernel
theorem dL_law_375 : decode cL_law 375 = .ok (.iload 4, 2) := by decide +kernel
theorem dL_law_377 : decode cL_law 377 = .ok (.iconst 2, 1) := by decide +kernel
theorem dL_law_378 : decode cL_law 378 = .ok (.iadd, 1) := by decide +kernel
theorem dL_law_379 : decode cL_law 379 = .ok (.iaload, 1) := by decide +kernel
theorem dL_law_380 : decode cL_law 380 = .ok (.invokevirtual 96, 3) := by decide +kernel
theorem dL_law_383 : decode cL_law 383 = .ok (.istore 6, 2) := by decide +kernel
theorem dL_law_385 : decode cL_law 385 = .ok (.aload_n 2, 1) := by decide +kernel
theorem dL_law_386 : decode cL_law 386 = .ok (.invokevirtual 83, 3) := by decide +kernel
theorem dL_law_389 : decode cL_law 389 = .ok (.iload 5, 2) := by decide +kernel
theorem dL_law_391 : decode cL_law 391 = .ok (.if_icmp .eq 5, 3) := by decide +kernel
theorem dL_law_394 : decode cL_law 394 = .ok (.iconst 0, 1) := by decide +kernel
theorem dL_law_395 : decode cL_law 395 = .ok (.ireturn, 1) := by decide +kernel
theorem dL_law_396 : decode cL_law 396 = .ok (.iload 5, 2) := by decide +kernel
theorem dL_law_398 : decode cL_law 398 = .ok (.ifCond .ne 15, 3) := by decide +kernel
theorem dL_law_401 : decode cL_law 401 = .ok (.aload_n 3, 1) := by decide +kernel
theorem dL_law_402 : decode cL_law 402 = .ok (.iconst 0, 1) := by decide +kernel
theorem dL_law_403 : decode cL_law 403 = .ok (.laload, 1) := by decide +kernel
theorem dL_law_404 : decode cL_law 404 = .ok (.iload 6, 2) := by decide +kernel
theorem dL_law_406 : decode cL_law 406 = .ok (.i2l, 1) := by decide +kernel
theorem dL_law_407 : decode cL_law 407 = .ok (.lcmp, 1) := by decide +kernel
theorem dL_law_408 : decode cL_law 408 = .ok (.ifCond .eq 5, 3) := by decide +kernel
theorem dL_law_411 : decode cL_law 411 = .ok (.iconst 0, 1) := by decide +kernel
theorem dL_law_412 : decode cL_law 412 = .ok (.ireturn, 1) := by decide +kernel
theorem dL_law_413 : decode cL_law 413 = .ok (.goto 929, 3) := by decide +kernel
theorem dL_law_416 : decode cL_law 416 = .ok (.aload_n 1, 1) := by decide +kernel
theorem dL_law_417 : decode cL_law 417 = .ok (.aload_n 0, 1) := by decide +kernel
theorem dL_law_418 : decode cL_law 418 = .ok (.iload 4, 2) := by decide +kernel
theorem dL_law_420 : decode cL_law 420 = .ok (.iconst 1, 1) := by decide +kernel
theorem dL_law_421 : decode cL_law 421 = .ok (.iadd, 1) := by decide +kernel
theorem dL_law_422 : decode cL_law 422 = .ok (.iaload, 1) := by decide +kernel
theorem dL_law_423 : decode cL_law 423 = .ok (.aload_n 0, 1) := by decide +kernel
theorem dL_law_424 : decode cL_law 424 = .ok (.iload 4, 2) := by decide +kernel
theorem dL_law_426 : decode cL_law 426 = .ok (.iconst 2, 1) := by decide +kernel
theorem dL_law_427 : decode cL_law 427 = .ok (.iadd, 1) := by decide +kernel
theorem dL_law_428 : decode cL_law 428 = .ok (.iaload, 1) := by decide +kernel
theorem dL_law_429 : decode cL_law 429 = .ok (.aload_n 3, 1) := by decide +kernel
theorem dL_law_430 : decode cL_law 430 = .ok (.invokestatic 97, 3) := by decide +kernel
theorem dL_law_433 : decode cL_law 433 = .ok (.istore 5, 2) := by decide +kernel
theorem dL_law_435 : decode cL_law 435 = .ok (.aload_n 2, 1) := by decide +kernel
theorem dL_law_436 : decode cL_law 436 = .ok (.aload_n 0, 1) := by decide +kernel
theorem dL_law_437 : decode cL_law 437 = .ok (.iload 4, 2) := by decide +kernel
theorem dL_law_439 : decode cL_law 439 = .ok (.iconst 1, 1) := by decide +kernel
theorem dL_law_440 : decode cL_law 440 = .ok (.iadd, 1) := by decide +kernel
theorem dL_law_441 : decode cL_law 441 = .ok (.iaload, 1) := by decide +kernel
theorem dL_law_442 : decode cL_law 442 = .ok (.aload_n 0, 1) := by decide +kernel
theorem dL_law_443 : decode cL_law 443 = .ok (.iload 4, 2) := by decide +kernel
theorem dL_law_445 : decode cL_law 445 = .ok (.iconst 2, 1) := by decide +kernel
theorem dL_law_446 : decode cL_law 446 = .ok (.iadd, 1) := by decide +kernel
theorem dL_law_447 : decode cL_law 447 = .ok (.iaload, 1) := by decide +kernel
theorem dL_law_448 : decode cL_law 448 = .ok (.invokevirtual 99, 3) := by decide +kernel
theorem dL_law_451 : decode cL_law 451 = .ok (.istore 6, 2) := by decide +kernel
theorem dL_law_453 : decode cL_law 453 = .ok (.aload_n 2, 1) := by decide +kernel
theorem dL_law_454 : decode cL_law 454 = .ok (.invokevirtual 83, 3) := by decide +kernel
theorem dL_law_457 : decode cL_law 457 = .ok (.iload 5, 2) := by decide +kernel
theorem dL_law_459 : decode cL_law 459 = .ok (.if_icmp .eq 5, 3) := by decide +kernel
theorem dL_law_462 : decode cL_law 462 = .ok (.iconst 0, 1) := by decide +kernel
theorem dL_law_463 : decode cL_law 463 = .ok (.ireturn, 1) := by decide +kernel
theorem dL_law_464 : decode cL_law 464 = .ok (.iload 5, 2) := by decide +kernel
theorem dL_law_466 : decode cL_law 466 = .ok (.ifCond .ne 15, 3) := by decide +kernel
theorem dL_law_469 : decode cL_law 469 = .ok (.aload_n 3, 1) := by decide +kernel
theorem dL_law_470 : decode cL_law 470 = .ok (.iconst 0, 1) := by decide +kernel
theorem dL_law_471 : decode cL_law 471 = .ok (.laload, 1) := by decide +kernel
theorem dL_law_472 : decode cL_law 472 = .ok (.iload 6, 2) := by decide +kernel
theorem dL_law_474 : decode cL_law 474 = .ok (.i2l, 1) := by decide +kernel
theorem dL_law_475 : decode cL_law 475 = .ok (.lcmp, 1) := by decide +kernel
theorem dL_law_476 : decode cL_law 476 = .ok (.ifCond .eq 5, 3) := by decide +kernel
theorem dL_law_479 : decode cL_law 479 = .ok (.iconst 0, 1) := by decide +kernel
theorem dL_law_480 : decode cL_law 480 = .ok (.ireturn, 1) := by decide +kernel
theorem dL_law_481 : decode cL_law 481 = .ok (.goto 861, 3) := by decide +kernel
theorem dL_law_484 : decode cL_law 484 = .ok (.aload_n 1, 1) := by decide +kernel
theorem dL_law_485 : decode cL_law 485 = .ok (.aload_n 0, 1) := by decide +kernel
theorem dL_law_486 : decode cL_law 486 = .ok (.iload 4, 2) := by decide +kernel
theorem dL_law_488 : decode cL_law 488 = .ok (.iconst 1, 1) := by decide +kernel
theorem dL_law_489 : decode cL_law 489 = .ok (.iadd, 1) := by decide +kernel
theorem dL_law_490 : decode cL_law 490 = .ok (.iaload, 1) := by decide +kernel
theorem dL_law_491 : decode cL_law 491 = .ok (.aload_n 0, 1) := by decide +kernel
theorem dL_law_492 : decode cL_law 492 = .ok (.iload 4, 2) := by decide +kernel
theorem dL_law_494 : decode cL_law 494 = .ok (.iconst 2, 1) := by decide +kernel
theorem dL_law_495 : decode cL_law 495 = .ok (.iadd, 1) := by decide +kernel
theorem dL_law_496 : decode cL_law 496 = .ok (.iaload, 1) := by decide +kernel
theorem dL_law_497 : decode cL_law 497 = .ok (.aload_n 3, 1) := by decide +kernel
theorem dL_law_498 : decode cL_law 498 = .ok (.invokestatic 100, 3) := by decide +kernel
theorem dL_law_501 : decode cL_law 501 = .ok (.istore 5, 2) := by decide +kernel
theorem dL_law_503 : decode cL_law 503 = .ok (.aload_n 2, 1) := by decide +kernel
theorem dL_law_504 : decode cL_law 504 = .ok (.aload_n 0, 1) := by decide +kernel
theorem dL_law_505 : decode cL_law 505 = .ok (.iload 4, 2) := by decide +kernel
theorem dL_law_507 : decode cL_law 507 = .ok (.iconst 1, 1) := by decide +kernel
theorem dL_law_508 : decode cL_law 508 = .ok (.iadd, 1) := by decide +kernel
theorem dL_law_509 : decode cL_law 509 = .ok (.iaload, 1) := by decide +kernel
theorem dL_law_510 : decode cL_law 510 = .ok (.aload_n 0, 1) := by decide +kernel
theorem dL_law_511 : decode cL_law 511 = .ok (.iload 4, 2) := by decide +kernel
theorem dL_law_513 : decode cL_law 513 = .ok (.iconst 2, 1) := by decide +kernel
theorem dL_law_514 : decode cL_law 514 = .ok (.iadd, 1) := by decide +kernel
theorem dL_law_515 : decode cL_law 515 = .ok (.iaload, 1) := by decide +kernel
theorem dL_law_516 : decode cL_law 516 = .ok (.invokevirtual 102, 3) := by decide +kernel
theorem dL_law_519 : decode cL_law 519 = .ok (.istore 6, 2) := by decide +kernel
theorem dL_law_521 : decode cL_law 521 = .ok (.aload_n 2, 1) := by decide +kernel
theorem dL_law_522 : decode cL_law 522 = .ok (.invokevirtual 83, 3) := by decide +kernel
theorem dL_law_525 : decode cL_law 525 = .ok (.iload 5, 2) := by decide +kernel
theorem dL_law_527 : decode cL_law 527 = .ok (.if_icmp .eq 5, 3) := by decide +kernel
theorem dL_law_530 : decode cL_law 530 = .ok (.iconst 0, 1) := by decide +kernel
theorem dL_law_531 : decode cL_law 531 = .ok (.ireturn, 1) := by decide +kernel
theorem dL_law_532 : decode cL_law 532 = .ok (.iload 5, 2) := by decide +kernel
theorem dL_law_534 : decode cL_law 534 = .ok (.ifCond .ne 15, 3) := by decide +kernel
theorem dL_law_537 : decode cL_law 537 = .ok (.aload_n 3, 1) := by decide +kernel
theorem dL_law_538 : decode cL_law 538 = .ok (.iconst 0, 1) := by decide +kernel
theorem dL_law_539 : decode cL_law 539 = .ok (.laload, 1) := by decide +kernel
theorem dL_law_540 : decode cL_law 540 = .ok (.iload 6, 2) := by decide +kernel
theorem dL_law_542 : decode cL_law 542 = .ok (.i2l, 1) := by decide +kernel
theorem dL_law_543 : decode cL_law 543 = .ok (.lcmp, 1) := by decide +kernel
theorem dL_law_544 : decode cL_law 544 = .ok (.ifCond .eq 5, 3) := by decide +kernel
theorem dL_law_547 : decode cL_law 547 = .ok (.iconst 0, 1) := by decide +kernel
theorem dL_law_548 : decode cL_law 548 = .ok (.ireturn, 1) := by decide +kernel
theorem dL_law_549 : decode cL_law 549 = .ok (.goto 793, 3) := by decide +kernel
theorem dL_law_552 : decode cL_law 552 = .ok (.aload_n 1, 1) := by decide +kernel
theorem dL_law_553 : decode cL_law 553 = .ok (.aload_n 0, 1) := by decide +kernel
theorem dL_law_554 : decode cL_law 554 = .ok (.iload 4, 2) := by decide +kernel
theorem dL_law_556 : decode cL_law 556 = .ok (.iconst 1, 1) := by decide +kernel
theorem dL_law_557 : decode cL_law 557 = .ok (.iadd, 1) := by decide +kernel
theorem dL_law_558 : decode cL_law 558 = .ok (.iaload, 1) := by decide +kernel
theorem dL_law_559 : decode cL_law 559 = .ok (.aload_n 0, 1) := by decide +kernel
theorem dL_law_560 : decode cL_law 560 = .ok (.iload 4, 2) := by decide +kernel
theorem dL_law_562 : decode cL_law 562 = .ok (.iconst 2, 1) := by decide +kernel
theorem dL_law_563 : decode cL_law 563 = .ok (.iadd, 1) := by decide +kernel
theorem dL_law_564 : decode cL_law 564 = .ok (.iaload, 1) := by decide +kernel
theorem dL_law_565 : decode cL_law 565 = .ok (.aload_n 3, 1) := by decide +kernel
theorem dL_law_566 : decode cL_law 566 = .ok (.invokestatic 103, 3) := by decide +kernel
theorem dL_law_569 : decode cL_law 569 = .ok (.istore 5, 2) := by decide +kernel
theorem dL_law_571 : decode cL_law 571 = .ok (.aload_n 2, 1) := by decide +kernel
theorem dL_law_572 : decode cL_law 572 = .ok (.aload_n 0, 1) := by decide +kernel
theorem dL_law_573 : decode cL_law 573 = .ok (.iload 4, 2) := by decide +kernel
theorem dL_law_575 : decode cL_law 575 = .ok (.iconst 1, 1) := by decide +kernel
theorem dL_law_576 : decode cL_law 576 = .ok (.iadd, 1) := by decide +kernel
theorem dL_law_577 : decode cL_law 577 = .ok (.iaload, 1) := by decide +kernel
theorem dL_law_578 : decode cL_law 578 = .ok (.aload_n 0, 1) := by decide +kernel
theorem dL_law_579 : decode cL_law 579 = .ok (.iload 4, 2) := by decide +kernel
theorem dL_law_581 : decode cL_law 581 = .ok (.iconst 2, 1) := by decide +kernel
theorem dL_law_582 : decode cL_law 582 = .ok (.iadd, 1) := by decide +kernel
theorem dL_law_583 : decode cL_law 583 = .ok (.iaload, 1) := by decide +kernel
theorem dL_law_584 : decode cL_law 584 = .ok (.invokevirtual 105, 3) := by decide +kernel
theorem dL_law_587 : decode cL_law 587 = .ok (.istore 6, 2) := by decide +kernel
theorem dL_law_589 : decode cL_law 589 = .ok (.aload_n 2, 1) := by decide +kernel
theorem dL_law_590 : decode cL_law 590 = .ok (.invokevirtual 83, 3) := by decide +kernel
theorem dL_law_593 : decode cL_law 593 = .ok (.iload 5, 2) := by decide +kernel
theorem dL_law_595 : decode cL_law 595 = .ok (.if_icmp .eq 5, 3) := by decide +kernel
theorem dL_law_598 : decode cL_law 598 = .ok (.iconst 0, 1) := by decide +kernel
theorem dL_law_599 : decode cL_law 599 = .ok (.ireturn, 1) := by decide +kernel
theorem dL_law_600 : decode cL_law 600 = .ok (.iload 5, 2) := by decide +kernel
theorem dL_law_602 : decode cL_law 602 = .ok (.ifCond .ne 15, 3) := by decide +kernel
theorem dL_law_605 : decode cL_law 605 = .ok (.aload_n 3, 1) := by decide +kernel
theorem dL_law_606 : decode cL_law 606 = .ok (.iconst 0, 1) := by decide +kernel
theorem dL_law_607 : decode cL_law 607 = .ok (.laload, 1) := by decide +kernel
theorem dL_law_608 : decode cL_law 608 = .ok (.iload 6, 2) := by decide +kernel
theorem dL_law_610 : decode cL_law 610 = .ok (.i2l, 1) := by decide +kernel
theorem dL_law_611 : decode cL_law 611 = .ok (.lcmp, 1) := by decide +kernel
theorem dL_law_612 : decode cL_law 612 = .ok (.ifCond .eq 5, 3) := by decide +kernel
theorem dL_law_615 : decode cL_law 615 = .ok (.iconst 0, 1) := by decide +kernel
theorem dL_law_616 : decode cL_law 616 = .ok (.ireturn, 1) := by decide +kernel
theorem dL_law_617 : decode cL_law 617 = .ok (.goto 725, 3) := by decide +kernel
theorem dL_law_620 : decode cL_law 620 = .ok (.aload_n 1, 1) := by decide +kernel
theorem dL_law_621 : decode cL_law 621 = .ok (.aload_n 0, 1) := by decide +kernel
theorem dL_law_622 : decode cL_law 622 = .ok (.iload 4, 2) := by decide +kernel
theorem dL_law_624 : decode cL_law 624 = .ok (.iconst 1, 1) := by decide +kernel
theorem dL_law_625 : decode cL_law 625 = .ok (.iadd, 1) := by decide +kernel
theorem dL_law_626 : decode cL_law 626 = .ok (.iaload, 1) := by decide +kernel
theorem dL_law_627 : decode cL_law 627 = .ok (.aload_n 3, 1) := by decide +kernel
theorem dL_law_628 : decode cL_law 628 = .ok (.invokestatic 106, 3) := by decide +kernel
theorem dL_law_631 : decode cL_law 631 = .ok (.istore 5, 2) := by decide +kernel
theorem dL_law_633 : decode cL_law 633 = .ok (.aload_n 2, 1) := by decide +kernel
theorem dL_law_634 : decode cL_law 634 = .ok (.aload_n 0, 1) := by decide +kernel
theorem dL_law_635 : decode cL_law 635 = .ok (.iload 4, 2) := by decide +kernel
theorem dL_law_637 : decode cL_law 637 = .ok (.iconst 1, 1) := by decide +kernel
theorem dL_law_638 : decode cL_law 638 = .ok (.iadd, 1) := by decide +kernel
theorem dL_law_639 : decode cL_law 639 = .ok (.iaload, 1) := by decide +kernel
theorem dL_law_640 : decode cL_law 640 = .ok (.invokevirtual 108, 3) := by decide +kernel
theorem dL_law_643 : decode cL_law 643 = .ok (.istore 6, 2) := by decide +kernel
theorem dL_law_645 : decode cL_law 645 = .ok (.aload_n 2, 1) := by decide +kernel
theorem dL_law_646 : decode cL_law 646 = .ok (.invokevirtual 83, 3) := by decide +kernel
theorem dL_law_649 : decode cL_law 649 = .ok (.iload 5, 2) := by decide +kernel
theorem dL_law_651 : decode cL_law 651 = .ok (.if_icmp .eq 5, 3) := by decide +kernel
theorem dL_law_654 : decode cL_law 654 = .ok (.iconst 0, 1) := by decide +kernel
theorem dL_law_655 : decode cL_law 655 = .ok (.ireturn, 1) := by decide +kernel
theorem dL_law_656 : decode cL_law 656 = .ok (.iload 5, 2) := by decide +kernel
theorem dL_law_658 : decode cL_law 658 = .ok (.ifCond .ne 15, 3) := by decide +kernel
theorem dL_law_661 : decode cL_law 661 = .ok (.aload_n 3, 1) := by decide +kernel
theorem dL_law_662 : decode cL_law 662 = .ok (.iconst 0, 1) := by decide +kernel
theorem dL_law_663 : decode cL_law 663 = .ok (.laload, 1) := by decide +kernel
theorem dL_law_664 : decode cL_law 664 = .ok (.iload 6, 2) := by decide +kernel
theorem dL_law_666 : decode cL_law 666 = .ok (.i2l, 1) := by decide +kernel
theorem dL_law_667 : decode cL_law 667 = .ok (.lcmp, 1) := by decide +kernel
theorem dL_law_668 : decode cL_law 668 = .ok (.ifCond .eq 5, 3) := by decide +kernel
theorem dL_law_671 : decode cL_law 671 = .ok (.iconst 0, 1) := by decide +kernel
theorem dL_law_672 : decode cL_law 672 = .ok (.ireturn, 1) := by decide +kernel
theorem dL_law_673 : decode cL_law 673 = .ok (.goto 669, 3) := by decide +kernel
theorem dL_law_676 : decode cL_law 676 = .ok (.aload_n 1, 1) := by decide +kernel
theorem dL_law_677 : decode cL_law 677 = .ok (.aload_n 0, 1) := by decide +kernel
theorem dL_law_678 : decode cL_law 678 = .ok (.iload 4, 2) := by decide +kernel
theorem dL_law_680 : decode cL_law 680 = .ok (.iconst 1, 1) := by decide +kernel
theorem dL_law_681 : decode cL_law 681 = .ok (.iadd, 1) := by decide +kernel
theorem dL_law_682 : decode cL_law 682 = .ok (.iaload, 1) := by decide +kernel
theorem dL_law_683 : decode cL_law 683 = .ok (.aload_n 3, 1) := by decide +kernel
theorem dL_law_684 : decode cL_law 684 = .ok (.invokestatic 109, 3) := by decide +kernel
theorem dL_law_687 : decode cL_law 687 = .ok (.istore 5, 2) := by decide +kernel
theorem dL_law_689 : decode cL_law 689 = .ok (.aload_n 2, 1) := by decide +kernel
theorem dL_law_690 : decode cL_law 690 = .ok (.aload_n 0, 1) := by decide +kernel
theorem dL_law_691 : decode cL_law 691 = .ok (.iload 4, 2) := by decide +kernel
theorem dL_law_693 : decode cL_law 693 = .ok (.iconst 1, 1) := by decide +kernel
theorem dL_law_694 : decode cL_law 694 = .ok (.iadd, 1) := by decide +kernel
theorem dL_law_695 : decode cL_law 695 = .ok (.iaload, 1) := by decide +kernel
theorem dL_law_696 : decode cL_law 696 = .ok (.invokevirtual 111, 3) := by decide +kernel
theorem dL_law_699 : decode cL_law 699 = .ok (.istore 6, 2) := by decide +kernel
theorem dL_law_701 : decode cL_law 701 = .ok (.aload_n 2, 1) := by decide +kernel
theorem dL_law_702 : decode cL_law 702 = .ok (.invokevirtual 83, 3) := by decide +kernel
theorem dL_law_705 : decode cL_law 705 = .ok (.iload 5, 2) := by decide +kernel
theorem dL_law_707 : decode cL_law 707 = .ok (.if_icmp .eq 5, 3) := by decide +kernel
theorem dL_law_710 : decode cL_law 710 = .ok (.iconst 0, 1) := by decide +kernel
theorem dL_law_711 : decode cL_law 711 = .ok (.ireturn, 1) := by decide +kernel
theorem dL_law_712 : decode cL_law 712 = .ok (.iload 5, 2) := by decide +kernel
theorem dL_law_714 : decode cL_law 714 = .ok (.ifCond .ne 15, 3) := by decide +kernel
theorem dL_law_717 : decode cL_law 717 = .ok (.aload_n 3, 1) := by decide +kernel
theorem dL_law_718 : decode cL_law 718 = .ok (.iconst 0, 1) := by decide +kernel
theorem dL_law_719 : decode cL_law 719 = .ok (.laload, 1) := by decide +kernel
theorem dL_law_720 : decode cL_law 720 = .ok (.iload 6, 2) := by decide +kernel
theorem dL_law_722 : decode cL_law 722 = .ok (.i2l, 1) := by decide +kernel
theorem dL_law_723 : decode cL_law 723 = .ok (.lcmp, 1) := by decide +kernel
theorem dL_law_724 : decode cL_law 724 = .ok (.ifCond .eq 5, 3) := by decide +kernel
theorem dL_law_727 : decode cL_law 727 = .ok (.iconst 0, 1) := by decide +kernel
theorem dL_law_728 : decode cL_law 728 = .ok (.ireturn, 1) := by decide +kernel
theorem dL_law_729 : decode cL_law 729 = .ok (.goto 613, 3) := by decide +kernel
theorem dL_law_732 : decode cL_law 732 = .ok (.aload_n 1, 1) := by decide +kernel
theorem dL_law_733 : decode cL_law 733 = .ok (.invokevirtual 112, 3) := by decide +kernel
theorem dL_law_736 : decode cL_law 736 = .ok (.aload_n 2, 1) := by decide +kernel
theorem dL_law_737 : decode cL_law 737 = .ok (.invokevirtual 115, 3) := by decide +kernel
theorem dL_law_740 : decode cL_law 740 = .ok (.if_icmp .eq 602, 3) := by decide +kernel
theorem dL_law_743 : decode cL_law 743 = .ok (.iconst 0, 1) := by decide +kernel
theorem dL_law_744 : decode cL_law 744 = .ok (.ireturn, 1) := by decide +kernel
theorem dL_law_745 : decode cL_law 745 = .ok (.aload_n 1, 1) := by decide +kernel
theorem dL_law_746 : decode cL_law 746 = .ok (.invokevirtual 116, 3) := by decide +kernel
theorem dL_law_749 : decode cL_law 749 = .ok (.aload_n 2, 1) := by decide +kernel
theorem dL_law_750 : decode cL_law 750 = .ok (.invokevirtual 119, 3) := by decide +kernel
theorem dL_law_753 : decode cL_law 753 = .ok (.if_icmp .eq 589, 3) := by decide +kernel
theorem dL_law_756 : decode cL_law 756 = .ok (.iconst 0, 1) := by decide +kernel
theorem dL_law_757 : decode cL_law 757 = .ok (.ireturn, 1) := by decide +kernel
theorem dL_law_758 : decode cL_law 758 = .ok (.aload_n 1, 1) := by decide +kernel
theorem dL_law_759 : decode cL_law 759 = .ok (.aload_n 3, 1) := by decide +kernel
theorem dL_law_760 : decode cL_law 760 = .ok (.invokestatic 120, 3) := by decide +kernel
theorem dL_law_763 : decode cL_law 763 = .ok (.istore 5, 2) := by decide +kernel
theorem dL_law_765 : decode cL_law 765 = .ok (.aload_n 2, 1) := by decide +kernel
theorem dL_law_766 : decode cL_law 766 = .ok (.invokevirtual 123, 3) := by decide +kernel
theorem dL_law_769 : decode cL_law 769 = .ok (.istore 6, 2) := by decide +kernel
theorem dL_law_771 : decode cL_law 771 = .ok (.aload_n 2, 1) := by decide +kernel
theorem dL_law_772 : decode cL_law 772 = .ok (.invokevirtual 83, 3) := by decide +kernel
theorem dL_law_775 : decode cL_law 775 = .ok (.iload 5, 2) := by decide +kernel
theorem dL_law_777 : decode cL_law 777 = .ok (.if_icmp .eq 5, 3) := by decide +kernel
theorem dL_law_780 : decode cL_law 780 = .ok (.iconst 0, 1) := by decide +kernel
theorem dL_law_781 : decode cL_law 781 = .ok (.ireturn, 1) := by decide +kernel
theorem dL_law_782 : decode cL_law 782 = .ok (.iload 5, 2) := by decide +kernel
theorem dL_law_784 : decode cL_law 784 = .ok (.ifCond .ne 15, 3) := by decide +kernel
theorem dL_law_787 : decode cL_law 787 = .ok (.aload_n 3, 1) := by decide +kernel
theorem dL_law_788 : decode cL_law 788 = .ok (.iconst 0, 1) := by decide +kernel
theorem dL_law_789 : decode cL_law 789 = .ok (.laload, 1) := by decide +kernel
theorem dL_law_790 : decode cL_law 790 = .ok (.iload 6, 2) := by decide +kernel
theorem dL_law_792 : decode cL_law 792 = .ok (.i2l, 1) := by decide +kernel
theorem dL_law_793 : decode cL_law 793 = .ok (.lcmp, 1) := by decide +kernel
theorem dL_law_794 : decode cL_law 794 = .ok (.ifCond .eq 5, 3) := by decide +kernel
theorem dL_law_797 : decode cL_law 797 = .ok (.iconst 0, 1) := by decide +kernel
theorem dL_law_798 : decode cL_law 798 = .ok (.ireturn, 1) := by decide +kernel
theorem dL_law_799 : decode cL_law 799 = .ok (.goto 543, 3) := by decide +kernel
theorem dL_law_802 : decode cL_law 802 = .ok (.aload_n 1, 1) := by decide +kernel
theorem dL_law_803 : decode cL_law 803 = .ok (.aload_n 3, 1) := by decide +kernel
theorem dL_law_804 : decode cL_law 804 = .ok (.invokestatic 124, 3) := by decide +kernel
theorem dL_law_807 : decode cL_law 807 = .ok (.istore 5, 2) := by decide +kernel
theorem dL_law_809 : decode cL_law 809 = .ok (.aload_n 2, 1) := by decide +kernel
theorem dL_law_810 : decode cL_law 810 = .ok (.invokevirtual 126, 3) := by decide +kernel
theorem dL_law_813 : decode cL_law 813 = .ok (.istore 6, 2) := by decide +kernel
theorem dL_law_815 : decode cL_law 815 = .ok (.aload_n 2, 1) := by decide +kernel
theorem dL_law_816 : decode cL_law 816 = .ok (.invokevirtual 83, 3) := by decide +kernel
theorem dL_law_819 : decode cL_law 819 = .ok (.iload 5, 2) := by decide +kernel
theorem dL_law_821 : decode cL_law 821 = .ok (.if_icmp .eq 5, 3) := by decide +kernel
theorem dL_law_824 : decode cL_law 824 = .ok (.iconst 0, 1) := by decide +kernel
theorem dL_law_825 : decode cL_law 825 = .ok (.ireturn, 1) := by decide +kernel
theorem dL_law_826 : decode cL_law 826 = .ok (.iload 5, 2) := by decide +kernel
theorem dL_law_828 : decode cL_law 828 = .ok (.ifCond .ne 15, 3) := by decide +kernel
theorem dL_law_831 : decode cL_law 831 = .ok (.aload_n 3, 1) := by decide +kernel
theorem dL_law_832 : decode cL_law 832 = .ok (.iconst 0, 1) := by decide +kernel
theorem dL_law_833 : decode cL_law 833 = .ok (.laload, 1) := by decide +kernel
theorem dL_law_834 : decode cL_law 834 = .ok (.iload 6, 2) := by decide +kernel
theorem dL_law_836 : decode cL_law 836 = .ok (.i2l, 1) := by decide +kernel
theorem dL_law_837 : decode cL_law 837 = .ok (.lcmp, 1) := by decide +kernel
theorem dL_law_838 : decode cL_law 838 = .ok (.ifCond .eq 5, 3) := by decide +kernel
theorem dL_law_841 : decode cL_law 841 = .ok (.iconst 0, 1) := by decide +kernel
theorem dL_law_842 : decode cL_law 842 = .ok (.ireturn, 1) := by decide +kernel
theorem dL_law_843 : decode cL_law 843 = .ok (.goto 499, 3) := by decide +kernel
theorem dL_law_846 : decode cL_law 846 = .ok (.aload_n 1, 1) := by decide +kernel
theorem dL_law_847 : decode cL_law 847 = .ok (.aload_n 0, 1) := by decide +kernel
theorem dL_law_848 : decode cL_law 848 = .ok (.iload 4, 2) := by decide +kernel
theorem dL_law_850 : decode cL_law 850 = .ok (.iconst 1, 1) := by decide +kernel
theorem dL_law_851 : decode cL_law 851 = .ok (.iadd, 1) := by decide +kernel
theorem dL_law_852 : decode cL_law 852 = .ok (.iaload, 1) := by decide +kernel
theorem dL_law_853 : decode cL_law 853 = .ok (.aload_n 0, 1) := by decide +kernel
theorem dL_law_854 : decode cL_law 854 = .ok (.iload 4, 2) := by decide +kernel
theorem dL_law_856 : decode cL_law 856 = .ok (.iconst 2, 1) := by decide +kernel
theorem dL_law_857 : decode cL_law 857 = .ok (.iadd, 1) := by decide +kernel
theorem dL_law_858 : decode cL_law 858 = .ok (.iaload, 1) := by decide +kernel
theorem dL_law_859 : decode cL_law 859 = .ok (.aload_n 3, 1) := by decide +kernel
theorem dL_law_860 : decode cL_law 860 = .ok (.invokestatic 127, 3) := by decide +kernel
theorem dL_law_863 : decode cL_law 863 = .ok (.istore 5, 2) := by decide +kernel
theorem dL_law_865 : decode cL_law 865 = .ok (.aload_n 2, 1) := by decide +kernel
theorem dL_law_866 : decode cL_law 866 = .ok (.aload_n 0, 1) := by decide +kernel
theorem dL_law_867 : decode cL_law 867 = .ok (.iload 4, 2) := by decide +kernel
theorem dL_law_869 : decode cL_law 869 = .ok (.iconst 1, 1) := by decide +kernel
theorem dL_law_870 : decode cL_law 870 = .ok (.iadd, 1) := by decide +kernel
theorem dL_law_871 : decode cL_law 871 = .ok (.iaload, 1) := by decide +kernel
theorem dL_law_872 : decode cL_law 872 = .ok (.aload_n 0, 1) := by decide +kernel
theorem dL_law_873 : decode cL_law 873 = .ok (.iload 4, 2) := by decide +kernel
theorem dL_law_875 : decode cL_law 875 = .ok (.iconst 2, 1) := by decide +kernel
theorem dL_law_876 : decode cL_law 876 = .ok (.iadd, 1) := by decide +kernel
theorem dL_law_877 : decode cL_law 877 = .ok (.iaload, 1) := by decide +kernel
theorem dL_law_878 : decode cL_law 878 = .ok (.invokevirtual 129, 3) := by decide +kernel
theorem dL_law_881 : decode cL_law 881 = .ok (.istore 6, 2) := by decide +kernel
theorem dL_law_883 : decode cL_law 883 = .ok (.aload_n 2, 1) := by decide +kernel
theorem dL_law_884 : decode cL_law 884 = .ok (.invokevirtual 83, 3) := by decide +kernel
theorem dL_law_887 : decode cL_law 887 = .ok (.iload 5, 2) := by decide +kernel
theorem dL_law_889 : decode cL_law 889 = .ok (.if_icmp .eq 5, 3) := by decide +kernel
theorem dL_law_892 : decode cL_law 892 = .ok (.iconst 0, 1) := by decide +kernel
theorem dL_law_893 : decode cL_law 893 = .ok (.ireturn, 1) := by decide +kernel
theorem dL_law_894 : decode cL_law 894 = .ok (.iload 5, 2) := by decide +kernel
theorem dL_law_896 : decode cL_law 896 = .ok (.ifCond .ne 15, 3) := by decide +kernel
theorem dL_law_899 : decode cL_law 899 = .ok (.aload_n 3, 1) := by decide +kernel
theorem dL_law_900 : decode cL_law 900 = .ok (.iconst 0, 1) := by decide +kernel
theorem dL_law_901 : decode cL_law 901 = .ok (.laload, 1) := by decide +kernel
theorem dL_law_902 : decode cL_law 902 = .ok (.iload 6, 2) := by decide +kernel
theorem dL_law_904 : decode cL_law 904 = .ok (.i2l, 1) := by decide +kernel
theorem dL_law_905 : decode cL_law 905 = .ok (.lcmp, 1) := by decide +kernel
theorem dL_law_906 : decode cL_law 906 = .ok (.ifCond .eq 5, 3) := by decide +kernel
theorem dL_law_909 : decode cL_law 909 = .ok (.iconst 0, 1) := by decide +kernel
theorem dL_law_910 : decode cL_law 910 = .ok (.ireturn, 1) := by decide +kernel
theorem dL_law_911 : decode cL_law 911 = .ok (.goto 431, 3) := by decide +kernel
theorem dL_law_914 : decode cL_law 914 = .ok (.aload_n 1, 1) := by decide +kernel
theorem dL_law_915 : decode cL_law 915 = .ok (.aload_n 0, 1) := by decide +kernel
theorem dL_law_916 : decode cL_law 916 = .ok (.iload 4, 2) := by decide +kernel
theorem dL_law_918 : decode cL_law 918 = .ok (.iconst 1, 1) := by decide +kernel
theorem dL_law_919 : decode cL_law 919 = .ok (.iadd, 1) := by decide +kernel
theorem dL_law_920 : decode cL_law 920 = .ok (.iaload, 1) := by decide +kernel
theorem dL_law_921 : decode cL_law 921 = .ok (.aload_n 0, 1) := by decide +kernel
theorem dL_law_922 : decode cL_law 922 = .ok (.iload 4, 2) := by decide +kernel
theorem dL_law_924 : decode cL_law 924 = .ok (.iconst 2, 1) := by decide +kernel
theorem dL_law_925 : decode cL_law 925 = .ok (.iadd, 1) := by decide +kernel
theorem dL_law_926 : decode cL_law 926 = .ok (.iaload, 1) := by decide +kernel
theorem dL_law_927 : decode cL_law 927 = .ok (.aload_n 3, 1) := by decide +kernel
theorem dL_law_928 : decode cL_law 928 = .ok (.invokestatic 130, 3) := by decide +kernel
theorem dL_law_931 : decode cL_law 931 = .ok (.istore 5, 2) := by decide +kernel
theorem dL_law_933 : decode cL_law 933 = .ok (.aload_n 2, 1) := by decide +kernel
theorem dL_law_934 : decode cL_law 934 = .ok (.aload_n 0, 1) := by decide +kernel
theorem dL_law_935 : decode cL_law 935 = .ok (.iload 4, 2) := by decide +kernel
theorem dL_law_937 : decode cL_law 937 = .ok (.iconst 1, 1) := by decide +kernel
theorem dL_law_938 : decode cL_law 938 = .ok (.iadd, 1) := by decide +kernel
theorem dL_law_939 : decode cL_law 939 = .ok (.iaload, 1) := by decide +kernel
theorem dL_law_940 : decode cL_law 940 = .ok (.aload_n 0, 1) := by decide +kernel
theorem dL_law_941 : decode cL_law 941 = .ok (.iload 4, 2) := by decide +kernel
theorem dL_law_943 : decode cL_law 943 = .ok (.iconst 2, 1) := by decide +kernel
theorem dL_law_944 : decode cL_law 944 = .ok (.iadd, 1) := by decide +kernel
theorem dL_law_945 : decode cL_law 945 = .ok (.iaload, 1) := by decide +kernel
theorem dL_law_946 : decode cL_law 946 = .ok (.invokevirtual 132, 3) := by decide +kernel
theorem dL_law_949 : decode cL_law 949 = .ok (.istore 6, 2) := by decide +kernel
theorem dL_law_951 : decode cL_law 951 = .ok (.aload_n 2, 1) := by decide +kernel
theorem dL_law_952 : decode cL_law 952 = .ok (.invokevirtual 83, 3) := by decide +kernel
theorem dL_law_955 : decode cL_law 955 = .ok (.iload 5, 2) := by decide +kernel
theorem dL_law_957 : decode cL_law 957 = .ok (.if_icmp .eq 5, 3) := by decide +kernel
theorem dL_law_960 : decode cL_law 960 = .ok (.iconst 0, 1) := by decide +kernel
theorem dL_law_961 : decode cL_law 961 = .ok (.ireturn, 1) := by decide +kernel
theorem dL_law_962 : decode cL_law 962 = .ok (.iload 5, 2) := by decide +kernel
theorem dL_law_964 : decode cL_law 964 = .ok (.ifCond .ne 15, 3) := by decide +kernel
theorem dL_law_967 : decode cL_law 967 = .ok (.aload_n 3, 1) := by decide +kernel
theorem dL_law_968 : decode cL_law 968 = .ok (.iconst 0, 1) := by decide +kernel
theorem dL_law_969 : decode cL_law 969 = .ok (.laload, 1) := by decide +kernel
theorem dL_law_970 : decode cL_law 970 = .ok (.iload 6, 2) := by decide +kernel
theorem dL_law_972 : decode cL_law 972 = .ok (.i2l, 1) := by decide +kernel
theorem dL_law_973 : decode cL_law 973 = .ok (.lcmp, 1) := by decide +kernel
theorem dL_law_974 : decode cL_law 974 = .ok (.ifCond .eq 5, 3) := by decide +kernel
theorem dL_law_977 : decode cL_law 977 = .ok (.iconst 0, 1) := by decide +kernel
theorem dL_law_978 : decode cL_law 978 = .ok (.ireturn, 1) := by decide +kernel
theorem dL_law_979 : decode cL_law 979 = .ok (.goto 363, 3) := by decide +kernel
theorem dL_law_982 : decode cL_law 982 = .ok (.aload_n 1, 1) := by decide +kernel
theorem dL_law_983 : decode cL_law 983 = .ok (.aload_n 0, 1) := by decide +kernel
theorem dL_law_984 : decode cL_law 984 = .ok (.iload 4, 2) := by decide +kernel
theorem dL_law_986 : decode cL_law 986 = .ok (.iconst 1, 1) := by decide +kernel
theorem dL_law_987 : decode cL_law 987 = .ok (.iadd, 1) := by decide +kernel
theorem dL_law_988 : decode cL_law 988 = .ok (.iaload, 1) := by decide +kernel
theorem dL_law_989 : decode cL_law 989 = .ok (.aload_n 3, 1) := by decide +kernel
theorem dL_law_990 : decode cL_law 990 = .ok (.invokestatic 133, 3) := by decide +kernel
theorem dL_law_993 : decode cL_law 993 = .ok (.istore 5, 2) := by decide +kernel
theorem dL_law_995 : decode cL_law 995 = .ok (.aload_n 2, 1) := by decide +kernel
theorem dL_law_996 : decode cL_law 996 = .ok (.aload_n 0, 1) := by decide +kernel
theorem dL_law_997 : decode cL_law 997 = .ok (.iload 4, 2) := by decide +kernel
theorem dL_law_999 : decode cL_law 999 = .ok (.iconst 1, 1) := by decide +kernel
theorem dL_law_1000 : decode cL_law 1000 = .ok (.iadd, 1) := by decide +kernel
theorem dL_law_1001 : decode cL_law 1001 = .ok (.iaload, 1) := by decide +kernel
theorem dL_law_1002 : decode cL_law 1002 = .ok (.invokevirtual 135, 3) := by decide +kernel
theorem dL_law_1005 : decode cL_law 1005 = .ok (.istore 6, 2) := by decide +kernel
theorem dL_law_1007 : decode cL_law 1007 = .ok (.aload_n 2, 1) := by decide +kernel
theorem dL_law_1008 : decode cL_law 1008 = .ok (.invokevirtual 83, 3) := by decide +kernel
theorem dL_law_1011 : decode cL_law 1011 = .ok (.iload 5, 2) := by decide +kernel
theorem dL_law_1013 : decode cL_law 1013 = .ok (.if_icmp .eq 5, 3) := by decide +kernel
theorem dL_law_1016 : decode cL_law 1016 = .ok (.iconst 0, 1) := by decide +kernel
theorem dL_law_1017 : decode cL_law 1017 = .ok (.ireturn, 1) := by decide +kernel
theorem dL_law_1018 : decode cL_law 1018 = .ok (.iload 5, 2) := by decide +kernel
theorem dL_law_1020 : decode cL_law 1020 = .ok (.ifCond .ne 15, 3) := by decide +kernel
theorem dL_law_1023 : decode cL_law 1023 = .ok (.aload_n 3, 1) := by decide +kernel
theorem dL_law_1024 : decode cL_law 1024 = .ok (.iconst 0, 1) := by decide +kernel
theorem dL_law_1025 : decode cL_law 1025 = .ok (.laload, 1) := by decide +kernel
theorem dL_law_1026 : decode cL_law 1026 = .ok (.iload 6, 2) := by decide +kernel
theorem dL_law_1028 : decode cL_law 1028 = .ok (.i2l, 1) := by decide +kernel
theorem dL_law_1029 : decode cL_law 1029 = .ok (.lcmp, 1) := by decide +kernel
theorem dL_law_1030 : decode cL_law 1030 = .ok (.ifCond .eq 5, 3) := by decide +kernel
theorem dL_law_1033 : decode cL_law 1033 = .ok (.iconst 0, 1) := by decide +kernel
theorem dL_law_1034 : decode cL_law 1034 = .ok (.ireturn, 1) := by decide +kernel
theorem dL_law_1035 : decode cL_law 1035 = .ok (.goto 307, 3) := by decide +kernel
theorem dL_law_1038 : decode cL_law 1038 = .ok (.aload_n 1, 1) := by decide +kernel
theorem dL_law_1039 : decode cL_law 1039 = .ok (.aload_n 0, 1) := by decide +kernel
theorem dL_law_1040 : decode cL_law 1040 = .ok (.iload 4, 2) := by decide +kernel
theorem dL_law_1042 : decode cL_law 1042 = .ok (.iconst 1, 1) := by decide +kernel
theorem dL_law_1043 : decode cL_law 1043 = .ok (.iadd, 1) := by decide +kernel
theorem dL_law_1044 : decode cL_law 1044 = .ok (.iaload, 1) := by decide +kernel
theorem dL_law_1045 : decode cL_law 1045 = .ok (.aload_n 3, 1) := by decide +kernel
theorem dL_law_1046 : decode cL_law 1046 = .ok (.invokestatic 136, 3) := by decide +kernel
theorem dL_law_1049 : decode cL_law 1049 = .ok (.istore 5, 2) := by decide +kernel
theorem dL_law_1051 : decode cL_law 1051 = .ok (.aload_n 2, 1) := by decide +kernel
theorem dL_law_1052 : decode cL_law 1052 = .ok (.aload_n 0, 1) := by decide +kernel
theorem dL_law_1053 : decode cL_law 1053 = .ok (.iload 4, 2) := by decide +kernel
theorem dL_law_1055 : decode cL_law 1055 = .ok (.iconst 1, 1) := by decide +kernel
theorem dL_law_1056 : decode cL_law 1056 = .ok (.iadd, 1) := by decide +kernel
theorem dL_law_1057 : decode cL_law 1057 = .ok (.iaload, 1) := by decide +kernel
theorem dL_law_1058 : decode cL_law 1058 = .ok (.invokevirtual 138, 3) := by decide +kernel
theorem dL_law_1061 : decode cL_law 1061 = .ok (.istore 6, 2) := by decide +kernel
theorem dL_law_1063 : decode cL_law 1063 = .ok (.aload_n 2, 1) := by decide +kernel
theorem dL_law_1064 : decode cL_law 1064 = .ok (.invokevirtual 83, 3) := by decide +kernel
theorem dL_law_1067 : decode cL_law 1067 = .ok (.iload 5, 2) := by decide +kernel
theorem dL_law_1069 : decode cL_law 1069 = .ok (.if_icmp .eq 5, 3) := by decide +kernel
theorem dL_law_1072 : decode cL_law 1072 = .ok (.iconst 0, 1) := by decide +kernel
theorem dL_law_1073 : decode cL_law 1073 = .ok (.ireturn, 1) := by decide +kernel
theorem dL_law_1074 : decode cL_law 1074 = .ok (.iload 5, 2) := by decide +kernel
theorem dL_law_1076 : decode cL_law 1076 = .ok (.ifCond .ne 15, 3) := by decide +kernel
theorem dL_law_1079 : decode cL_law 1079 = .ok (.aload_n 3, 1) := by decide +kernel
theorem dL_law_1080 : decode cL_law 1080 = .ok (.iconst 0, 1) := by decide +kernel
theorem dL_law_1081 : decode cL_law 1081 = .ok (.laload, 1) := by decide +kernel
theorem dL_law_1082 : decode cL_law 1082 = .ok (.iload 6, 2) := by decide +kernel
theorem dL_law_1084 : decode cL_law 1084 = .ok (.i2l, 1) := by decide +kernel
theorem dL_law_1085 : decode cL_law 1085 = .ok (.lcmp, 1) := by decide +kernel
theorem dL_law_1086 : decode cL_law 1086 = .ok (.ifCond .eq 5, 3) := by decide +kernel
theorem dL_law_1089 : decode cL_law 1089 = .ok (.iconst 0, 1) := by decide +kernel
theorem dL_law_1090 : decode cL_law 1090 = .ok (.ireturn, 1) := by decide +kernel
theorem dL_law_1091 : decode cL_law 1091 = .ok (.goto 251, 3) := by decide +kernel
theorem dL_law_1094 : decode cL_law 1094 = .ok (.aload_n 1, 1) := by decide +kernel
theorem dL_law_1095 : decode cL_law 1095 = .ok (.aload_n 0, 1) := by decide +kernel
theorem dL_law_1096 : decode cL_law 1096 = .ok (.iload 4, 2) := by decide +kernel
theorem dL_law_1098 : decode cL_law 1098 = .ok (.iconst 1, 1) := by decide +kernel
theorem dL_law_1099 : decode cL_law 1099 = .ok (.iadd, 1) := by decide +kernel
theorem dL_law_1100 : decode cL_law 1100 = .ok (.iaload, 1) := by decide +kernel
theorem dL_law_1101 : decode cL_law 1101 = .ok (.aload_n 0, 1) := by decide +kernel
theorem dL_law_1102 : decode cL_law 1102 = .ok (.iload 4, 2) := by decide +kernel
theorem dL_law_1104 : decode cL_law 1104 = .ok (.iconst 2, 1) := by decide +kernel
theorem dL_law_1105 : decode cL_law 1105 = .ok (.iadd, 1) := by decide +kernel
theorem dL_law_1106 : decode cL_law 1106 = .ok (.iaload, 1) := by decide +kernel
theorem dL_law_1107 : decode cL_law 1107 = .ok (.aload_n 3, 1) := by decide +kernel
theorem dL_law_1108 : decode cL_law 1108 = .ok (.invokestatic 139, 3) := by decide +kernel
theorem dL_law_1111 : decode cL_law 1111 = .ok (.istore 5, 2) := by decide +kernel
theorem dL_law_1113 : decode cL_law 1113 = .ok (.aload_n 2, 1) := by decide +kernel
theorem dL_law_1114 : decode cL_law 1114 = .ok (.aload_n 0, 1) := by decide +kernel
theorem dL_law_1115 : decode cL_law 1115 = .ok (.iload 4, 2) := by decide +kernel
theorem dL_law_1117 : decode cL_law 1117 = .ok (.iconst 1, 1) := by decide +kernel
theorem dL_law_1118 : decode cL_law 1118 = .ok (.iadd, 1) := by decide +kernel
theorem dL_law_1119 : decode cL_law 1119 = .ok (.iaload, 1) := by decide +kernel
theorem dL_law_1120 : decode cL_law 1120 = .ok (.aload_n 0, 1) := by decide +kernel
theorem dL_law_1121 : decode cL_law 1121 = .ok (.iload 4, 2) := by decide +kernel
theorem dL_law_1123 : decode cL_law 1123 = .ok (.iconst 2, 1) := by decide +kernel
theorem dL_law_1124 : decode cL_law 1124 = .ok (.iadd, 1) := by decide +kernel
theorem dL_law_1125 : decode cL_law 1125 = .ok (.iaload, 1) := by decide +kernel
theorem dL_law_1126 : decode cL_law 1126 = .ok (.invokevirtual 141, 3) := by decide +kernel
theorem dL_law_1129 : decode cL_law 1129 = .ok (.istore 6, 2) := by decide +kernel
theorem dL_law_1131 : decode cL_law 1131 = .ok (.aload_n 2, 1) := by decide +kernel
theorem dL_law_1132 : decode cL_law 1132 = .ok (.invokevirtual 83, 3) := by decide +kernel
theorem dL_law_1135 : decode cL_law 1135 = .ok (.iload 5, 2) := by decide +kernel
theorem dL_law_1137 : decode cL_law 1137 = .ok (.if_icmp .eq 5, 3) := by decide +kernel
theorem dL_law_1140 : decode cL_law 1140 = .ok (.iconst 0, 1) := by decide +kernel
theorem dL_law_1141 : decode cL_law 1141 = .ok (.ireturn, 1) := by decide +kernel
theorem dL_law_1142 : decode cL_law 1142 = .ok (.iload 5, 2) := by decide +kernel
theorem dL_law_1144 : decode cL_law 1144 = .ok (.ifCond .ne 15, 3) := by decide +kernel
theorem dL_law_1147 : decode cL_law 1147 = .ok (.aload_n 3, 1) := by decide +kernel
theorem dL_law_1148 : decode cL_law 1148 = .ok (.iconst 0, 1) := by decide +kernel
theorem dL_law_1149 : decode cL_law 1149 = .ok (.laload, 1) := by decide +kernel
theorem dL_law_1150 : decode cL_law 1150 = .ok (.iload 6, 2) := by decide +kernel
theorem dL_law_1152 : decode cL_law 1152 = .ok (.i2l, 1) := by decide +kernel
theorem dL_law_1153 : decode cL_law 1153 = .ok (.lcmp, 1) := by decide +kernel
theorem dL_law_1154 : decode cL_law 1154 = .ok (.ifCond .eq 5, 3) := by decide +kernel
theorem dL_law_1157 : decode cL_law 1157 = .ok (.iconst 0, 1) := by decide +kernel
theorem dL_law_1158 : decode cL_law 1158 = .ok (.ireturn, 1) := by decide +kernel
theorem dL_law_1159 : decode cL_law 1159 = .ok (.goto 183, 3) := by decide +kernel
theorem dL_law_1162 : decode cL_law 1162 = .ok (.aload_n 1, 1) := by decide +kernel
theorem dL_law_1163 : decode cL_law 1163 = .ok (.aload_n 0, 1) := by decide +kernel
theorem dL_law_1164 : decode cL_law 1164 = .ok (.iload 4, 2) := by decide +kernel
theorem dL_law_1166 : decode cL_law 1166 = .ok (.iconst 1, 1) := by decide +kernel
theorem dL_law_1167 : decode cL_law 1167 = .ok (.iadd, 1) := by decide +kernel
theorem dL_law_1168 : decode cL_law 1168 = .ok (.iaload, 1) := by decide +kernel
theorem dL_law_1169 : decode cL_law 1169 = .ok (.aload_n 3, 1) := by decide +kernel
theorem dL_law_1170 : decode cL_law 1170 = .ok (.invokestatic 142, 3) := by decide +kernel
theorem dL_law_1173 : decode cL_law 1173 = .ok (.istore 5, 2) := by decide +kernel
theorem dL_law_1175 : decode cL_law 1175 = .ok (.aload_n 2, 1) := by decide +kernel
theorem dL_law_1176 : decode cL_law 1176 = .ok (.aload_n 0, 1) := by decide +kernel
theorem dL_law_1177 : decode cL_law 1177 = .ok (.iload 4, 2) := by decide +kernel
theorem dL_law_1179 : decode cL_law 1179 = .ok (.iconst 1, 1) := by decide +kernel
theorem dL_law_1180 : decode cL_law 1180 = .ok (.iadd, 1) := by decide +kernel
theorem dL_law_1181 : decode cL_law 1181 = .ok (.iaload, 1) := by decide +kernel
theorem dL_law_1182 : decode cL_law 1182 = .ok (.invokevirtual 144, 3) := by decide +kernel
theorem dL_law_1185 : decode cL_law 1185 = .ok (.istore 6, 2) := by decide +kernel
theorem dL_law_1187 : decode cL_law 1187 = .ok (.aload_n 2, 1) := by decide +kernel
theorem dL_law_1188 : decode cL_law 1188 = .ok (.invokevirtual 83, 3) := by decide +kernel
theorem dL_law_1191 : decode cL_law 1191 = .ok (.iload 5, 2) := by decide +kernel
theorem dL_law_1193 : decode cL_law 1193 = .ok (.if_icmp .eq 5, 3) := by decide +kernel
theorem dL_law_1196 : decode cL_law 1196 = .ok (.iconst 0, 1) := by decide +kernel
theorem dL_law_1197 : decode cL_law 1197 = .ok (.ireturn, 1) := by decide +kernel
theorem dL_law_1198 : decode cL_law 1198 = .ok (.iload 5, 2) := by decide +kernel
theorem dL_law_1200 : decode cL_law 1200 = .ok (.ifCond .ne 15, 3) := by decide +kernel
theorem dL_law_1203 : decode cL_law 1203 = .ok (.aload_n 3, 1) := by decide +kernel
theorem dL_law_1204 : decode cL_law 1204 = .ok (.iconst 0, 1) := by decide +kernel
theorem dL_law_1205 : decode cL_law 1205 = .ok (.laload, 1) := by decide +kernel
theorem dL_law_1206 : decode cL_law 1206 = .ok (.iload 6, 2) := by decide +kernel
theorem dL_law_1208 : decode cL_law 1208 = .ok (.i2l, 1) := by decide +kernel
theorem dL_law_1209 : decode cL_law 1209 = .ok (.lcmp, 1) := by decide +kernel
theorem dL_law_1210 : decode cL_law 1210 = .ok (.ifCond .eq 5, 3) := by decide +kernel
theorem dL_law_1213 : decode cL_law 1213 = .ok (.iconst 0, 1) := by decide +kernel
theorem dL_law_1214 : decode cL_law 1214 = .ok (.ireturn, 1) := by decide +kernel
theorem dL_law_1215 : decode cL_law 1215 = .ok (.goto 127, 3) := by decide +kernel
theorem dL_law_1218 : decode cL_law 1218 = .ok (.aload_n 1, 1) := by decide +kernel
theorem dL_law_1219 : decode cL_law 1219 = .ok (.invokevirtual 145, 3) := by decide +kernel
theorem dL_law_1222 : decode cL_law 1222 = .ok (.aload_n 2, 1) := by decide +kernel
theorem dL_law_1223 : decode cL_law 1223 = .ok (.invokevirtual 148, 3) := by decide +kernel
theorem dL_law_1226 : decode cL_law 1226 = .ok (.if_icmp .eq 116, 3) := by decide +kernel
theorem dL_law_1229 : decode cL_law 1229 = .ok (.iconst 0, 1) := by decide +kernel
theorem dL_law_1230 : decode cL_law 1230 = .ok (.ireturn, 1) := by decide +kernel
theorem dL_law_1231 : decode cL_law 1231 = .ok (.aload_n 1, 1) := by decide +kernel
theorem dL_law_1232 : decode cL_law 1232 = .ok (.aload_n 0, 1) := by decide +kernel
theorem dL_law_1233 : decode cL_law 1233 = .ok (.iload 4, 2) := by decide +kernel
theorem dL_law_1235 : decode cL_law 1235 = .ok (.iconst 1, 1) := by decide +kernel
theorem dL_law_1236 : decode cL_law 1236 = .ok (.iadd, 1) := by decide +kernel
theorem dL_law_1237 : decode cL_law 1237 = .ok (.iaload, 1) := by decide +kernel
theorem dL_law_1238 : decode cL_law 1238 = .ok (.aload_n 3, 1) := by decide +kernel
theorem dL_law_1239 : decode cL_law 1239 = .ok (.invokestatic 149, 3) := by decide +kernel
theorem dL_law_1242 : decode cL_law 1242 = .ok (.istore 5, 2) := by decide +kernel
theorem dL_law_1244 : decode cL_law 1244 = .ok (.aload_n 2, 1) := by decide +kernel
theorem dL_law_1245 : decode cL_law 1245 = .ok (.aload_n 0, 1) := by decide +kernel
theorem dL_law_1246 : decode cL_law 1246 = .ok (.iload 4, 2) := by decide +kernel
theorem dL_law_1248 : decode cL_law 1248 = .ok (.iconst 1, 1) := by decide +kernel
theorem dL_law_1249 : decode cL_law 1249 = .ok (.iadd, 1) := by decide +kernel
theorem dL_law_1250 : decode cL_law 1250 = .ok (.iaload, 1) := by decide +kernel
theorem dL_law_1251 : decode cL_law 1251 = .ok (.invokevirtual 151, 3) := by decide +kernel
theorem dL_law_1254 : decode cL_law 1254 = .ok (.istore 6, 2) := by decide +kernel
theorem dL_law_1256 : decode cL_law 1256 = .ok (.aload_n 2, 1) := by decide +kernel
theorem dL_law_1257 : decode cL_law 1257 = .ok (.invokevirtual 83, 3) := by decide +kernel
theorem dL_law_1260 : decode cL_law 1260 = .ok (.iload 5, 2) := by decide +kernel
theorem dL_law_1262 : decode cL_law 1262 = .ok (.if_icmp .eq 5, 3) := by decide +kernel
theorem dL_law_1265 : decode cL_law 1265 = .ok (.iconst 0, 1) := by decide +kernel
theorem dL_law_1266 : decode cL_law 1266 = .ok (.ireturn, 1) := by decide +kernel
theorem dL_law_1267 : decode cL_law 1267 = .ok (.iload 5, 2) := by decide +kernel
theorem dL_law_1269 : decode cL_law 1269 = .ok (.ifCond .ne 15, 3) := by decide +kernel
theorem dL_law_1272 : decode cL_law 1272 = .ok (.aload_n 3, 1) := by decide +kernel
theorem dL_law_1273 : decode cL_law 1273 = .ok (.iconst 0, 1) := by decide +kernel
theorem dL_law_1274 : decode cL_law 1274 = .ok (.laload, 1) := by decide +kernel
theorem dL_law_1275 : decode cL_law 1275 = .ok (.iload 6, 2) := by decide +kernel
theorem dL_law_1277 : decode cL_law 1277 = .ok (.i2l, 1) := by decide +kernel
theorem dL_law_1278 : decode cL_law 1278 = .ok (.lcmp, 1) := by decide +kernel
theorem dL_law_1279 : decode cL_law 1279 = .ok (.ifCond .eq 5, 3) := by decide +kernel
theorem dL_law_1282 : decode cL_law 1282 = .ok (.iconst 0, 1) := by decide +kernel
theorem dL_law_1283 : decode cL_law 1283 = .ok (.ireturn, 1) := by decide +kernel
theorem dL_law_1284 : decode cL_law 1284 = .ok (.goto 58, 3) := by decide +kernel
theorem dL_law_1287 : decode cL_law 1287 = .ok (.aload_n 1, 1) := by decide +kernel
theorem dL_law_1288 : decode cL_law 1288 = .ok (.invokevirtual 152, 3) := by decide +kernel
theorem dL_law_1291 : decode cL_law 1291 = .ok (.dstore 5, 2) := by decide +kernel
theorem dL_law_1293 : decode cL_law 1293 = .ok (.aload_n 2, 1) := by decide +kernel
theorem dL_law_1294 : decode cL_law 1294 = .ok (.invokevirtual 156, 3) := by decide +kernel
theorem dL_law_1297 : decode cL_law 1297 = .ok (.dstore 7, 2) := by decide +kernel
theorem dL_law_1299 : decode cL_law 1299 = .ok (.dload 5, 2) := by decide +kernel
theorem dL_law_1301 : decode cL_law 1301 = .ok (.dload 7, 2) := by decide +kernel
theorem dL_law_1303 : decode cL_law 1303 = .ok (.dcmp .l, 1) := by decide +kernel
theorem dL_law_1304 : decode cL_law 1304 = .ok (.ifCond .eq 21, 3) := by decide +kernel
theorem dL_law_1307 : decode cL_law 1307 = .ok (.dload 5, 2) := by decide +kernel
theorem dL_law_1309 : decode cL_law 1309 = .ok (.dload 5, 2) := by decide +kernel
theorem dL_law_1311 : decode cL_law 1311 = .ok (.dcmp .l, 1) := by decide +kernel
theorem dL_law_1312 : decode cL_law 1312 = .ok (.ifCond .eq 11, 3) := by decide +kernel
theorem dL_law_1315 : decode cL_law 1315 = .ok (.dload 7, 2) := by decide +kernel
theorem dL_law_1317 : decode cL_law 1317 = .ok (.dload 7, 2) := by decide +kernel
theorem dL_law_1319 : decode cL_law 1319 = .ok (.dcmp .l, 1) := by decide +kernel
theorem dL_law_1320 : decode cL_law 1320 = .ok (.ifCond .ne 5, 3) := by decide +kernel
theorem dL_law_1323 : decode cL_law 1323 = .ok (.iconst 0, 1) := by decide +kernel
theorem dL_law_1324 : decode cL_law 1324 = .ok (.ireturn, 1) := by decide +kernel
theorem dL_law_1325 : decode cL_law 1325 = .ok (.goto 17, 3) := by decide +kernel
theorem dL_law_1328 : decode cL_law 1328 = .ok (.aload_n 1, 1) := by decide +kernel
theorem dL_law_1329 : decode cL_law 1329 = .ok (.invokevirtual 157, 3) := by decide +kernel
theorem dL_law_1332 : decode cL_law 1332 = .ok (.aload_n 2, 1) := by decide +kernel
theorem dL_law_1333 : decode cL_law 1333 = .ok (.invokevirtual 161, 3) := by decide +kernel
theorem dL_law_1336 : decode cL_law 1336 = .ok (.lcmp, 1) := by decide +kernel
theorem dL_law_1337 : decode cL_law 1337 = .ok (.ifCond .eq 5, 3) := by decide +kernel
theorem dL_law_1340 : decode cL_law 1340 = .ok (.iconst 0, 1) := by decide +kernel
theorem dL_law_1341 : decode cL_law 1341 = .ok (.ireturn, 1) := by decide +kernel
theorem dL_law_1342 : decode cL_law 1342 = .ok (.iinc 4 4, 3) := by decide +kernel
theorem dL_law_1345 : decode cL_law 1345 = .ok (.goto (-1322), 3) := by decide +kernel
theorem dL_law_1348 : decode cL_law 1348 = .ok (.iconst 1, 1) := by decide +kernel
theorem dL_law_1349 : decode cL_law 1349 = .ok (.ireturn, 1) := by decide +kernel
end
section
/-! links: the words as members of wsL_law, by their places; bundles for calls -/
theorem m_r1 : ∀ w ∈ wsL_law0_r1, w ∈ wsL_law := fun _ h => List.mem_append_left _ (List.mem_append_left _ (List.mem_append_left _ (List.mem_append_left _ (List.mem_append_left _ (List.mem_append_left _ (List.mem_append_left _ (List.mem_append_left _ (List.mem_append_left _ (List.mem_append_left _ h)))))))))
theorem m_r2 : ∀ w ∈ wsL_law0_r2, w ∈ wsL_law := fun _ h => List.mem_append_left _ (List.mem_append_left _ (List.mem_append_left _ (List.mem_append_left _ (List.mem_append_left _ (List.mem_append_left _ (List.mem_append_left _ (List.mem_append_left _ (List.mem_append_left _ (List.mem_append_right _ (List.mem_append_left _ h))))))))))
theorem m_r3 : ∀ w ∈ wsL_law0_r3, w ∈ wsL_law := fun _ h => List.mem_append_left _ (List.mem_append_left _ (List.mem_append_left _ (List.mem_append_left _ (List.mem_append_left _ (List.mem_append_left _ (List.mem_append_left _ (List.mem_append_left _ (List.mem_append_left _ (List.mem_append_right _ (List.mem_append_right _ (List.mem_append_left _ h)))))))))))
theorem m_r4 : ∀ w ∈ wsL_law0_r4, w ∈ wsL_law := fun _ h => List.mem_append_left _ (List.mem_append_left _ (List.mem_append_left _ (List.mem_append_left _ (List.mem_append_left _ (List.mem_append_left _ (List.mem_append_left _ (List.mem_append_left _ (List.mem_append_left _ (List.mem_append_right _ (List.mem_append_right _ (List.mem_append_right _ (List.mem_append_left _ h))))))))))))
theorem m_r5 : ∀ w ∈ wsL_law0_r5, w ∈ wsL_law := fun _ h => List.mem_append_left _ (List.mem_append_left _ (List.mem_append_left _ (List.mem_append_left _ (List.mem_append_left _ (List.mem_append_left _ (List.mem_append_left _ (List.mem_append_left _ (List.mem_append_left _ (List.mem_append_right _ (List.mem_append_right _ (List.mem_append_right _ (List.mem_append_right _ (List.mem_append_left _ h)))))))))))))
theorem m_r6 : ∀ w ∈ wsL_law0_r6, w ∈ wsL_law := fun _ h => List.mem_append_left _ (List.mem_append_left _ (List.mem_append_left _ (List.mem_append_left _ (List.mem_append_left _ (List.mem_append_left _ (List.mem_append_left _ (List.mem_append_left _ (List.mem_append_left _ (List.mem_append_right _ (List.mem_append_right _ (List.mem_append_right _ (List.mem_append_right _ (List.mem_append_right _ (List.mem_append_left _ h))))))))))))))
theorem m_r7 : ∀ w ∈ wsL_law0_r7, w ∈ wsL_law := fun _ h => List.mem_append_left _ (List.mem_append_left _ (List.mem_append_left _ (List.mem_append_left _ (List.mem_append_left _ (List.mem_append_left _ (List.mem_append_left _ (List.mem_append_left _ (List.mem_append_left _ (List.mem_append_right _ (List.mem_append_right _ (List.mem_append_right _ (List.mem_append_right _ (List.mem_append_right _ (List.mem_append_right _ (List.mem_append_left _ h)))))))))))))))
theorem m_r8 : ∀ w ∈ wsL_law0_r8, w ∈ wsL_law := fun _ h => List.mem_append_left _ (List.mem_append_left _ (List.mem_append_left _ (List.mem_append_left _ (List.mem_append_left _ (List.mem_append_left _ (List.mem_append_left _ (List.mem_append_left _ (List.mem_append_left _ (List.mem_append_right _ (List.mem_append_right _ (List.mem_append_right _ (List.mem_append_right _ (List.mem_append_right _ (List.mem_append_right _ (List.mem_append_right _ (List.mem_append_left _ h))))))))))))))))
theorem m_r9 : ∀ w ∈ wsL_law0_r9, w ∈ wsL_law := fun _ h => List.mem_append_left _ (List.mem_append_left _ (List.mem_append_left _ (List.mem_append_left _ (List.mem_append_left _ (List.mem_append_left _ (List.mem_append_left _ (List.mem_append_left _ (List.mem_append_left _ (List.mem_append_right _ (List.mem_append_right _ (List.mem_append_right _ (List.mem_append_right _ (List.mem_append_right _ (List.mem_append_right _ (List.mem_append_right _ (List.mem_append_right _ (List.mem_append_left _ h)))))))))))))))))
theorem m_r10 : ∀ w ∈ wsL_law0_r10, w ∈ wsL_law := fun _ h => List.mem_append_left _ (List.mem_append_left _ (List.mem_append_left _ (List.mem_append_left _ (List.mem_append_left _ (List.mem_append_left _ (List.mem_append_left _ (List.mem_append_left _ (List.mem_append_left _ (List.mem_append_right _ (List.mem_append_right _ (List.mem_append_right _ (List.mem_append_right _ (List.mem_append_right _ (List.mem_append_right _ (List.mem_append_right _ (List.mem_append_right _ (List.mem_append_right _ (List.mem_append_left _ h))))))))))))))))))
theorem m_r11 : ∀ w ∈ wsL_law0_r11, w ∈ wsL_law := fun _ h => List.mem_append_left _ (List.mem_append_left _ (List.mem_append_left _ (List.mem_append_left _ (List.mem_append_left _ (List.mem_append_left _ (List.mem_append_left _ (List.mem_append_left _ (List.mem_append_left _ (List.mem_append_right _ (List.mem_append_right _ (List.mem_append_right _ (List.mem_append_right _ (List.mem_append_right _ (List.mem_append_right _ (List.mem_append_right _ (List.mem_append_right _ (List.mem_append_right _ (List.mem_append_right _ (List.mem_append_left _ h)))))))))))))))))))
theorem m_r12 : ∀ w ∈ wsL_law0_r12, w ∈ wsL_law := fun _ h => List.mem_append_left _ (List.mem_append_left _ (List.mem_append_left _ (List.mem_append_left _ (List.mem_append_left _ (List.mem_append_left _ (List.mem_append_left _ (List.mem_append_left _ (List.mem_append_left _ (List.mem_append_right _ (List.mem_append_right _ (List.mem_append_right _ (List.mem_append_right _ (List.mem_append_right _ (List.mem_append_right _ (List.mem_append_right _ (List.mem_append_right _ (List.mem_append_right _ (List.mem_append_right _ (List.mem_append_right _ (List.mem_append_left _ h))))))))))))))))))))
theorem m_r13 : ∀ w ∈ wsL_law0_r13, w ∈ wsL_law := fun _ h => List.mem_append_left _ (List.mem_append_left _ (List.mem_append_left _ (List.mem_append_left _ (List.mem_append_left _ (List.mem_append_left _ (List.mem_append_left _ (List.mem_append_left _ (List.mem_append_left _ (List.mem_append_right _ (List.mem_append_right _ (List.mem_append_right _ (List.mem_append_right _ (List.mem_append_right _ (List.mem_append_right _ (List.mem_append_right _ (List.mem_append_right _ (List.mem_append_right _ (List.mem_append_right _ (List.mem_append_right _ (List.mem_append_right _ (List.mem_append_left _ h)))))))))))))))))))))
theorem m_r14 : ∀ w ∈ wsL_law0_r14, w ∈ wsL_law := fun _ h => List.mem_append_left _ (List.mem_append_left _ (List.mem_append_left _ (List.mem_append_left _ (List.mem_append_left _ (List.mem_append_left _ (List.mem_append_left _ (List.mem_append_left _ (List.mem_append_left _ (List.mem_append_right _ (List.mem_append_right _ (List.mem_append_right _ (List.mem_append_right _ (List.mem_append_right _ (List.mem_append_right _ (List.mem_append_right _ (List.mem_append_right _ (List.mem_append_right _ (List.mem_append_right _ (List.mem_append_right _ (List.mem_append_right _ (List.mem_append_right _ (List.mem_append_left _ h))))))))))))))))))))))
theorem m_r15 : ∀ w ∈ wsL_law0_r15, w ∈ wsL_law := fun _ h => List.mem_append_left _ (List.mem_append_left _ (List.mem_append_left _ (List.mem_append_left _ (List.mem_append_left _ (List.mem_append_left _ (List.mem_append_left _ (List.mem_append_left _ (List.mem_append_left _ (List.mem_append_right _ (List.mem_append_right _ (List.mem_append_right _ (List.mem_append_right _ (List.mem_append_right _ (List.mem_append_right _ (List.mem_append_right _ (List.mem_append_right _ (List.mem_append_right _ (List.mem_append_right _ (List.mem_append_right _ (List.mem_append_right _ (List.mem_append_right _ (List.mem_append_right _ (List.mem_append_left _ h)))))))))))))))))))))))
theorem m_r16 : ∀ w ∈ wsL_law0_r16, w ∈ wsL_law := fun _ h => List.mem_append_left _ (List.mem_append_left _ (List.mem_append_left _ (List.mem_append_left _ (List.mem_append_left _ (List.mem_append_left _ (List.mem_append_left _ (List.mem_append_left _ (List.mem_append_left _ (List.mem_append_right _ (List.mem_append_right _ (List.mem_append_right _ (List.mem_append_right _ (List.mem_append_right _ (List.mem_append_right _ (List.mem_append_right _ (List.mem_append_right _ (List.mem_append_right _ (List.mem_append_right _ (List.mem_append_right _ (List.mem_append_right _ (List.mem_append_right _ (List.mem_append_right _ (List.mem_append_right _ (List.mem_append_left _ h))))))))))))))))))))))))
theorem m_r17 : ∀ w ∈ wsL_law0_r17, w ∈ wsL_law := fun _ h => List.mem_append_left _ (List.mem_append_left _ (List.mem_append_left _ (List.mem_append_left _ (List.mem_append_left _ (List.mem_append_left _ (List.mem_append_left _ (List.mem_append_left _ (List.mem_append_left _ (List.mem_append_right _ (List.mem_append_right _ (List.mem_append_right _ (List.mem_append_right _ (List.mem_append_right _ (List.mem_append_right _ (List.mem_append_right _ (List.mem_append_right _ (List.mem_append_right _ (List.mem_append_right _ (List.mem_append_right _ (List.mem_append_right _ (List.mem_append_right _ (List.mem_append_right _ (List.mem_append_right _ (List.mem_append_right _ (List.mem_append_left _ h)))))))))))))))))))))))))
theorem m_r18 : ∀ w ∈ wsL_law0_r18, w ∈ wsL_law := fun _ h => List.mem_append_left _ (List.mem_append_left _ (List.mem_append_left _ (List.mem_append_left _ (List.mem_append_left _ (List.mem_append_left _ (List.mem_append_left _ (List.mem_append_left _ (List.mem_append_left _ (List.mem_append_right _ (List.mem_append_right _ (List.mem_append_right _ (List.mem_append_right _ (List.mem_append_right _ (List.mem_append_right _ (List.mem_append_right _ (List.mem_append_right _ (List.mem_append_right _ (List.mem_append_right _ (List.mem_append_right _ (List.mem_append_right _ (List.mem_append_right _ (List.mem_append_right _ (List.mem_append_right _ (List.mem_append_right _ (List.mem_append_right _ (List.mem_append_left _ h))))))))))))))))))))))))))
theorem m_r19 : ∀ w ∈ wsL_law0_r19, w ∈ wsL_law := fun _ h => List.mem_append_left _ (List.mem_append_left _ (List.mem_append_left _ (List.mem_append_left _ (List.mem_append_left _ (List.mem_append_left _ (List.mem_append_left _ (List.mem_append_left _ (List.mem_append_left _ (List.mem_append_right _ (List.mem_append_right _ (List.mem_append_right _ (List.mem_append_right _ (List.mem_append_right _ (List.mem_append_right _ (List.mem_append_right _ (List.mem_append_right _ (List.mem_append_right _ (List.mem_append_right _ (List.mem_append_right _ (List.mem_append_right _ (List.mem_append_right _ (List.mem_append_right _ (List.mem_append_right _ (List.mem_append_right _ (List.mem_append_right _ (List.mem_append_right _ (List.mem_append_left _ h)))))))))))))))))))))))))))
theorem m_r20 : ∀ w ∈ wsL_law0_r20, w ∈ wsL_law := fun _ h => List.mem_append_left _ (List.mem_append_left _ (List.mem_append_left _ (List.mem_append_left _ (List.mem_append_left _ (List.mem_append_left _ (List.mem_append_left _ (List.mem_append_left _ (List.mem_append_left _ (List.mem_append_right _ (List.mem_append_right _ (List.mem_append_right _ (List.mem_append_right _ (List.mem_append_right _ (List.mem_append_right _ (List.mem_append_right _ (List.mem_append_right _ (List.mem_append_right _ (List.mem_append_right _ (List.mem_append_right _ (List.mem_append_right _ (List.mem_append_right _ (List.mem_append_right _ (List.mem_append_right _ (List.mem_append_right _ (List.mem_append_right _ (List.mem_append_right _ (List.mem_append_right _ (List.mem_append_left _ h))))))))))))))))))))))))))))
theorem m_r21 : ∀ w ∈ wsL_law0_r21, w ∈ wsL_law := fun _ h => List.mem_append_left _ (List.mem_append_left _ (List.mem_append_left _ (List.mem_append_left _ (List.mem_append_left _ (List.mem_append_left _ (List.mem_append_left _ (List.mem_append_left _ (List.mem_append_left _ (List.mem_append_right _ (List.mem_append_right _ (List.mem_append_right _ (List.mem_append_right _ (List.mem_append_right _ (List.mem_append_right _ (List.mem_append_right _ (List.mem_append_right _ (List.mem_append_right _ (List.mem_append_right _ (List.mem_append_right _ (List.mem_append_right _ (List.mem_append_right _ (List.mem_append_right _ (List.mem_append_right _ (List.mem_append_right _ (List.mem_append_right _ (List.mem_append_right _ (List.mem_append_right _ (List.mem_append_right _ (List.mem_append_left _ h)))))))))))))))))))))))))))))
theorem m_r22 : ∀ w ∈ wsL_law0_r22, w ∈ wsL_law := fun _ h => List.mem_append_left _ (List.mem_append_left _ (List.mem_append_left _ (List.mem_append_left _ (List.mem_append_left _ (List.mem_append_left _ (List.mem_append_left _ (List.mem_append_left _ (List.mem_append_left _ (List.mem_append_right _ (List.mem_append_right _ (List.mem_append_right _ (List.mem_append_right _ (List.mem_append_right _ (List.mem_append_right _ (List.mem_append_right _ (List.mem_append_right _ (List.mem_append_right _ (List.mem_append_right _ (List.mem_append_right _ (List.mem_append_right _ (List.mem_append_right _ (List.mem_append_right _ (List.mem_append_right _ (List.mem_append_right _ (List.mem_append_right _ (List.mem_append_right _ (List.mem_append_right _ (List.mem_append_right _ (List.mem_append_right _ (List.mem_append_left _ h))))))))))))))))))))))))))))))
theorem m_r23 : ∀ w ∈ wsL_law0_r23, w ∈ wsL_law := fun _ h => List.mem_append_left _ (List.mem_append_left _ (List.mem_append_left _ (List.mem_append_left _ (List.mem_append_left _ (List.mem_append_left _ (List.mem_append_left _ (List.mem_append_left _ (List.mem_append_left _ (List.mem_append_right _ (List.mem_append_right _ (List.mem_append_right _ (List.mem_append_right _ (List.mem_append_right _ (List.mem_append_right _ (List.mem_append_right _ (List.mem_append_right _ (List.mem_append_right _ (List.mem_append_right _ (List.mem_append_right _ (List.mem_append_right _ (List.mem_append_right _ (List.mem_append_right _ (List.mem_append_right _ (List.mem_append_right _ (List.mem_append_right _ (List.mem_append_right _ (List.mem_append_right _ (List.mem_append_right _ (List.mem_append_right _ (List.mem_append_right _ (List.mem_append_left _ h)))))))))))))))))))))))))))))))
theorem m_r24 : ∀ w ∈ wsL_law0_r24, w ∈ wsL_law := fun _ h => List.mem_append_left _ (List.mem_append_left _ (List.mem_append_left _ (List.mem_append_left _ (List.mem_append_left _ (List.mem_append_left _ (List.mem_append_left _ (List.mem_append_left _ (List.mem_append_left _ (List.mem_append_right _ (List.mem_append_right _ (List.mem_append_right _ (List.mem_append_right _ (List.mem_append_right _ (List.mem_append_right _ (List.mem_append_right _ (List.mem_append_right _ (List.mem_append_right _ (List.mem_append_right _ (List.mem_append_right _ (List.mem_append_right _ (List.mem_append_right _ (List.mem_append_right _ (List.mem_append_right _ (List.mem_append_right _ (List.mem_append_right _ (List.mem_append_right _ (List.mem_append_right _ (List.mem_append_right _ (List.mem_append_right _ (List.mem_append_right _ (List.mem_append_right _ (List.mem_append_left _ h))))))))))))))))))))))))))))))))
theorem m_r25 : ∀ w ∈ wsL_law0_r25, w ∈ wsL_law := fun _ h => List.mem_append_left _ (List.mem_append_left _ (List.mem_append_left _ (List.mem_append_left _ (List.mem_append_left _ (List.mem_append_left _ (List.mem_append_left _ (List.mem_append_left _ (List.mem_append_left _ (List.mem_append_right _ (List.mem_append_right _ (List.mem_append_right _ (List.mem_append_right _ (List.mem_append_right _ (List.mem_append_right _ (List.mem_append_right _ (List.mem_append_right _ (List.mem_append_right _ (List.mem_append_right _ (List.mem_append_right _ (List.mem_append_right _ (List.mem_append_right _ (List.mem_append_right _ (List.mem_append_right _ (List.mem_append_right _ (List.mem_append_right _ (List.mem_append_right _ (List.mem_append_right _ (List.mem_append_right _ (List.mem_append_right _ (List.mem_append_right _ (List.mem_append_right _ (List.mem_append_right _ (List.mem_append_left _ h)))))))))))))))))))))))))))))))))
theorem m_r26 : ∀ w ∈ wsL_law0_r26, w ∈ wsL_law := fun _ h => List.mem_append_left _ (List.mem_append_left _ (List.mem_append_left _ (List.mem_append_left _ (List.mem_append_left _ (List.mem_append_left _ (List.mem_append_left _ (List.mem_append_left _ (List.mem_append_left _ (List.mem_append_right _ (List.mem_append_right _ (List.mem_append_right _ (List.mem_append_right _ (List.mem_append_right _ (List.mem_append_right _ (List.mem_append_right _ (List.mem_append_right _ (List.mem_append_right _ (List.mem_append_right _ (List.mem_append_right _ (List.mem_append_right _ (List.mem_append_right _ (List.mem_append_right _ (List.mem_append_right _ (List.mem_append_right _ (List.mem_append_right _ (List.mem_append_right _ (List.mem_append_right _ (List.mem_append_right _ (List.mem_append_right _ (List.mem_append_right _ (List.mem_append_right _ (List.mem_append_right _ (List.mem_append_right _ (List.mem_append_left _ h))))))))))))))))))))))))))))))))))
theorem m_r27 : ∀ w ∈ wsL_law0_r27, w ∈ wsL_law := fun _ h => List.mem_append_left _ (List.mem_append_left _ (List.mem_append_left _ (List.mem_append_left _ (List.mem_append_left _ (List.mem_append_left _ (List.mem_append_left _ (List.mem_append_left _ (List.mem_append_left _ (List.mem_append_right _ (List.mem_append_right _ (List.mem_append_right _ (List.mem_append_right _ (List.mem_append_right _ (List.mem_append_right _ (List.mem_append_right _ (List.mem_append_right _ (List.mem_append_right _ (List.mem_append_right _ (List.mem_append_right _ (List.mem_append_right _ (List.mem_append_right _ (List.mem_append_right _ (List.mem_append_right _ (List.mem_append_right _ (List.mem_append_right _ (List.mem_append_right _ (List.mem_append_right _ (List.mem_append_right _ (List.mem_append_right _ (List.mem_append_right _ (List.mem_append_right _ (List.mem_append_right _ (List.mem_append_right _ (List.mem_append_right _ (List.mem_append_left _ h)))))))))))))))))))))))))))))))))))
theorem m_r28 : ∀ w ∈ wsL_law0_r28, w ∈ wsL_law := fun _ h => List.mem_append_left _ (List.mem_append_left _ (List.mem_append_left _ (List.mem_append_left _ (List.mem_append_left _ (List.mem_append_left _ (List.mem_append_left _ (List.mem_append_left _ (List.mem_append_left _ (List.mem_append_right _ (List.mem_append_right _ (List.mem_append_right _ (List.mem_append_right _ (List.mem_append_right _ (List.mem_append_right _ (List.mem_append_right _ (List.mem_append_right _ (List.mem_append_right _ (List.mem_append_right _ (List.mem_append_right _ (List.mem_append_right _ (List.mem_append_right _ (List.mem_append_right _ (List.mem_append_right _ (List.mem_append_right _ (List.mem_append_right _ (List.mem_append_right _ (List.mem_append_right _ (List.mem_append_right _ (List.mem_append_right _ (List.mem_append_right _ (List.mem_append_right _ (List.mem_append_right _ (List.mem_append_right _ (List.mem_append_right _ (List.mem_append_right _ (List.mem_append_left _ h))))))))))))))))))))))))))))))))))))
theorem m_r29 : ∀ w ∈ wsL_law0_r29, w ∈ wsL_law := fun _ h => List.mem_append_left _ (List.mem_append_left _ (List.mem_append_left _ (List.mem_append_left _ (List.mem_append_left _ (List.mem_append_left _ (List.mem_append_left _ (List.mem_append_left _ (List.mem_append_left _ (List.mem_append_right _ (List.mem_append_right _ (List.mem_append_right _ (List.mem_append_right _ (List.mem_append_right _ (List.mem_append_right _ (List.mem_append_right _ (List.mem_append_right _ (List.mem_append_right _ (List.mem_append_right _ (List.mem_append_right _ (List.mem_append_right _ (List.mem_append_right _ (List.mem_append_right _ (List.mem_append_right _ (List.mem_append_right _ (List.mem_append_right _ (List.mem_append_right _ (List.mem_append_right _ (List.mem_append_right _ (List.mem_append_right _ (List.mem_append_right _ (List.mem_append_right _ (List.mem_append_right _ (List.mem_append_right _ (List.mem_append_right _ (List.mem_append_right _ (List.mem_append_right _ (List.mem_append_left _ h)))))))))))))))))))))))))))))))))))))
theorem m_r30 : ∀ w ∈ wsL_law0_r30, w ∈ wsL_law := fun _ h => List.mem_append_left _ (List.mem_append_left _ (List.mem_append_left _ (List.mem_append_left _ (List.mem_append_left _ (List.mem_append_left _ (List.mem_append_left _ (List.mem_append_left _ (List.mem_append_left _ (List.mem_append_right _ (List.mem_append_right _ (List.mem_append_right _ (List.mem_append_right _ (List.mem_append_right _ (List.mem_append_right _ (List.mem_append_right _ (List.mem_append_right _ (List.mem_append_right _ (List.mem_append_right _ (List.mem_append_right _ (List.mem_append_right _ (List.mem_append_right _ (List.mem_append_right _ (List.mem_append_right _ (List.mem_append_right _ (List.mem_append_right _ (List.mem_append_right _ (List.mem_append_right _ (List.mem_append_right _ (List.mem_append_right _ (List.mem_append_right _ (List.mem_append_right _ (List.mem_append_right _ (List.mem_append_right _ (List.mem_append_right _ (List.mem_append_right _ (List.mem_append_right _ (List.mem_append_right _ (List.mem_append_left _ h))))))))))))))))))))))))))))))))))))))
theorem m_r31 : ∀ w ∈ wsL_law0_r31, w ∈ wsL_law := fun _ h => List.mem_append_left _ (List.mem_append_left _ (List.mem_append_left _ (List.mem_append_left _ (List.mem_append_left _ (List.mem_append_left _ (List.mem_append_left _ (List.mem_append_left _ (List.mem_append_left _ (List.mem_append_right _ (List.mem_append_right _ (List.mem_append_right _ (List.mem_append_right _ (List.mem_append_right _ (List.mem_append_right _ (List.mem_append_right _ (List.mem_append_right _ (List.mem_append_right _ (List.mem_append_right _ (List.mem_append_right _ (List.mem_append_right _ (List.mem_append_right _ (List.mem_append_right _ (List.mem_append_right _ (List.mem_append_right _ (List.mem_append_right _ (List.mem_append_right _ (List.mem_append_right _ (List.mem_append_right _ (List.mem_append_right _ (List.mem_append_right _ (List.mem_append_right _ (List.mem_append_right _ (List.mem_append_right _ (List.mem_append_right _ (List.mem_append_right _ (List.mem_append_right _ (List.mem_append_right _ (List.mem_append_right _ (h)))))))))))))))))))))))))))))))))))))))
theorem wl_good : wsL_law.all goodWord = true := by decide +kernel
theorem wl_pay {args : Array Value} {s : State} (hts : ∀ w ∈ wsL_law, w.before args s = true) : ∀ w ∈ wsL_law, ∀ (a' : Array Value) (U : State), s.WarmedH U.vm → w.before a' U = true := fun w h _ _ hW => word_at hW (good_of_word (List.all_eq_true.mp wl_good w h)) (hts w h)
abbrev wy_ (y : MethodName) (bytes : ByteArray) (maxL : Nat) (ret : Option FieldType) : List Cond := .code y bytes maxL ret :: wsL_law
abbrev wyW_ (y : MethodName) (bytes : ByteArray) (maxL : Nat) (ret : Option FieldType) (hh : List (Nat × Nat × Nat × Nat)) : List Cond := .codeWith y bytes maxL ret hh :: wsL_law
def KY (y : MethodName) (n : Nat) : Prop := y.cls ≠ "java/lang/invoke/MethodHandle" ∧ y.cls ≠ "java/lang/invoke/VarHandle" ∧ (parseMethodDescriptor y.desc).map (fun d => d.parameters.length) = some n
def KV (own : String) (index : Nat) (C : String) (y : MethodName) (bytes : ByteArray) (maxL : Nat) (ret : Option FieldType) (n : Nat) : Prop := (Cond.methodLink own index y ∈ wsL_law ∧ Cond.instanceMethod y ∈ wsL_law ∧ Cond.selects C y y ∈ wsL_law ∧ Cond.initialized y.cls ∈ wsL_law ∧ Cond.code y bytes maxL ret ∈ wsL_law) ∧ KY y n
def KS (own : String) (index : Nat) (y : MethodName) (bytes : ByteArray) (maxL : Nat) (ret : Option FieldType) (n : Nat) : Prop := (Cond.methodLink own index y ∈ wsL_law ∧ Cond.static y ∈ wsL_law ∧ Cond.initialized y.cls ∈ wsL_law ∧ Cond.code y bytes maxL ret ∈ wsL_law) ∧ KY y n
def KI (own : String) (index : Nat) (y : MethodName) (bytes : ByteArray) (maxL : Nat) (n : Nat) : Prop := (Cond.methodLink own index y ∈ wsL_law ∧ Cond.instanceMethod y ∈ wsL_law ∧ Cond.initialized y.cls ∈ wsL_law ∧ Cond.code y bytes maxL none ∈ wsL_law) ∧ KY y n ∧ y.name = "<init>"
def KSW (own : String) (index : Nat) (y : MethodName) (bytes : ByteArray) (maxL : Nat) (ret : Option FieldType) (hh : List (Nat × Nat × Nat × Nat)) (n : Nat) : Prop := (Cond.methodLink own index y ∈ wsL_law ∧ Cond.static y ∈ wsL_law ∧ Cond.initialized y.cls ∈ wsL_law ∧ Cond.codeWith y bytes maxL ret hh ∈ wsL_law) ∧ KY y n
theorem k_cB {R : Room} {s : State} {args : Array Value} {own : String} {index maxL n mc ms : Nat} {y : MethodName} {bytes : ByteArray} {ret : Option FieldType} {rm : Room} (hts : ∀ w ∈ wsL_law, w.before args s = true) (h1 : Cond.methodLink own index y ∈ wsL_law) (h2 : Cond.initialized y.cls ∈ wsL_law) (h3 : Cond.code y bytes maxL ret ∈ wsL_law) (hy : KY y n) (hrc : rm.cells = mc) (hrs : rm.slots = ms) (hR : rm.frames + 1 ≤ R.frames ∧ 8 + (maxL + 11) + rm.locals ≤ R.locals) :
    CallB R s args own index y bytes maxL ret (wy_ y bytes maxL ret) rm mc ms n := by
  refine ⟨hrc, hrs, hR.1, hR.2, fun w hw a' U hW => ?_, List.mem_cons_self, hts _ h3, hts _ h2, ⟨hy.1, hy.2.1⟩, fun sig h => ?_, hts _ h1⟩
  · rcases List.mem_cons.mp hw with rfl | hw
    · exact wl_pay hts _ h3 a' U hW
    · exact wl_pay hts _ hw a' U hW
  · have h2 := hy.2.2
    rw [h] at h2
    exact (Option.some.inj h2).symm
theorem k_cV {R : Room} {s : State} {args : Array Value} {own C : String} {index maxL n mc ms : Nat} {y : MethodName} {bytes : ByteArray} {ret : Option FieldType} {rm : Room} (hts : ∀ w ∈ wsL_law, w.before args s = true) (h : KV own index C y bytes maxL ret n) (hrc : rm.cells = mc) (hrs : rm.slots = ms) (hR : rm.frames + 1 ≤ R.frames ∧ 8 + (maxL + 11) + rm.locals ≤ R.locals) :
    CallW R s args own C index y bytes maxL ret (wy_ y bytes maxL ret) rm mc ms n := ⟨k_cB hts h.1.1 h.1.2.2.2.1 h.1.2.2.2.2 h.2 hrc hrs hR, hts _ h.1.2.1, hts _ h.1.2.2.1⟩
theorem k_cS {R : Room} {s : State} {args : Array Value} {own : String} {index maxL n mc ms : Nat} {y : MethodName} {bytes : ByteArray} {ret : Option FieldType} {rm : Room} (hts : ∀ w ∈ wsL_law, w.before args s = true) (h : KS own index y bytes maxL ret n) (hrc : rm.cells = mc) (hrs : rm.slots = ms) (hR : rm.frames + 1 ≤ R.frames ∧ 8 + (maxL + 11) + rm.locals ≤ R.locals) :
    CallB R s args own index y bytes maxL ret (wy_ y bytes maxL ret) rm mc ms n ∧ (Cond.static y).before args s = true := ⟨k_cB hts h.1.1 h.1.2.2.1 h.1.2.2.2 h.2 hrc hrs hR, hts _ h.1.2.1⟩
theorem k_cI {R : Room} {s : State} {args : Array Value} {own : String} {index maxL n mc ms : Nat} {y : MethodName} {bytes : ByteArray} {rm : Room} (hts : ∀ w ∈ wsL_law, w.before args s = true) (h : KI own index y bytes maxL n) (hrc : rm.cells = mc) (hrs : rm.slots = ms) (hR : rm.frames + 1 ≤ R.frames ∧ 8 + (maxL + 11) + rm.locals ≤ R.locals) :
    CallB R s args own index y bytes maxL none (wy_ y bytes maxL none) rm mc ms n ∧ y.name = "<init>" ∧ (Cond.instanceMethod y).before args s = true := ⟨k_cB hts h.1.1 h.1.2.2.1 h.1.2.2.2 h.2.1 hrc hrs hR, h.2.2, hts _ h.1.2.1⟩
theorem k_cSW {R : Room} {s : State} {args : Array Value} {own : String} {index maxL n mc ms : Nat} {y : MethodName} {bytes : ByteArray} {ret : Option FieldType} {hh : List (Nat × Nat × Nat × Nat)} {rm : Room} (hts : ∀ w ∈ wsL_law, w.before args s = true) (h : KSW own index y bytes maxL ret hh n) (hrc : rm.cells = mc) (hrs : rm.slots = ms) (hR : rm.frames + 1 ≤ R.frames ∧ 8 + (maxL + 11) + rm.locals ≤ R.locals) :
    vx_CSW R s args own index y bytes maxL ret hh (wyW_ y bytes maxL ret hh) rm mc ms n := by
  refine ⟨⟨hrc, hrs, hR.1, hR.2, fun w hw a' U hW => ?_, List.mem_cons_self⟩, hts _ h.1.2.2.2, hts _ h.1.2.2.1, ⟨h.2.1, h.2.2.1⟩, fun sig hh => ?_, hts _ h.1.1, hts _ h.1.2.1⟩
  · rcases List.mem_cons.mp hw with rfl | hw
    · exact wl_pay hts _ h.1.2.2.2 a' U hW
    · exact wl_pay hts _ hw a' U hW
  · have h2 := h.2.2.2
    rw [hh] at h2
    exact (Option.some.inj h2).symm
theorem ky_Jxe99ae_doubleToLongBits_ccdee : KY yJxe99ae_doubleToLongBits_ccdee 1 := ⟨by decide +kernel, by decide +kernel, by decide +kernel⟩
theorem ky_Jxe99ae_isNaN_b9ae7 : KY yJxe99ae_isNaN_b9ae7 1 := ⟨by decide +kernel, by decide +kernel, by decide +kernel⟩
theorem ky_L_append : KY yL_append 3 := ⟨by decide +kernel, by decide +kernel, by decide +kernel⟩
theorem ky_L_buy : KY yL_buy 5 := ⟨by decide +kernel, by decide +kernel, by decide +kernel⟩
theorem ky_L_buyAll : KY yL_buyAll 2 := ⟨by decide +kernel, by decide +kernel, by decide +kernel⟩
theorem ky_L_count : KY yL_count 3 := ⟨by decide +kernel, by decide +kernel, by decide +kernel⟩
theorem ky_L_helps : KY yL_helps 3 := ⟨by decide +kernel, by decide +kernel, by decide +kernel⟩
theorem ky_L_hose : KY yL_hose 4 := ⟨by decide +kernel, by decide +kernel, by decide +kernel⟩
theorem ky_L_ifTested : KY yL_ifTested 4 := ⟨by decide +kernel, by decide +kernel, by decide +kernel⟩
theorem ky_L_lend : KY yL_lend 4 := ⟨by decide +kernel, by decide +kernel, by decide +kernel⟩
theorem ky_L_pass : KY yL_pass 3 := ⟨by decide +kernel, by decide +kernel, by decide +kernel⟩
theorem ky_L_put : KY yL_put 4 := ⟨by decide +kernel, by decide +kernel, by decide +kernel⟩
theorem ky_L_renew : KY yL_renew 3 := ⟨by decide +kernel, by decide +kernel, by decide +kernel⟩
theorem ky_L_safe : KY yL_safe 3 := ⟨by decide +kernel, by decide +kernel, by decide +kernel⟩
theorem ky_L_set : KY yL_set 4 := ⟨by decide +kernel, by decide +kernel, by decide +kernel⟩
theorem ky_L_setting : KY yL_setting 3 := ⟨by decide +kernel, by decide +kernel, by decide +kernel⟩
theorem ky_L_test : KY yL_test 4 := ⟨by decide +kernel, by decide +kernel, by decide +kernel⟩
theorem ky_L_truck : KY yL_truck 4 := ⟨by decide +kernel, by decide +kernel, by decide +kernel⟩
theorem ky_L_undo : KY yL_undo 2 := ⟨by decide +kernel, by decide +kernel, by decide +kernel⟩
theorem ky_L_want : KY yL_want 4 := ⟨by decide +kernel, by decide +kernel, by decide +kernel⟩
theorem ky_X0_addCode : KY yX0_addCode 1 := ⟨by decide +kernel, by decide +kernel, by decide +kernel⟩
theorem ky_X0_couplingOf : KY yX0_couplingOf 1 := ⟨by decide +kernel, by decide +kernel, by decide +kernel⟩
theorem ky_X0_findError : KY yX0_findError 0 := ⟨by decide +kernel, by decide +kernel, by decide +kernel⟩
theorem ky_X0_init : KY yX0_init 0 := ⟨by decide +kernel, by decide +kernel, by decide +kernel⟩
theorem ky_X0_isComplete : KY yX0_isComplete 0 := ⟨by decide +kernel, by decide +kernel, by decide +kernel⟩
theorem ky_X0_isDigit : KY yX0_isDigit 1 := ⟨by decide +kernel, by decide +kernel, by decide +kernel⟩
theorem ky_X0_isFull : KY yX0_isFull 0 := ⟨by decide +kernel, by decide +kernel, by decide +kernel⟩
theorem ky_X0_kindOf : KY yX0_kindOf 1 := ⟨by decide +kernel, by decide +kernel, by decide +kernel⟩
theorem ky_X0_stateBehind : KY yX0_stateBehind 2 := ⟨by decide +kernel, by decide +kernel, by decide +kernel⟩
theorem ky_X0_stateBehindCoupling : KY yX0_stateBehindCoupling 1 := ⟨by decide +kernel, by decide +kernel, by decide +kernel⟩
theorem ky_X0_stateBehindFirstDigit : KY yX0_stateBehindFirstDigit 1 := ⟨by decide +kernel, by decide +kernel, by decide +kernel⟩
theorem ky_X1_costOf : KY yX1_costOf 2 := ⟨by decide +kernel, by decide +kernel, by decide +kernel⟩
theorem ky_X1_daysInForce : KY yX1_daysInForce 1 := ⟨by decide +kernel, by decide +kernel, by decide +kernel⟩
theorem ky_X1_lifeOf : KY yX1_lifeOf 1 := ⟨by decide +kernel, by decide +kernel, by decide +kernel⟩
theorem ky_X1_strengthOf : KY yX1_strengthOf 3 := ⟨by decide +kernel, by decide +kernel, by decide +kernel⟩
theorem ky_X2_begin : KY yX2_begin 0 := ⟨by decide +kernel, by decide +kernel, by decide +kernel⟩
theorem ky_X2_init : KY yX2_init 0 := ⟨by decide +kernel, by decide +kernel, by decide +kernel⟩
theorem ky_X2_join : KY yX2_join 4 := ⟨by decide +kernel, by decide +kernel, by decide +kernel⟩
theorem ky_X3_addHose : KY yX3_addHose 4 := ⟨by decide +kernel, by decide +kernel, by decide +kernel⟩
theorem ky_X3_canBuy : KY yX3_canBuy 2 := ⟨by decide +kernel, by decide +kernel, by decide +kernel⟩
theorem ky_X3_cheapestHelp : KY yX3_cheapestHelp 1 := ⟨by decide +kernel, by decide +kernel, by decide +kernel⟩
theorem ky_X3_copyFrom : KY yX3_copyFrom 1 := ⟨by decide +kernel, by decide +kernel, by decide +kernel⟩
theorem ky_X3_daysToFirstLapse : KY yX3_daysToFirstLapse 0 := ⟨by decide +kernel, by decide +kernel, by decide +kernel⟩
theorem ky_X3_greatestSafePressure : KY yX3_greatestSafePressure 1 := ⟨by decide +kernel, by decide +kernel, by decide +kernel⟩
theorem ky_X3_hosesAt : KY yX3_hosesAt 1 := ⟨by decide +kernel, by decide +kernel, by decide +kernel⟩
theorem ky_X3_init : KY yX3_init 0 := ⟨by decide +kernel, by decide +kernel, by decide +kernel⟩
theorem ky_X3_isGone : KY yX3_isGone 1 := ⟨by decide +kernel, by decide +kernel, by decide +kernel⟩
theorem ky_X3_isLent : KY yX3_isLent 1 := ⟨by decide +kernel, by decide +kernel, by decide +kernel⟩
theorem ky_X3_isOnTruck : KY yX3_isOnTruck 1 := ⟨by decide +kernel, by decide +kernel, by decide +kernel⟩
theorem ky_X3_isReady : KY yX3_isReady 1 := ⟨by decide +kernel, by decide +kernel, by decide +kernel⟩
theorem ky_X3_layLine : KY yX3_layLine 2 := ⟨by decide +kernel, by decide +kernel, by decide +kernel⟩
theorem ky_X3_lendOut : KY yX3_lendOut 2 := ⟨by decide +kernel, by decide +kernel, by decide +kernel⟩
theorem ky_X3_outcomeOf : KY yX3_outcomeOf 2 := ⟨by decide +kernel, by decide +kernel, by decide +kernel⟩
theorem ky_X3_passDay : KY yX3_passDay 0 := ⟨by decide +kernel, by decide +kernel, by decide +kernel⟩
theorem ky_X3_priceOf : KY yX3_priceOf 1 := ⟨by decide +kernel, by decide +kernel, by decide +kernel⟩
theorem ky_X3_readyHoses : KY yX3_readyHoses 0 := ⟨by decide +kernel, by decide +kernel, by decide +kernel⟩
theorem ky_X3_readyHosesAt : KY yX3_readyHosesAt 1 := ⟨by decide +kernel, by decide +kernel, by decide +kernel⟩
theorem ky_X3_reasonOf : KY yX3_reasonOf 1 := ⟨by decide +kernel, by decide +kernel, by decide +kernel⟩
theorem ky_X3_replaceHose : KY yX3_replaceHose 1 := ⟨by decide +kernel, by decide +kernel, by decide +kernel⟩
theorem ky_X3_runTest : KY yX3_runTest 2 := ⟨by decide +kernel, by decide +kernel, by decide +kernel⟩
theorem ky_X3_stepsHeld : KY yX3_stepsHeld 2 := ⟨by decide +kernel, by decide +kernel, by decide +kernel⟩
theorem ky_X3_stepsUpTo : KY yX3_stepsUpTo 1 := ⟨by decide +kernel, by decide +kernel, by decide +kernel⟩
theorem ky_X3_strengthAt : KY yX3_strengthAt 2 := ⟨by decide +kernel, by decide +kernel, by decide +kernel⟩
theorem ky_X3_takeBackLent : KY yX3_takeBackLent 0 := ⟨by decide +kernel, by decide +kernel, by decide +kernel⟩
theorem ky_X3_wearOnTrucks : KY yX3_wearOnTrucks 0 := ⟨by decide +kernel, by decide +kernel, by decide +kernel⟩
theorem ky_X3_wholeTrucks : KY yX3_wholeTrucks 0 := ⟨by decide +kernel, by decide +kernel, by decide +kernel⟩
theorem ky_X4_append : KY yX4_append 1 := ⟨by decide +kernel, by decide +kernel, by decide +kernel⟩
theorem ky_X4_bitsOfShare : KY yX4_bitsOfShare 1 := ⟨by decide +kernel, by decide +kernel, by decide +kernel⟩
theorem ky_X4_buy : KY yX4_buy 3 := ⟨by decide +kernel, by decide +kernel, by decide +kernel⟩
theorem ky_X4_buyAll : KY yX4_buyAll 0 := ⟨by decide +kernel, by decide +kernel, by decide +kernel⟩
theorem ky_X4_buyParts : KY yX4_buyParts 0 := ⟨by decide +kernel, by decide +kernel, by decide +kernel⟩
theorem ky_X4_clearBuffer : KY yX4_clearBuffer 0 := ⟨by decide +kernel, by decide +kernel, by decide +kernel⟩
theorem ky_X4_count : KY yX4_count 1 := ⟨by decide +kernel, by decide +kernel, by decide +kernel⟩
theorem ky_X4_digest : KY yX4_digest 0 := ⟨by decide +kernel, by decide +kernel, by decide +kernel⟩
theorem ky_X4_firstError : KY yX4_firstError 0 := ⟨by decide +kernel, by decide +kernel, by decide +kernel⟩
theorem ky_X4_greatestOfSetting : KY yX4_greatestOfSetting 1 := ⟨by decide +kernel, by decide +kernel, by decide +kernel⟩
theorem ky_X4_helps : KY yX4_helps 1 := ⟨by decide +kernel, by decide +kernel, by decide +kernel⟩
theorem ky_X4_hose : KY yX4_hose 2 := ⟨by decide +kernel, by decide +kernel, by decide +kernel⟩
theorem ky_X4_ifTested : KY yX4_ifTested 2 := ⟨by decide +kernel, by decide +kernel, by decide +kernel⟩
theorem ky_X4_init : KY yX4_init 0 := ⟨by decide +kernel, by decide +kernel, by decide +kernel⟩
theorem ky_X4_isWithin : KY yX4_isWithin 3 := ⟨by decide +kernel, by decide +kernel, by decide +kernel⟩
theorem ky_X4_leastOfSetting : KY yX4_leastOfSetting 1 := ⟨by decide +kernel, by decide +kernel, by decide +kernel⟩
theorem ky_X4_lend : KY yX4_lend 2 := ⟨by decide +kernel, by decide +kernel, by decide +kernel⟩
theorem ky_X4_mixed : KY yX4_mixed 2 := ⟨by decide +kernel, by decide +kernel, by decide +kernel⟩
theorem ky_X4_nextLapse : KY yX4_nextLapse 0 := ⟨by decide +kernel, by decide +kernel, by decide +kernel⟩
theorem ky_X4_pass : KY yX4_pass 1 := ⟨by decide +kernel, by decide +kernel, by decide +kernel⟩
theorem ky_X4_put : KY yX4_put 2 := ⟨by decide +kernel, by decide +kernel, by decide +kernel⟩
theorem ky_X4_readyShare : KY yX4_readyShare 0 := ⟨by decide +kernel, by decide +kernel, by decide +kernel⟩
theorem ky_X4_renew : KY yX4_renew 1 := ⟨by decide +kernel, by decide +kernel, by decide +kernel⟩
theorem ky_X4_requireAtHand : KY yX4_requireAtHand 1 := ⟨by decide +kernel, by decide +kernel, by decide +kernel⟩
theorem ky_X4_requireHose : KY yX4_requireHose 1 := ⟨by decide +kernel, by decide +kernel, by decide +kernel⟩
theorem ky_X4_requirePressure : KY yX4_requirePressure 1 := ⟨by decide +kernel, by decide +kernel, by decide +kernel⟩
theorem ky_X4_requireSetting : KY yX4_requireSetting 1 := ⟨by decide +kernel, by decide +kernel, by decide +kernel⟩
theorem ky_X4_requireTruck : KY yX4_requireTruck 1 := ⟨by decide +kernel, by decide +kernel, by decide +kernel⟩
theorem ky_X4_safe : KY yX4_safe 1 := ⟨by decide +kernel, by decide +kernel, by decide +kernel⟩
theorem ky_X4_saveState : KY yX4_saveState 0 := ⟨by decide +kernel, by decide +kernel, by decide +kernel⟩
theorem ky_X4_set : KY yX4_set 2 := ⟨by decide +kernel, by decide +kernel, by decide +kernel⟩
theorem ky_X4_setting : KY yX4_setting 1 := ⟨by decide +kernel, by decide +kernel, by decide +kernel⟩
theorem ky_X4_test : KY yX4_test 2 := ⟨by decide +kernel, by decide +kernel, by decide +kernel⟩
theorem ky_X4_truck : KY yX4_truck 2 := ⟨by decide +kernel, by decide +kernel, by decide +kernel⟩
theorem ky_X4_undo : KY yX4_undo 0 := ⟨by decide +kernel, by decide +kernel, by decide +kernel⟩
theorem ky_X4_want : KY yX4_want 2 := ⟨by decide +kernel, by decide +kernel, by decide +kernel⟩
theorem ky_X5_append : KY yX5_append 1 := ⟨by decide +kernel, by decide +kernel, by decide +kernel⟩
theorem ky_X5_buy : KY yX5_buy 3 := ⟨by decide +kernel, by decide +kernel, by decide +kernel⟩
theorem ky_X5_buyAll : KY yX5_buyAll 0 := ⟨by decide +kernel, by decide +kernel, by decide +kernel⟩
theorem ky_X5_buys : KY yX5_buys 4 := ⟨by decide +kernel, by decide +kernel, by decide +kernel⟩
theorem ky_X5_changes : KY yX5_changes 2 := ⟨by decide +kernel, by decide +kernel, by decide +kernel⟩
theorem ky_X5_cheapest : KY yX5_cheapest 1 := ⟨by decide +kernel, by decide +kernel, by decide +kernel⟩
theorem ky_X5_clearBuffer : KY yX5_clearBuffer 0 := ⟨by decide +kernel, by decide +kernel, by decide +kernel⟩
theorem ky_X5_cost : KY yX5_cost 2 := ⟨by decide +kernel, by decide +kernel, by decide +kernel⟩
theorem ky_X5_count : KY yX5_count 1 := ⟨by decide +kernel, by decide +kernel, by decide +kernel⟩
theorem ky_X5_counted : KY yX5_counted 1 := ⟨by decide +kernel, by decide +kernel, by decide +kernel⟩
theorem ky_X5_day : KY yX5_day 0 := ⟨by decide +kernel, by decide +kernel, by decide +kernel⟩
theorem ky_X5_digest : KY yX5_digest 0 := ⟨by decide +kernel, by decide +kernel, by decide +kernel⟩
theorem ky_X5_fails : KY yX5_fails 1 := ⟨by decide +kernel, by decide +kernel, by decide +kernel⟩
theorem ky_X5_firstError : KY yX5_firstError 0 := ⟨by decide +kernel, by decide +kernel, by decide +kernel⟩
theorem ky_X5_force : KY yX5_force 1 := ⟨by decide +kernel, by decide +kernel, by decide +kernel⟩
theorem ky_X5_greatest : KY yX5_greatest 1 := ⟨by decide +kernel, by decide +kernel, by decide +kernel⟩
theorem ky_X5_having : KY yX5_having 1 := ⟨by decide +kernel, by decide +kernel, by decide +kernel⟩
theorem ky_X5_helps : KY yX5_helps 1 := ⟨by decide +kernel, by decide +kernel, by decide +kernel⟩
theorem ky_X5_hose : KY yX5_hose 2 := ⟨by decide +kernel, by decide +kernel, by decide +kernel⟩
theorem ky_X5_ifTested : KY yX5_ifTested 2 := ⟨by decide +kernel, by decide +kernel, by decide +kernel⟩
theorem ky_X5_in : KY yX5_in 3 := ⟨by decide +kernel, by decide +kernel, by decide +kernel⟩
theorem ky_X5_init : KY yX5_init 0 := ⟨by decide +kernel, by decide +kernel, by decide +kernel⟩
theorem ky_X5_isAt : KY yX5_isAt 2 := ⟨by decide +kernel, by decide +kernel, by decide +kernel⟩
theorem ky_X5_isHere : KY yX5_isHere 1 := ⟨by decide +kernel, by decide +kernel, by decide +kernel⟩
theorem ky_X5_isHose : KY yX5_isHose 1 := ⟨by decide +kernel, by decide +kernel, by decide +kernel⟩
theorem ky_X5_isLength : KY yX5_isLength 0 := ⟨by decide +kernel, by decide +kernel, by decide +kernel⟩
theorem ky_X5_isPart : KY yX5_isPart 0 := ⟨by decide +kernel, by decide +kernel, by decide +kernel⟩
theorem ky_X5_isReady : KY yX5_isReady 1 := ⟨by decide +kernel, by decide +kernel, by decide +kernel⟩
theorem ky_X5_isText : KY yX5_isText 0 := ⟨by decide +kernel, by decide +kernel, by decide +kernel⟩
theorem ky_X5_isTruck : KY yX5_isTruck 1 := ⟨by decide +kernel, by decide +kernel, by decide +kernel⟩
theorem ky_X5_isWhole : KY yX5_isWhole 2 := ⟨by decide +kernel, by decide +kernel, by decide +kernel⟩
theorem ky_X5_lapses : KY yX5_lapses 0 := ⟨by decide +kernel, by decide +kernel, by decide +kernel⟩
theorem ky_X5_lays : KY yX5_lays 2 := ⟨by decide +kernel, by decide +kernel, by decide +kernel⟩
theorem ky_X5_lend : KY yX5_lend 2 := ⟨by decide +kernel, by decide +kernel, by decide +kernel⟩
theorem ky_X5_life : KY yX5_life 1 := ⟨by decide +kernel, by decide +kernel, by decide +kernel⟩
theorem ky_X5_mayBuy : KY yX5_mayBuy 2 := ⟨by decide +kernel, by decide +kernel, by decide +kernel⟩
theorem ky_X5_nextLapse : KY yX5_nextLapse 0 := ⟨by decide +kernel, by decide +kernel, by decide +kernel⟩
theorem ky_X5_of : KY yX5_of 2 := ⟨by decide +kernel, by decide +kernel, by decide +kernel⟩
theorem ky_X5_ofHose : KY yX5_ofHose 2 := ⟨by decide +kernel, by decide +kernel, by decide +kernel⟩
theorem ky_X5_ofTruck : KY yX5_ofTruck 2 := ⟨by decide +kernel, by decide +kernel, by decide +kernel⟩
theorem ky_X5_on : KY yX5_on 2 := ⟨by decide +kernel, by decide +kernel, by decide +kernel⟩
theorem ky_X5_pass : KY yX5_pass 1 := ⟨by decide +kernel, by decide +kernel, by decide +kernel⟩
theorem ky_X5_put : KY yX5_put 2 := ⟨by decide +kernel, by decide +kernel, by decide +kernel⟩
theorem ky_X5_readyShare : KY yX5_readyShare 0 := ⟨by decide +kernel, by decide +kernel, by decide +kernel⟩
theorem ky_X5_reason : KY yX5_reason 1 := ⟨by decide +kernel, by decide +kernel, by decide +kernel⟩
theorem ky_X5_renew : KY yX5_renew 1 := ⟨by decide +kernel, by decide +kernel, by decide +kernel⟩
theorem ky_X5_safe : KY yX5_safe 1 := ⟨by decide +kernel, by decide +kernel, by decide +kernel⟩
theorem ky_X5_saves : KY yX5_saves 0 := ⟨by decide +kernel, by decide +kernel, by decide +kernel⟩
theorem ky_X5_set : KY yX5_set 2 := ⟨by decide +kernel, by decide +kernel, by decide +kernel⟩
theorem ky_X5_setting : KY yX5_setting 1 := ⟨by decide +kernel, by decide +kernel, by decide +kernel⟩
theorem ky_X5_share : KY yX5_share 0 := ⟨by decide +kernel, by decide +kernel, by decide +kernel⟩
theorem ky_X5_stops : KY yX5_stops 0 := ⟨by decide +kernel, by decide +kernel, by decide +kernel⟩
theorem ky_X5_strength : KY yX5_strength 2 := ⟨by decide +kernel, by decide +kernel, by decide +kernel⟩
theorem ky_X5_test : KY yX5_test 2 := ⟨by decide +kernel, by decide +kernel, by decide +kernel⟩
theorem ky_X5_thrown : KY yX5_thrown 0 := ⟨by decide +kernel, by decide +kernel, by decide +kernel⟩
theorem ky_X5_tried : KY yX5_tried 2 := ⟨by decide +kernel, by decide +kernel, by decide +kernel⟩
theorem ky_X5_tries : KY yX5_tries 2 := ⟨by decide +kernel, by decide +kernel, by decide +kernel⟩
theorem ky_X5_truck : KY yX5_truck 2 := ⟨by decide +kernel, by decide +kernel, by decide +kernel⟩
theorem ky_X5_undo : KY yX5_undo 0 := ⟨by decide +kernel, by decide +kernel, by decide +kernel⟩
theorem ky_X5_want : KY yX5_want 2 := ⟨by decide +kernel, by decide +kernel, by decide +kernel⟩
theorem flX4_10 : Cond.fieldLink RX4 10 "HoseTests" "now" "LHoseTests$Station;" ∈ wsL_law := (m_r1 _ (List.mem_of_getElem? (i := 16) rfl))
theorem flX4_16 : Cond.fieldLink RX4 16 "HoseTests" "saved" "[LHoseTests$Station;" ∈ wsL_law := (m_r1 _ (List.mem_of_getElem? (i := 17) rfl))
theorem flX4_20 : Cond.fieldLink RX4 20 "HoseTests" "latestSaved" "I" ∈ wsL_law := (m_r1 _ (List.mem_of_getElem? (i := 18) rfl))
theorem flX4_24 : Cond.fieldLink RX4 24 "HoseTests" "savedStates" "I" ∈ wsL_law := (m_r1 _ (List.mem_of_getElem? (i := 19) rfl))
theorem flX4_30 : Cond.fieldLink RX4 30 "HoseTests" "text" "LHoseTests$HoseText;" ∈ wsL_law := (m_r1 _ (List.mem_of_getElem? (i := 23) rfl))
theorem flX3_9 : Cond.fieldLink RX3 9 "HoseTests$Station" "day" "I" ∈ wsL_law := (m_r2 _ (List.mem_of_getElem? (i := 4) rfl))
theorem flX3_15 : Cond.fieldLink RX3 15 "HoseTests$Station" "money" "I" ∈ wsL_law := (m_r2 _ (List.mem_of_getElem? (i := 5) rfl))
theorem flX3_18 : Cond.fieldLink RX3 18 "HoseTests$Station" "wanted" "[I" ∈ wsL_law := (m_r2 _ (List.mem_of_getElem? (i := 7) rfl))
theorem flX3_22 : Cond.fieldLink RX3 22 "HoseTests$Station" "settings" "[I" ∈ wsL_law := (m_r2 _ (List.mem_of_getElem? (i := 8) rfl))
theorem flX3_25 : Cond.fieldLink RX3 25 "HoseTests$Station" "kind" "[I" ∈ wsL_law := (m_r2 _ (List.mem_of_getElem? (i := 9) rfl))
theorem flX3_28 : Cond.fieldLink RX3 28 "HoseTests$Station" "length" "[I" ∈ wsL_law := (m_r2 _ (List.mem_of_getElem? (i := 10) rfl))
theorem flX3_31 : Cond.fieldLink RX3 31 "HoseTests$Station" "coupling" "[I" ∈ wsL_law := (m_r2 _ (List.mem_of_getElem? (i := 11) rfl))
theorem flX3_34 : Cond.fieldLink RX3 34 "HoseTests$Station" "made" "[I" ∈ wsL_law := (m_r2 _ (List.mem_of_getElem? (i := 12) rfl))
theorem flX3_37 : Cond.fieldLink RX3 37 "HoseTests$Station" "wear" "[I" ∈ wsL_law := (m_r2 _ (List.mem_of_getElem? (i := 13) rfl))
theorem flX3_40 : Cond.fieldLink RX3 40 "HoseTests$Station" "lastTestDay" "[I" ∈ wsL_law := (m_r2 _ (List.mem_of_getElem? (i := 14) rfl))
theorem flX3_43 : Cond.fieldLink RX3 43 "HoseTests$Station" "place" "[I" ∈ wsL_law := (m_r2 _ (List.mem_of_getElem? (i := 15) rfl))
theorem flX3_46 : Cond.fieldLink RX3 46 "HoseTests$Station" "backDay" "[I" ∈ wsL_law := (m_r2 _ (List.mem_of_getElem? (i := 16) rfl))
theorem flX3_52 : Cond.fieldLink RX3 52 "HoseTests$Station" "line" "LHoseTests$Line;" ∈ wsL_law := (m_r2 _ (List.mem_of_getElem? (i := 20) rfl))
theorem flX0_11 : Cond.fieldLink RX0 11 "HoseTests$HoseText" "codes" "[I" ∈ wsL_law := (m_r3 _ (List.mem_of_getElem? (i := 4) rfl))
theorem flX0_15 : Cond.fieldLink RX0 15 "HoseTests$HoseText" "size" "I" ∈ wsL_law := (m_r3 _ (List.mem_of_getElem? (i := 5) rfl))
theorem flX5_7 : Cond.fieldLink RX5 7 "HoseTestsModel" "now" "[I" ∈ wsL_law := (m_r3 _ (List.mem_of_getElem? (i := 10) rfl))
theorem flX5_13 : Cond.fieldLink RX5 13 "HoseTestsModel" "past" "[I" ∈ wsL_law := (m_r3 _ (List.mem_of_getElem? (i := 11) rfl))
theorem flX5_16 : Cond.fieldLink RX5 16 "HoseTestsModel" "text" "[I" ∈ wsL_law := (m_r3 _ (List.mem_of_getElem? (i := 12) rfl))
theorem flX5_19 : Cond.fieldLink RX5 19 "HoseTestsModel" "told" "[I" ∈ wsL_law := (m_r3 _ (List.mem_of_getElem? (i := 13) rfl))
theorem flX3_56 : Cond.fieldLink RX3 56 "HoseTests$Station" "hoses" "I" ∈ wsL_law := (m_r4 _ (List.mem_of_getElem? (i := 11) rfl))
theorem flX3_59 : Cond.fieldLink RX3 59 "HoseTests$Station" "tests" "I" ∈ wsL_law := (m_r5 _ (List.mem_of_getElem? (i := 0) rfl))
theorem flX3_62 : Cond.fieldLink RX3 62 "HoseTests$Station" "bursts" "I" ∈ wsL_law := (m_r5 _ (List.mem_of_getElem? (i := 1) rfl))
theorem flX3_65 : Cond.fieldLink RX3 65 "HoseTests$Station" "paid" "I" ∈ wsL_law := (m_r5 _ (List.mem_of_getElem? (i := 2) rfl))
theorem flX5_22 : Cond.fieldLink RX5 22 "HoseTestsModel" "thrown" "I" ∈ wsL_law := (m_r5 _ (List.mem_of_getElem? (i := 19) rfl))
theorem flX5_30 : Cond.fieldLink RX5 30 "HoseTestsModel" "kept" "I" ∈ wsL_law := (m_r6 _ (List.mem_of_getElem? (i := 14) rfl))
theorem flX4_68 : Cond.fieldLink RX4 68 "HoseTests$Station" "kind" "[I" ∈ wsL_law := (m_r7 _ (List.mem_of_getElem? (i := 7) rfl))
theorem flX4_72 : Cond.fieldLink RX4 72 "HoseTests$Station" "length" "[I" ∈ wsL_law := (m_r7 _ (List.mem_of_getElem? (i := 8) rfl))
theorem flX4_216 : Cond.fieldLink RX4 216 "HoseTests$Station" "hoses" "I" ∈ wsL_law := (m_r7 _ (List.mem_of_getElem? (i := 15) rfl))
theorem flX4_81 : Cond.fieldLink RX4 81 "HoseTests$Station" "place" "[I" ∈ wsL_law := (m_r9 _ (List.mem_of_getElem? (i := 12) rfl))
theorem flX5_47 : Cond.fieldLink RX5 47 "HoseTestsModel" "worn" "I" ∈ wsL_law := (m_r13 _ (List.mem_of_getElem? (i := 6) rfl))
theorem flX4_107 : Cond.fieldLink RX4 107 "HoseTests$Station" "wanted" "[I" ∈ wsL_law := (m_r14 _ (List.mem_of_getElem? (i := 1) rfl))
theorem flX4_121 : Cond.fieldLink RX4 121 "HoseTests$Station" "settings" "[I" ∈ wsL_law := (m_r14 _ (List.mem_of_getElem? (i := 19) rfl))
theorem flX4_127 : Cond.fieldLink RX4 127 "HoseTests$Station" "day" "I" ∈ wsL_law := (m_r15 _ (List.mem_of_getElem? (i := 16) rfl))
theorem flX4_141 : Cond.fieldLink RX4 141 "HoseTests$HoseText" "size" "I" ∈ wsL_law := (m_r17 _ (List.mem_of_getElem? (i := 1) rfl))
theorem flX5_105 : Cond.fieldLink RX5 105 "HoseTestsModel" "typed" "I" ∈ wsL_law := (m_r17 _ (List.mem_of_getElem? (i := 14) rfl))
theorem flX5_111 : Cond.fieldLink RX5 111 "HoseTestsModel" "isFault" "Z" ∈ wsL_law := (m_r19 _ (List.mem_of_getElem? (i := 5) rfl))
theorem flX5_108 : Cond.fieldLink RX5 108 "HoseTestsModel" "at" "I" ∈ wsL_law := (m_r19 _ (List.mem_of_getElem? (i := 6) rfl))
theorem flX5_122 : Cond.fieldLink RX5 122 "HoseTestsModel" "tolds" "I" ∈ wsL_law := (m_r19 _ (List.mem_of_getElem? (i := 11) rfl))
theorem flX4_284 : Cond.fieldLink RX4 284 "HoseTests$HoseText" "codes" "[I" ∈ wsL_law := (m_r20 _ (List.mem_of_getElem? (i := 19) rfl))
theorem flX4_164 : Cond.fieldLink RX4 164 "HoseTests$Station" "coupling" "[I" ∈ wsL_law := (m_r21 _ (List.mem_of_getElem? (i := 21) rfl))
theorem flX4_167 : Cond.fieldLink RX4 167 "HoseTests$Station" "made" "[I" ∈ wsL_law := (m_r21 _ (List.mem_of_getElem? (i := 22) rfl))
theorem flX4_170 : Cond.fieldLink RX4 170 "HoseTests$Station" "wear" "[I" ∈ wsL_law := (m_r21 _ (List.mem_of_getElem? (i := 23) rfl))
theorem flX4_176 : Cond.fieldLink RX4 176 "HoseTests$Station" "lastTestDay" "[I" ∈ wsL_law := (m_r22 _ (List.mem_of_getElem? (i := 0) rfl))
theorem flX4_179 : Cond.fieldLink RX4 179 "HoseTests$Station" "backDay" "[I" ∈ wsL_law := (m_r22 _ (List.mem_of_getElem? (i := 1) rfl))
theorem flX4_190 : Cond.fieldLink RX4 190 "HoseTests$Station" "line" "LHoseTests$Line;" ∈ wsL_law := (m_r22 _ (List.mem_of_getElem? (i := 19) rfl))
theorem flX4_194 : Cond.fieldLink RX4 194 "HoseTests$Line" "metres" "I" ∈ wsL_law := (m_r22 _ (List.mem_of_getElem? (i := 20) rfl))
theorem flX4_205 : Cond.fieldLink RX4 205 "HoseTests$Line" "adaptersUsed" "I" ∈ wsL_law := (m_r22 _ (List.mem_of_getElem? (i := 21) rfl))
theorem flX4_208 : Cond.fieldLink RX4 208 "HoseTests$Line" "mask" "I" ∈ wsL_law := (m_r22 _ (List.mem_of_getElem? (i := 22) rfl))
theorem flX3_148 : Cond.fieldLink RX3 148 "HoseTests$Line" "metres" "I" ∈ wsL_law := (m_r23 _ (List.mem_of_getElem? (i := 3) rfl))
theorem flX2_9 : Cond.fieldLink RX2 9 "HoseTests$Line" "metres" "I" ∈ wsL_law := (m_r23 _ (List.mem_of_getElem? (i := 8) rfl))
theorem flX2_15 : Cond.fieldLink RX2 15 "HoseTests$Line" "adaptersUsed" "I" ∈ wsL_law := (m_r23 _ (List.mem_of_getElem? (i := 9) rfl))
theorem flX2_18 : Cond.fieldLink RX2 18 "HoseTests$Line" "mask" "I" ∈ wsL_law := (m_r23 _ (List.mem_of_getElem? (i := 10) rfl))
theorem flX2_21 : Cond.fieldLink RX2 21 "HoseTests$Line" "lastCoupling" "I" ∈ wsL_law := (m_r23 _ (List.mem_of_getElem? (i := 11) rfl))
theorem flX5_53 : Cond.fieldLink RX5 53 "HoseTestsModel" "line" "I" ∈ wsL_law := (m_r24 _ (List.mem_of_getElem? (i := 8) rfl))
theorem flX5_56 : Cond.fieldLink RX5 56 "HoseTestsModel" "adapters" "I" ∈ wsL_law := (m_r24 _ (List.mem_of_getElem? (i := 9) rfl))
theorem flX5_59 : Cond.fieldLink RX5 59 "HoseTestsModel" "inLine" "I" ∈ wsL_law := (m_r24 _ (List.mem_of_getElem? (i := 10) rfl))
theorem flX4_213 : Cond.fieldLink RX4 213 "HoseTests$Station" "money" "I" ∈ wsL_law := (m_r25 _ (List.mem_of_getElem? (i := 6) rfl))
theorem flX4_225 : Cond.fieldLink RX4 225 "HoseTests$Station" "tests" "I" ∈ wsL_law := (m_r25 _ (List.mem_of_getElem? (i := 7) rfl))
theorem flX4_228 : Cond.fieldLink RX4 228 "HoseTests$Station" "bursts" "I" ∈ wsL_law := (m_r25 _ (List.mem_of_getElem? (i := 8) rfl))
theorem flX4_231 : Cond.fieldLink RX4 231 "HoseTests$Station" "paid" "I" ∈ wsL_law := (m_r25 _ (List.mem_of_getElem? (i := 9) rfl))
theorem lkL_73 : KI RL 73 yX4_init cX4_init 2 0 := ⟨⟨(m_r1 _ (List.mem_of_getElem? (i := 7) rfl)), (m_r1 _ (List.mem_of_getElem? (i := 8) rfl)), (m_r1 _ (List.mem_of_getElem? (i := 2) rfl)), (m_r1 _ (List.mem_of_getElem? (i := 9) rfl))⟩, ky_X4_init, by decide +kernel⟩
theorem lkX4_9 : KI RX4 9 yX3_init cX3_init 1 0 := ⟨⟨(m_r2 _ (List.mem_of_getElem? (i := 0) rfl)), (m_r2 _ (List.mem_of_getElem? (i := 1) rfl)), (m_r1 _ (List.mem_of_getElem? (i := 15) rfl)), (m_r2 _ (List.mem_of_getElem? (i := 2) rfl))⟩, ky_X3_init, by decide +kernel⟩
theorem lkX4_29 : KI RX4 29 yX0_init cX0_init 1 0 := ⟨⟨(m_r3 _ (List.mem_of_getElem? (i := 0) rfl)), (m_r3 _ (List.mem_of_getElem? (i := 1) rfl)), (m_r1 _ (List.mem_of_getElem? (i := 22) rfl)), (m_r3 _ (List.mem_of_getElem? (i := 2) rfl))⟩, ky_X0_init, by decide +kernel⟩
theorem lkL_76 : KI RL 76 yX5_init cX5_init 2 0 := ⟨⟨(m_r3 _ (List.mem_of_getElem? (i := 6) rfl)), (m_r3 _ (List.mem_of_getElem? (i := 7) rfl)), (m_r1 _ (List.mem_of_getElem? (i := 5) rfl)), (m_r3 _ (List.mem_of_getElem? (i := 8) rfl))⟩, ky_X5_init, by decide +kernel⟩
theorem lkL_77 : KSW RL 77 yL_buy cL_buy 6 (some .int) [(0, 12, 15, 13), (0, 12, 19, 15)] 5 := ⟨⟨(m_r3 _ (List.mem_of_getElem? (i := 14) rfl)), (m_r3 _ (List.mem_of_getElem? (i := 15) rfl)), (m_r3 _ (List.mem_of_getElem? (i := 16) rfl)), (m_r3 _ (List.mem_of_getElem? (i := 17) rfl))⟩, ky_L_buy⟩
theorem lkL_7 : KV RL 7 RX4 yX4_buy cX4_buy 4 (some .int) 3 := ⟨⟨(m_r3 _ (List.mem_of_getElem? (i := 20) rfl)), (m_r3 _ (List.mem_of_getElem? (i := 21) rfl)), (m_r3 _ (List.mem_of_getElem? (i := 22) rfl)), (m_r1 _ (List.mem_of_getElem? (i := 2) rfl)), (m_r3 _ (List.mem_of_getElem? (i := 23) rfl))⟩, ky_X4_buy⟩
theorem lkX4_34 : KS RX4 34 yX4_isWithin cX4_isWithin 3 (some .boolean) 3 := ⟨⟨(m_r4 _ (List.mem_of_getElem? (i := 4) rfl)), (m_r4 _ (List.mem_of_getElem? (i := 5) rfl)), (m_r1 _ (List.mem_of_getElem? (i := 2) rfl)), (m_r4 _ (List.mem_of_getElem? (i := 6) rfl))⟩, ky_X4_isWithin⟩
theorem lkX4_45 : KV RX4 45 RX3 yX3_canBuy cX3_canBuy 3 (some .boolean) 2 := ⟨⟨(m_r4 _ (List.mem_of_getElem? (i := 7) rfl)), (m_r4 _ (List.mem_of_getElem? (i := 8) rfl)), (m_r4 _ (List.mem_of_getElem? (i := 9) rfl)), (m_r1 _ (List.mem_of_getElem? (i := 15) rfl)), (m_r4 _ (List.mem_of_getElem? (i := 10) rfl))⟩, ky_X3_canBuy⟩
theorem lkX3_98 : KS RX3 98 yX1_costOf cX1_costOf 2 (some .int) 2 := ⟨⟨(m_r4 _ (List.mem_of_getElem? (i := 12) rfl)), (m_r4 _ (List.mem_of_getElem? (i := 13) rfl)), (m_r4 _ (List.mem_of_getElem? (i := 14) rfl)), (m_r4 _ (List.mem_of_getElem? (i := 15) rfl))⟩, ky_X1_costOf⟩
theorem lkX4_54 : KV RX4 54 RX4 yX4_saveState cX4_saveState 2 none 0 := ⟨⟨(m_r4 _ (List.mem_of_getElem? (i := 16) rfl)), (m_r4 _ (List.mem_of_getElem? (i := 17) rfl)), (m_r4 _ (List.mem_of_getElem? (i := 18) rfl)), (m_r1 _ (List.mem_of_getElem? (i := 2) rfl)), (m_r4 _ (List.mem_of_getElem? (i := 19) rfl))⟩, ky_X4_saveState⟩
theorem lkX4_158 : KV RX4 158 RX3 yX3_copyFrom cX3_copyFrom 2 none 1 := ⟨⟨(m_r4 _ (List.mem_of_getElem? (i := 20) rfl)), (m_r4 _ (List.mem_of_getElem? (i := 21) rfl)), (m_r4 _ (List.mem_of_getElem? (i := 22) rfl)), (m_r1 _ (List.mem_of_getElem? (i := 15) rfl)), (m_r4 _ (List.mem_of_getElem? (i := 23) rfl))⟩, ky_X3_copyFrom⟩
theorem lkX4_57 : KV RX4 57 RX3 yX3_addHose cX3_addHose 6 (some .int) 4 := ⟨⟨(m_r5 _ (List.mem_of_getElem? (i := 7) rfl)), (m_r5 _ (List.mem_of_getElem? (i := 8) rfl)), (m_r5 _ (List.mem_of_getElem? (i := 9) rfl)), (m_r1 _ (List.mem_of_getElem? (i := 15) rfl)), (m_r5 _ (List.mem_of_getElem? (i := 10) rfl))⟩, ky_X3_addHose⟩
theorem lkX3_102 : KV RX3 102 RX3 yX3_priceOf cX3_priceOf 2 (some .int) 1 := ⟨⟨(m_r5 _ (List.mem_of_getElem? (i := 11) rfl)), (m_r5 _ (List.mem_of_getElem? (i := 12) rfl)), (m_r5 _ (List.mem_of_getElem? (i := 13) rfl)), (m_r1 _ (List.mem_of_getElem? (i := 15) rfl)), (m_r5 _ (List.mem_of_getElem? (i := 14) rfl))⟩, ky_X3_priceOf⟩
theorem lkL_82 : KV RL 82 RX5 yX5_buy cX5_buy 4 (some .int) 3 := ⟨⟨(m_r5 _ (List.mem_of_getElem? (i := 15) rfl)), (m_r5 _ (List.mem_of_getElem? (i := 16) rfl)), (m_r5 _ (List.mem_of_getElem? (i := 17) rfl)), (m_r1 _ (List.mem_of_getElem? (i := 5) rfl)), (m_r5 _ (List.mem_of_getElem? (i := 18) rfl))⟩, ky_X5_buy⟩
theorem lkX5_26 : KS RX5 26 yX5_in cX5_in 3 (some .boolean) 3 := ⟨⟨(m_r5 _ (List.mem_of_getElem? (i := 20) rfl)), (m_r5 _ (List.mem_of_getElem? (i := 21) rfl)), (m_r1 _ (List.mem_of_getElem? (i := 5) rfl)), (m_r5 _ (List.mem_of_getElem? (i := 22) rfl))⟩, ky_X5_in⟩
theorem lkX5_33 : KV RX5 33 RX5 yX5_fails cX5_fails 2 (some .int) 1 := ⟨⟨(m_r5 _ (List.mem_of_getElem? (i := 23) rfl)), (m_r6 _ (List.mem_of_getElem? (i := 0) rfl)), (m_r6 _ (List.mem_of_getElem? (i := 1) rfl)), (m_r1 _ (List.mem_of_getElem? (i := 5) rfl)), (m_r6 _ (List.mem_of_getElem? (i := 2) rfl))⟩, ky_X5_fails⟩
theorem lkX5_73 : KV RX5 73 RX5 yX5_mayBuy cX5_mayBuy 3 (some .boolean) 2 := ⟨⟨(m_r6 _ (List.mem_of_getElem? (i := 3) rfl)), (m_r6 _ (List.mem_of_getElem? (i := 4) rfl)), (m_r6 _ (List.mem_of_getElem? (i := 5) rfl)), (m_r1 _ (List.mem_of_getElem? (i := 5) rfl)), (m_r6 _ (List.mem_of_getElem? (i := 6) rfl))⟩, ky_X5_mayBuy⟩
theorem lkX5_70 : KS RX5 70 yX5_cost cX5_cost 2 (some .int) 2 := ⟨⟨(m_r6 _ (List.mem_of_getElem? (i := 7) rfl)), (m_r6 _ (List.mem_of_getElem? (i := 8) rfl)), (m_r1 _ (List.mem_of_getElem? (i := 5) rfl)), (m_r6 _ (List.mem_of_getElem? (i := 9) rfl))⟩, ky_X5_cost⟩
theorem lkX5_77 : KV RX5 77 RX5 yX5_saves cX5_saves 2 none 0 := ⟨⟨(m_r6 _ (List.mem_of_getElem? (i := 10) rfl)), (m_r6 _ (List.mem_of_getElem? (i := 11) rfl)), (m_r6 _ (List.mem_of_getElem? (i := 12) rfl)), (m_r1 _ (List.mem_of_getElem? (i := 5) rfl)), (m_r6 _ (List.mem_of_getElem? (i := 13) rfl))⟩, ky_X5_saves⟩
theorem lkX5_80 : KV RX5 80 RX5 yX5_buys cX5_buys 6 (some .int) 4 := ⟨⟨(m_r6 _ (List.mem_of_getElem? (i := 15) rfl)), (m_r6 _ (List.mem_of_getElem? (i := 16) rfl)), (m_r6 _ (List.mem_of_getElem? (i := 17) rfl)), (m_r1 _ (List.mem_of_getElem? (i := 5) rfl)), (m_r6 _ (List.mem_of_getElem? (i := 18) rfl))⟩, ky_X5_buys⟩
theorem lkL_83 : KV RL 83 RX5 yX5_thrown cX5_thrown 1 (some .int) 0 := ⟨⟨(m_r6 _ (List.mem_of_getElem? (i := 19) rfl)), (m_r6 _ (List.mem_of_getElem? (i := 20) rfl)), (m_r6 _ (List.mem_of_getElem? (i := 21) rfl)), (m_r1 _ (List.mem_of_getElem? (i := 5) rfl)), (m_r6 _ (List.mem_of_getElem? (i := 22) rfl))⟩, ky_X5_thrown⟩
theorem lkL_86 : KSW RL 86 yL_renew cL_renew 4 (some .int) [(0, 9, 12, 21), (0, 9, 15, 15)] 3 := ⟨⟨(m_r6 _ (List.mem_of_getElem? (i := 23) rfl)), (m_r7 _ (List.mem_of_getElem? (i := 0) rfl)), (m_r3 _ (List.mem_of_getElem? (i := 16) rfl)), (m_r7 _ (List.mem_of_getElem? (i := 1) rfl))⟩, ky_L_renew⟩
theorem lkL_17 : KV RL 17 RX4 yX4_renew cX4_renew 2 (some .int) 1 := ⟨⟨(m_r7 _ (List.mem_of_getElem? (i := 3) rfl)), (m_r7 _ (List.mem_of_getElem? (i := 4) rfl)), (m_r7 _ (List.mem_of_getElem? (i := 5) rfl)), (m_r1 _ (List.mem_of_getElem? (i := 2) rfl)), (m_r7 _ (List.mem_of_getElem? (i := 6) rfl))⟩, ky_X4_renew⟩
theorem lkX4_61 : KV RX4 61 RX4 yX4_requireHose cX4_requireHose 2 none 1 := ⟨⟨(m_r7 _ (List.mem_of_getElem? (i := 9) rfl)), (m_r7 _ (List.mem_of_getElem? (i := 10) rfl)), (m_r7 _ (List.mem_of_getElem? (i := 11) rfl)), (m_r1 _ (List.mem_of_getElem? (i := 2) rfl)), (m_r7 _ (List.mem_of_getElem? (i := 12) rfl))⟩, ky_X4_requireHose⟩
theorem lkX4_65 : KV RX4 65 RX4 yX4_requireAtHand cX4_requireAtHand 2 none 1 := ⟨⟨(m_r7 _ (List.mem_of_getElem? (i := 16) rfl)), (m_r7 _ (List.mem_of_getElem? (i := 17) rfl)), (m_r7 _ (List.mem_of_getElem? (i := 18) rfl)), (m_r1 _ (List.mem_of_getElem? (i := 2) rfl)), (m_r7 _ (List.mem_of_getElem? (i := 19) rfl))⟩, ky_X4_requireAtHand⟩
theorem lkX4_234 : KV RX4 234 RX3 yX3_isGone cX3_isGone 2 (some .boolean) 1 := ⟨⟨(m_r7 _ (List.mem_of_getElem? (i := 20) rfl)), (m_r7 _ (List.mem_of_getElem? (i := 21) rfl)), (m_r7 _ (List.mem_of_getElem? (i := 22) rfl)), (m_r1 _ (List.mem_of_getElem? (i := 15) rfl)), (m_r7 _ (List.mem_of_getElem? (i := 23) rfl))⟩, ky_X3_isGone⟩
theorem lkX4_292 : KV RX4 292 RX3 yX3_isLent cX3_isLent 2 (some .boolean) 1 := ⟨⟨(m_r8 _ (List.mem_of_getElem? (i := 0) rfl)), (m_r8 _ (List.mem_of_getElem? (i := 1) rfl)), (m_r8 _ (List.mem_of_getElem? (i := 2) rfl)), (m_r1 _ (List.mem_of_getElem? (i := 15) rfl)), (m_r8 _ (List.mem_of_getElem? (i := 3) rfl))⟩, ky_X3_isLent⟩
theorem lkX4_75 : KV RX4 75 RX3 yX3_replaceHose cX3_replaceHose 3 (some .int) 1 := ⟨⟨(m_r8 _ (List.mem_of_getElem? (i := 4) rfl)), (m_r8 _ (List.mem_of_getElem? (i := 5) rfl)), (m_r8 _ (List.mem_of_getElem? (i := 6) rfl)), (m_r1 _ (List.mem_of_getElem? (i := 15) rfl)), (m_r8 _ (List.mem_of_getElem? (i := 7) rfl))⟩, ky_X3_replaceHose⟩
theorem lkX3_105 : KV RX3 105 RX3 yX3_addHose cX3_addHose 6 (some .int) 4 := ⟨⟨(m_r8 _ (List.mem_of_getElem? (i := 8) rfl)), (m_r5 _ (List.mem_of_getElem? (i := 8) rfl)), (m_r5 _ (List.mem_of_getElem? (i := 9) rfl)), (m_r1 _ (List.mem_of_getElem? (i := 15) rfl)), (m_r5 _ (List.mem_of_getElem? (i := 10) rfl))⟩, ky_X3_addHose⟩
theorem lkL_89 : KV RL 89 RX5 yX5_renew cX5_renew 3 (some .int) 1 := ⟨⟨(m_r8 _ (List.mem_of_getElem? (i := 9) rfl)), (m_r8 _ (List.mem_of_getElem? (i := 10) rfl)), (m_r8 _ (List.mem_of_getElem? (i := 11) rfl)), (m_r1 _ (List.mem_of_getElem? (i := 5) rfl)), (m_r8 _ (List.mem_of_getElem? (i := 12) rfl))⟩, ky_X5_renew⟩
theorem lkX5_84 : KV RX5 84 RX5 yX5_isHose cX5_isHose 2 (some .boolean) 1 := ⟨⟨(m_r8 _ (List.mem_of_getElem? (i := 13) rfl)), (m_r8 _ (List.mem_of_getElem? (i := 14) rfl)), (m_r8 _ (List.mem_of_getElem? (i := 15) rfl)), (m_r1 _ (List.mem_of_getElem? (i := 5) rfl)), (m_r8 _ (List.mem_of_getElem? (i := 16) rfl))⟩, ky_X5_isHose⟩
theorem lkX5_87 : KV RX5 87 RX5 yX5_isHere cX5_isHere 2 (some .boolean) 1 := ⟨⟨(m_r8 _ (List.mem_of_getElem? (i := 17) rfl)), (m_r8 _ (List.mem_of_getElem? (i := 18) rfl)), (m_r8 _ (List.mem_of_getElem? (i := 19) rfl)), (m_r1 _ (List.mem_of_getElem? (i := 5) rfl)), (m_r8 _ (List.mem_of_getElem? (i := 20) rfl))⟩, ky_X5_isHere⟩
theorem lkX5_37 : KV RX5 37 RX5 yX5_of cX5_of 3 (some .int) 2 := ⟨⟨(m_r8 _ (List.mem_of_getElem? (i := 21) rfl)), (m_r8 _ (List.mem_of_getElem? (i := 22) rfl)), (m_r8 _ (List.mem_of_getElem? (i := 23) rfl)), (m_r1 _ (List.mem_of_getElem? (i := 5) rfl)), (m_r9 _ (List.mem_of_getElem? (i := 0) rfl))⟩, ky_X5_of⟩
theorem lkX5_90 : KV RX5 90 RX5 yX5_changes cX5_changes 4 (some .int) 2 := ⟨⟨(m_r9 _ (List.mem_of_getElem? (i := 1) rfl)), (m_r9 _ (List.mem_of_getElem? (i := 2) rfl)), (m_r9 _ (List.mem_of_getElem? (i := 3) rfl)), (m_r1 _ (List.mem_of_getElem? (i := 5) rfl)), (m_r9 _ (List.mem_of_getElem? (i := 4) rfl))⟩, ky_X5_changes⟩
theorem lkL_90 : KSW RL 90 yL_put cL_put 5 (some .int) [(0, 10, 13, 21), (0, 10, 17, 13), (0, 10, 21, 15)] 4 := ⟨⟨(m_r9 _ (List.mem_of_getElem? (i := 5) rfl)), (m_r9 _ (List.mem_of_getElem? (i := 6) rfl)), (m_r3 _ (List.mem_of_getElem? (i := 16) rfl)), (m_r9 _ (List.mem_of_getElem? (i := 7) rfl))⟩, ky_L_put⟩
theorem lkL_23 : KV RL 23 RX4 yX4_put cX4_put 4 (some .int) 2 := ⟨⟨(m_r9 _ (List.mem_of_getElem? (i := 8) rfl)), (m_r9 _ (List.mem_of_getElem? (i := 9) rfl)), (m_r9 _ (List.mem_of_getElem? (i := 10) rfl)), (m_r1 _ (List.mem_of_getElem? (i := 2) rfl)), (m_r9 _ (List.mem_of_getElem? (i := 11) rfl))⟩, ky_X4_put⟩
theorem lkL_93 : KV RL 93 RX5 yX5_put cX5_put 3 (some .int) 2 := ⟨⟨(m_r9 _ (List.mem_of_getElem? (i := 13) rfl)), (m_r9 _ (List.mem_of_getElem? (i := 14) rfl)), (m_r9 _ (List.mem_of_getElem? (i := 15) rfl)), (m_r1 _ (List.mem_of_getElem? (i := 5) rfl)), (m_r9 _ (List.mem_of_getElem? (i := 16) rfl))⟩, ky_X5_put⟩
theorem lkL_94 : KSW RL 94 yL_lend cL_lend 5 (some .int) [(0, 10, 13, 21), (0, 10, 17, 13), (0, 10, 21, 15)] 4 := ⟨⟨(m_r9 _ (List.mem_of_getElem? (i := 17) rfl)), (m_r9 _ (List.mem_of_getElem? (i := 18) rfl)), (m_r3 _ (List.mem_of_getElem? (i := 16) rfl)), (m_r9 _ (List.mem_of_getElem? (i := 19) rfl))⟩, ky_L_lend⟩
theorem lkL_27 : KV RL 27 RX4 yX4_lend cX4_lend 3 (some .int) 2 := ⟨⟨(m_r9 _ (List.mem_of_getElem? (i := 20) rfl)), (m_r9 _ (List.mem_of_getElem? (i := 21) rfl)), (m_r9 _ (List.mem_of_getElem? (i := 22) rfl)), (m_r1 _ (List.mem_of_getElem? (i := 2) rfl)), (m_r9 _ (List.mem_of_getElem? (i := 23) rfl))⟩, ky_X4_lend⟩
theorem lkX4_86 : KV RX4 86 RX3 yX3_isReady cX3_isReady 2 (some .boolean) 1 := ⟨⟨(m_r10 _ (List.mem_of_getElem? (i := 0) rfl)), (m_r10 _ (List.mem_of_getElem? (i := 1) rfl)), (m_r10 _ (List.mem_of_getElem? (i := 2) rfl)), (m_r1 _ (List.mem_of_getElem? (i := 15) rfl)), (m_r10 _ (List.mem_of_getElem? (i := 3) rfl))⟩, ky_X3_isReady⟩
theorem lkX3_78 : KV RX3 78 RX3 yX3_reasonOf cX3_reasonOf 2 (some .int) 1 := ⟨⟨(m_r10 _ (List.mem_of_getElem? (i := 4) rfl)), (m_r10 _ (List.mem_of_getElem? (i := 5) rfl)), (m_r10 _ (List.mem_of_getElem? (i := 6) rfl)), (m_r1 _ (List.mem_of_getElem? (i := 15) rfl)), (m_r10 _ (List.mem_of_getElem? (i := 7) rfl))⟩, ky_X3_reasonOf⟩
theorem lkX3_82 : KV RX3 82 RX3 yX3_isGone cX3_isGone 2 (some .boolean) 1 := ⟨⟨(m_r10 _ (List.mem_of_getElem? (i := 8) rfl)), (m_r7 _ (List.mem_of_getElem? (i := 21) rfl)), (m_r7 _ (List.mem_of_getElem? (i := 22) rfl)), (m_r1 _ (List.mem_of_getElem? (i := 15) rfl)), (m_r7 _ (List.mem_of_getElem? (i := 23) rfl))⟩, ky_X3_isGone⟩
theorem lkX3_86 : KV RX3 86 RX3 yX3_isLent cX3_isLent 2 (some .boolean) 1 := ⟨⟨(m_r10 _ (List.mem_of_getElem? (i := 9) rfl)), (m_r8 _ (List.mem_of_getElem? (i := 1) rfl)), (m_r8 _ (List.mem_of_getElem? (i := 2) rfl)), (m_r1 _ (List.mem_of_getElem? (i := 15) rfl)), (m_r8 _ (List.mem_of_getElem? (i := 3) rfl))⟩, ky_X3_isLent⟩
theorem lkX3_89 : KS RX3 89 yX1_lifeOf cX1_lifeOf 1 (some .int) 1 := ⟨⟨(m_r10 _ (List.mem_of_getElem? (i := 10) rfl)), (m_r10 _ (List.mem_of_getElem? (i := 11) rfl)), (m_r4 _ (List.mem_of_getElem? (i := 14) rfl)), (m_r10 _ (List.mem_of_getElem? (i := 12) rfl))⟩, ky_X1_lifeOf⟩
theorem lkX4_92 : KV RX4 92 RX3 yX3_lendOut cX3_lendOut 3 (some .int) 2 := ⟨⟨(m_r10 _ (List.mem_of_getElem? (i := 13) rfl)), (m_r10 _ (List.mem_of_getElem? (i := 14) rfl)), (m_r10 _ (List.mem_of_getElem? (i := 15) rfl)), (m_r1 _ (List.mem_of_getElem? (i := 15) rfl)), (m_r10 _ (List.mem_of_getElem? (i := 16) rfl))⟩, ky_X3_lendOut⟩
theorem lkL_96 : KV RL 96 RX5 yX5_lend cX5_lend 3 (some .int) 2 := ⟨⟨(m_r10 _ (List.mem_of_getElem? (i := 17) rfl)), (m_r10 _ (List.mem_of_getElem? (i := 18) rfl)), (m_r10 _ (List.mem_of_getElem? (i := 19) rfl)), (m_r1 _ (List.mem_of_getElem? (i := 5) rfl)), (m_r10 _ (List.mem_of_getElem? (i := 20) rfl))⟩, ky_X5_lend⟩
theorem lkX5_62 : KV RX5 62 RX5 yX5_isReady cX5_isReady 2 (some .boolean) 1 := ⟨⟨(m_r10 _ (List.mem_of_getElem? (i := 21) rfl)), (m_r10 _ (List.mem_of_getElem? (i := 22) rfl)), (m_r10 _ (List.mem_of_getElem? (i := 23) rfl)), (m_r1 _ (List.mem_of_getElem? (i := 5) rfl)), (m_r11 _ (List.mem_of_getElem? (i := 0) rfl))⟩, ky_X5_isReady⟩
theorem lkX5_44 : KV RX5 44 RX5 yX5_reason cX5_reason 3 (some .int) 1 := ⟨⟨(m_r11 _ (List.mem_of_getElem? (i := 1) rfl)), (m_r11 _ (List.mem_of_getElem? (i := 2) rfl)), (m_r11 _ (List.mem_of_getElem? (i := 3) rfl)), (m_r1 _ (List.mem_of_getElem? (i := 5) rfl)), (m_r11 _ (List.mem_of_getElem? (i := 4) rfl))⟩, ky_X5_reason⟩
theorem lkX5_41 : KS RX5 41 yX5_life cX5_life 1 (some .int) 1 := ⟨⟨(m_r11 _ (List.mem_of_getElem? (i := 5) rfl)), (m_r11 _ (List.mem_of_getElem? (i := 6) rfl)), (m_r1 _ (List.mem_of_getElem? (i := 5) rfl)), (m_r11 _ (List.mem_of_getElem? (i := 7) rfl))⟩, ky_X5_life⟩
theorem lkL_97 : KSW RL 97 yL_test cL_test 5 (some .int) [(0, 10, 13, 21), (0, 10, 17, 13), (0, 10, 21, 15)] 4 := ⟨⟨(m_r11 _ (List.mem_of_getElem? (i := 8) rfl)), (m_r11 _ (List.mem_of_getElem? (i := 9) rfl)), (m_r3 _ (List.mem_of_getElem? (i := 16) rfl)), (m_r11 _ (List.mem_of_getElem? (i := 10) rfl))⟩, ky_L_test⟩
theorem lkL_30 : KV RL 30 RX4 yX4_test cX4_test 3 (some .int) 2 := ⟨⟨(m_r11 _ (List.mem_of_getElem? (i := 11) rfl)), (m_r11 _ (List.mem_of_getElem? (i := 12) rfl)), (m_r11 _ (List.mem_of_getElem? (i := 13) rfl)), (m_r1 _ (List.mem_of_getElem? (i := 2) rfl)), (m_r11 _ (List.mem_of_getElem? (i := 14) rfl))⟩, ky_X4_test⟩
theorem lkX4_96 : KS RX4 96 yX4_requirePressure cX4_requirePressure 1 none 1 := ⟨⟨(m_r11 _ (List.mem_of_getElem? (i := 15) rfl)), (m_r11 _ (List.mem_of_getElem? (i := 16) rfl)), (m_r1 _ (List.mem_of_getElem? (i := 2) rfl)), (m_r11 _ (List.mem_of_getElem? (i := 17) rfl))⟩, ky_X4_requirePressure⟩
theorem lkX4_99 : KV RX4 99 RX3 yX3_runTest cX3_runTest 5 (some .int) 2 := ⟨⟨(m_r11 _ (List.mem_of_getElem? (i := 18) rfl)), (m_r11 _ (List.mem_of_getElem? (i := 19) rfl)), (m_r11 _ (List.mem_of_getElem? (i := 20) rfl)), (m_r1 _ (List.mem_of_getElem? (i := 15) rfl)), (m_r11 _ (List.mem_of_getElem? (i := 21) rfl))⟩, ky_X3_runTest⟩
theorem lkX3_123 : KV RX3 123 RX3 yX3_outcomeOf cX3_outcomeOf 4 (some .int) 2 := ⟨⟨(m_r12 _ (List.mem_of_getElem? (i := 2) rfl)), (m_r12 _ (List.mem_of_getElem? (i := 3) rfl)), (m_r12 _ (List.mem_of_getElem? (i := 4) rfl)), (m_r1 _ (List.mem_of_getElem? (i := 15) rfl)), (m_r12 _ (List.mem_of_getElem? (i := 5) rfl))⟩, ky_X3_outcomeOf⟩
theorem lkX3_120 : KV RX3 120 RX3 yX3_stepsHeld cX3_stepsHeld 7 (some .int) 2 := ⟨⟨(m_r12 _ (List.mem_of_getElem? (i := 6) rfl)), (m_r12 _ (List.mem_of_getElem? (i := 7) rfl)), (m_r12 _ (List.mem_of_getElem? (i := 8) rfl)), (m_r1 _ (List.mem_of_getElem? (i := 15) rfl)), (m_r12 _ (List.mem_of_getElem? (i := 9) rfl))⟩, ky_X3_stepsHeld⟩
theorem lkX3_109 : KS RX3 109 yX3_stepsUpTo cX3_stepsUpTo 1 (some .int) 1 := ⟨⟨(m_r12 _ (List.mem_of_getElem? (i := 10) rfl)), (m_r12 _ (List.mem_of_getElem? (i := 11) rfl)), (m_r1 _ (List.mem_of_getElem? (i := 15) rfl)), (m_r12 _ (List.mem_of_getElem? (i := 12) rfl))⟩, ky_X3_stepsUpTo⟩
theorem lkX3_117 : KV RX3 117 RX3 yX3_strengthAt cX3_strengthAt 3 (some .int) 2 := ⟨⟨(m_r12 _ (List.mem_of_getElem? (i := 13) rfl)), (m_r12 _ (List.mem_of_getElem? (i := 14) rfl)), (m_r12 _ (List.mem_of_getElem? (i := 15) rfl)), (m_r1 _ (List.mem_of_getElem? (i := 15) rfl)), (m_r12 _ (List.mem_of_getElem? (i := 16) rfl))⟩, ky_X3_strengthAt⟩
theorem lkX3_94 : KS RX3 94 yX1_strengthOf cX1_strengthOf 3 (some .int) 3 := ⟨⟨(m_r12 _ (List.mem_of_getElem? (i := 17) rfl)), (m_r12 _ (List.mem_of_getElem? (i := 18) rfl)), (m_r4 _ (List.mem_of_getElem? (i := 14) rfl)), (m_r12 _ (List.mem_of_getElem? (i := 19) rfl))⟩, ky_X1_strengthOf⟩
theorem lkX3_126 : KS RX3 126 yX1_daysInForce cX1_daysInForce 1 (some .int) 1 := ⟨⟨(m_r12 _ (List.mem_of_getElem? (i := 23) rfl)), (m_r13 _ (List.mem_of_getElem? (i := 0) rfl)), (m_r4 _ (List.mem_of_getElem? (i := 14) rfl)), (m_r13 _ (List.mem_of_getElem? (i := 1) rfl))⟩, ky_X1_daysInForce⟩
theorem lkL_99 : KV RL 99 RX5 yX5_test cX5_test 5 (some .int) 2 := ⟨⟨(m_r13 _ (List.mem_of_getElem? (i := 2) rfl)), (m_r13 _ (List.mem_of_getElem? (i := 3) rfl)), (m_r13 _ (List.mem_of_getElem? (i := 4) rfl)), (m_r1 _ (List.mem_of_getElem? (i := 5) rfl)), (m_r13 _ (List.mem_of_getElem? (i := 5) rfl))⟩, ky_X5_test⟩
theorem lkX5_93 : KV RX5 93 RX5 yX5_tries cX5_tries 5 (some .int) 2 := ⟨⟨(m_r13 _ (List.mem_of_getElem? (i := 7) rfl)), (m_r13 _ (List.mem_of_getElem? (i := 8) rfl)), (m_r13 _ (List.mem_of_getElem? (i := 9) rfl)), (m_r1 _ (List.mem_of_getElem? (i := 5) rfl)), (m_r13 _ (List.mem_of_getElem? (i := 10) rfl))⟩, ky_X5_tries⟩
theorem lkX5_50 : KV RX5 50 RX5 yX5_strength cX5_strength 6 (some .int) 2 := ⟨⟨(m_r13 _ (List.mem_of_getElem? (i := 11) rfl)), (m_r13 _ (List.mem_of_getElem? (i := 12) rfl)), (m_r13 _ (List.mem_of_getElem? (i := 13) rfl)), (m_r1 _ (List.mem_of_getElem? (i := 5) rfl)), (m_r13 _ (List.mem_of_getElem? (i := 14) rfl))⟩, ky_X5_strength⟩
theorem lkX5_96 : KS RX5 96 yX5_force cX5_force 1 (some .int) 1 := ⟨⟨(m_r13 _ (List.mem_of_getElem? (i := 15) rfl)), (m_r13 _ (List.mem_of_getElem? (i := 16) rfl)), (m_r1 _ (List.mem_of_getElem? (i := 5) rfl)), (m_r13 _ (List.mem_of_getElem? (i := 17) rfl))⟩, ky_X5_force⟩
theorem lkL_100 : KSW RL 100 yL_want cL_want 5 (some .int) [(0, 10, 13, 21), (0, 10, 17, 13)] 4 := ⟨⟨(m_r13 _ (List.mem_of_getElem? (i := 18) rfl)), (m_r13 _ (List.mem_of_getElem? (i := 19) rfl)), (m_r3 _ (List.mem_of_getElem? (i := 16) rfl)), (m_r13 _ (List.mem_of_getElem? (i := 20) rfl))⟩, ky_L_want⟩
theorem lkL_33 : KV RL 33 RX4 yX4_want cX4_want 4 (some .int) 2 := ⟨⟨(m_r13 _ (List.mem_of_getElem? (i := 21) rfl)), (m_r13 _ (List.mem_of_getElem? (i := 22) rfl)), (m_r13 _ (List.mem_of_getElem? (i := 23) rfl)), (m_r1 _ (List.mem_of_getElem? (i := 2) rfl)), (m_r14 _ (List.mem_of_getElem? (i := 0) rfl))⟩, ky_X4_want⟩
theorem lkX4_102 : KS RX4 102 yX4_requireTruck cX4_requireTruck 1 none 1 := ⟨⟨(m_r14 _ (List.mem_of_getElem? (i := 2) rfl)), (m_r14 _ (List.mem_of_getElem? (i := 3) rfl)), (m_r1 _ (List.mem_of_getElem? (i := 2) rfl)), (m_r14 _ (List.mem_of_getElem? (i := 4) rfl))⟩, ky_X4_requireTruck⟩
theorem lkL_102 : KV RL 102 RX5 yX5_want cX5_want 3 (some .int) 2 := ⟨⟨(m_r14 _ (List.mem_of_getElem? (i := 5) rfl)), (m_r14 _ (List.mem_of_getElem? (i := 6) rfl)), (m_r14 _ (List.mem_of_getElem? (i := 7) rfl)), (m_r1 _ (List.mem_of_getElem? (i := 5) rfl)), (m_r14 _ (List.mem_of_getElem? (i := 8) rfl))⟩, ky_X5_want⟩
theorem lkX5_99 : KS RX5 99 yX5_isTruck cX5_isTruck 1 (some .boolean) 1 := ⟨⟨(m_r14 _ (List.mem_of_getElem? (i := 9) rfl)), (m_r14 _ (List.mem_of_getElem? (i := 10) rfl)), (m_r1 _ (List.mem_of_getElem? (i := 5) rfl)), (m_r14 _ (List.mem_of_getElem? (i := 11) rfl))⟩, ky_X5_isTruck⟩
theorem lkL_103 : KSW RL 103 yL_set cL_set 5 (some .int) [(0, 10, 13, 21), (0, 10, 17, 13)] 4 := ⟨⟨(m_r14 _ (List.mem_of_getElem? (i := 12) rfl)), (m_r14 _ (List.mem_of_getElem? (i := 13) rfl)), (m_r3 _ (List.mem_of_getElem? (i := 16) rfl)), (m_r14 _ (List.mem_of_getElem? (i := 14) rfl))⟩, ky_L_set⟩
theorem lkL_36 : KV RL 36 RX4 yX4_set cX4_set 4 (some .int) 2 := ⟨⟨(m_r14 _ (List.mem_of_getElem? (i := 15) rfl)), (m_r14 _ (List.mem_of_getElem? (i := 16) rfl)), (m_r14 _ (List.mem_of_getElem? (i := 17) rfl)), (m_r1 _ (List.mem_of_getElem? (i := 2) rfl)), (m_r14 _ (List.mem_of_getElem? (i := 18) rfl))⟩, ky_X4_set⟩
theorem lkX4_110 : KS RX4 110 yX4_requireSetting cX4_requireSetting 1 none 1 := ⟨⟨(m_r14 _ (List.mem_of_getElem? (i := 20) rfl)), (m_r14 _ (List.mem_of_getElem? (i := 21) rfl)), (m_r1 _ (List.mem_of_getElem? (i := 2) rfl)), (m_r14 _ (List.mem_of_getElem? (i := 22) rfl))⟩, ky_X4_requireSetting⟩
theorem lkX4_113 : KS RX4 113 yX4_leastOfSetting cX4_leastOfSetting 1 (some .int) 1 := ⟨⟨(m_r14 _ (List.mem_of_getElem? (i := 23) rfl)), (m_r15 _ (List.mem_of_getElem? (i := 0) rfl)), (m_r1 _ (List.mem_of_getElem? (i := 2) rfl)), (m_r15 _ (List.mem_of_getElem? (i := 1) rfl))⟩, ky_X4_leastOfSetting⟩
theorem lkX4_116 : KS RX4 116 yX4_greatestOfSetting cX4_greatestOfSetting 1 (some .int) 1 := ⟨⟨(m_r15 _ (List.mem_of_getElem? (i := 2) rfl)), (m_r15 _ (List.mem_of_getElem? (i := 3) rfl)), (m_r1 _ (List.mem_of_getElem? (i := 2) rfl)), (m_r15 _ (List.mem_of_getElem? (i := 4) rfl))⟩, ky_X4_greatestOfSetting⟩
theorem lkL_105 : KV RL 105 RX5 yX5_set cX5_set 3 (some .int) 2 := ⟨⟨(m_r15 _ (List.mem_of_getElem? (i := 5) rfl)), (m_r15 _ (List.mem_of_getElem? (i := 6) rfl)), (m_r15 _ (List.mem_of_getElem? (i := 7) rfl)), (m_r1 _ (List.mem_of_getElem? (i := 5) rfl)), (m_r15 _ (List.mem_of_getElem? (i := 8) rfl))⟩, ky_X5_set⟩
theorem lkL_106 : KSW RL 106 yL_pass cL_pass 4 (some .int) [(0, 9, 12, 13)] 3 := ⟨⟨(m_r15 _ (List.mem_of_getElem? (i := 9) rfl)), (m_r15 _ (List.mem_of_getElem? (i := 10) rfl)), (m_r3 _ (List.mem_of_getElem? (i := 16) rfl)), (m_r15 _ (List.mem_of_getElem? (i := 11) rfl))⟩, ky_L_pass⟩
theorem lkL_39 : KV RL 39 RX4 yX4_pass cX4_pass 3 (some .int) 1 := ⟨⟨(m_r15 _ (List.mem_of_getElem? (i := 12) rfl)), (m_r15 _ (List.mem_of_getElem? (i := 13) rfl)), (m_r15 _ (List.mem_of_getElem? (i := 14) rfl)), (m_r1 _ (List.mem_of_getElem? (i := 2) rfl)), (m_r15 _ (List.mem_of_getElem? (i := 15) rfl))⟩, ky_X4_pass⟩
theorem lkX4_124 : KV RX4 124 RX3 yX3_passDay cX3_passDay 1 none 0 := ⟨⟨(m_r15 _ (List.mem_of_getElem? (i := 17) rfl)), (m_r15 _ (List.mem_of_getElem? (i := 18) rfl)), (m_r15 _ (List.mem_of_getElem? (i := 19) rfl)), (m_r1 _ (List.mem_of_getElem? (i := 15) rfl)), (m_r15 _ (List.mem_of_getElem? (i := 20) rfl))⟩, ky_X3_passDay⟩
theorem lkX3_129 : KV RX3 129 RX3 yX3_takeBackLent cX3_takeBackLent 2 none 0 := ⟨⟨(m_r15 _ (List.mem_of_getElem? (i := 21) rfl)), (m_r15 _ (List.mem_of_getElem? (i := 22) rfl)), (m_r15 _ (List.mem_of_getElem? (i := 23) rfl)), (m_r1 _ (List.mem_of_getElem? (i := 15) rfl)), (m_r16 _ (List.mem_of_getElem? (i := 0) rfl))⟩, ky_X3_takeBackLent⟩
theorem lkX3_132 : KV RX3 132 RX3 yX3_wearOnTrucks cX3_wearOnTrucks 2 none 0 := ⟨⟨(m_r16 _ (List.mem_of_getElem? (i := 1) rfl)), (m_r16 _ (List.mem_of_getElem? (i := 2) rfl)), (m_r16 _ (List.mem_of_getElem? (i := 3) rfl)), (m_r1 _ (List.mem_of_getElem? (i := 15) rfl)), (m_r16 _ (List.mem_of_getElem? (i := 4) rfl))⟩, ky_X3_wearOnTrucks⟩
theorem lkX3_135 : KV RX3 135 RX3 yX3_isOnTruck cX3_isOnTruck 2 (some .boolean) 1 := ⟨⟨(m_r16 _ (List.mem_of_getElem? (i := 5) rfl)), (m_r16 _ (List.mem_of_getElem? (i := 6) rfl)), (m_r16 _ (List.mem_of_getElem? (i := 7) rfl)), (m_r1 _ (List.mem_of_getElem? (i := 15) rfl)), (m_r16 _ (List.mem_of_getElem? (i := 8) rfl))⟩, ky_X3_isOnTruck⟩
theorem lkX3_138 : KV RX3 138 RX3 yX3_isReady cX3_isReady 2 (some .boolean) 1 := ⟨⟨(m_r16 _ (List.mem_of_getElem? (i := 9) rfl)), (m_r10 _ (List.mem_of_getElem? (i := 1) rfl)), (m_r10 _ (List.mem_of_getElem? (i := 2) rfl)), (m_r1 _ (List.mem_of_getElem? (i := 15) rfl)), (m_r10 _ (List.mem_of_getElem? (i := 3) rfl))⟩, ky_X3_isReady⟩
theorem lkL_108 : KV RL 108 RX5 yX5_pass cX5_pass 3 (some .int) 1 := ⟨⟨(m_r16 _ (List.mem_of_getElem? (i := 10) rfl)), (m_r16 _ (List.mem_of_getElem? (i := 11) rfl)), (m_r16 _ (List.mem_of_getElem? (i := 12) rfl)), (m_r1 _ (List.mem_of_getElem? (i := 5) rfl)), (m_r16 _ (List.mem_of_getElem? (i := 13) rfl))⟩, ky_X5_pass⟩
theorem lkX5_102 : KV RX5 102 RX5 yX5_day cX5_day 3 none 0 := ⟨⟨(m_r16 _ (List.mem_of_getElem? (i := 14) rfl)), (m_r16 _ (List.mem_of_getElem? (i := 15) rfl)), (m_r16 _ (List.mem_of_getElem? (i := 16) rfl)), (m_r1 _ (List.mem_of_getElem? (i := 5) rfl)), (m_r16 _ (List.mem_of_getElem? (i := 17) rfl))⟩, ky_X5_day⟩
theorem lkL_109 : KSW RL 109 yL_append cL_append 4 (some .int) [(0, 9, 12, 13), (0, 9, 15, 15)] 3 := ⟨⟨(m_r16 _ (List.mem_of_getElem? (i := 18) rfl)), (m_r16 _ (List.mem_of_getElem? (i := 19) rfl)), (m_r3 _ (List.mem_of_getElem? (i := 16) rfl)), (m_r16 _ (List.mem_of_getElem? (i := 20) rfl))⟩, ky_L_append⟩
theorem lkL_42 : KV RL 42 RX4 yX4_append cX4_append 2 (some .int) 1 := ⟨⟨(m_r16 _ (List.mem_of_getElem? (i := 21) rfl)), (m_r16 _ (List.mem_of_getElem? (i := 22) rfl)), (m_r16 _ (List.mem_of_getElem? (i := 23) rfl)), (m_r1 _ (List.mem_of_getElem? (i := 2) rfl)), (m_r17 _ (List.mem_of_getElem? (i := 0) rfl))⟩, ky_X4_append⟩
theorem lkX4_132 : KV RX4 132 RX0 yX0_isFull cX0_isFull 1 (some .boolean) 0 := ⟨⟨(m_r17 _ (List.mem_of_getElem? (i := 2) rfl)), (m_r17 _ (List.mem_of_getElem? (i := 3) rfl)), (m_r17 _ (List.mem_of_getElem? (i := 4) rfl)), (m_r1 _ (List.mem_of_getElem? (i := 22) rfl)), (m_r17 _ (List.mem_of_getElem? (i := 5) rfl))⟩, ky_X0_isFull⟩
theorem lkX4_138 : KV RX4 138 RX0 yX0_addCode cX0_addCode 2 none 1 := ⟨⟨(m_r17 _ (List.mem_of_getElem? (i := 6) rfl)), (m_r17 _ (List.mem_of_getElem? (i := 7) rfl)), (m_r17 _ (List.mem_of_getElem? (i := 8) rfl)), (m_r1 _ (List.mem_of_getElem? (i := 22) rfl)), (m_r17 _ (List.mem_of_getElem? (i := 9) rfl))⟩, ky_X0_addCode⟩
theorem lkL_111 : KV RL 111 RX5 yX5_append cX5_append 2 (some .int) 1 := ⟨⟨(m_r17 _ (List.mem_of_getElem? (i := 10) rfl)), (m_r17 _ (List.mem_of_getElem? (i := 11) rfl)), (m_r17 _ (List.mem_of_getElem? (i := 12) rfl)), (m_r1 _ (List.mem_of_getElem? (i := 5) rfl)), (m_r17 _ (List.mem_of_getElem? (i := 13) rfl))⟩, ky_X5_append⟩
theorem lkL_112 : KV RL 112 RX4 yX4_clearBuffer cX4_clearBuffer 2 (some .int) 0 := ⟨⟨(m_r17 _ (List.mem_of_getElem? (i := 15) rfl)), (m_r17 _ (List.mem_of_getElem? (i := 16) rfl)), (m_r17 _ (List.mem_of_getElem? (i := 17) rfl)), (m_r1 _ (List.mem_of_getElem? (i := 2) rfl)), (m_r17 _ (List.mem_of_getElem? (i := 18) rfl))⟩, ky_X4_clearBuffer⟩
theorem lkL_115 : KV RL 115 RX5 yX5_clearBuffer cX5_clearBuffer 2 (some .int) 0 := ⟨⟨(m_r17 _ (List.mem_of_getElem? (i := 19) rfl)), (m_r17 _ (List.mem_of_getElem? (i := 20) rfl)), (m_r17 _ (List.mem_of_getElem? (i := 21) rfl)), (m_r1 _ (List.mem_of_getElem? (i := 5) rfl)), (m_r17 _ (List.mem_of_getElem? (i := 22) rfl))⟩, ky_X5_clearBuffer⟩
theorem lkL_116 : KV RL 116 RX4 yX4_firstError cX4_firstError 1 (some .int) 0 := ⟨⟨(m_r17 _ (List.mem_of_getElem? (i := 23) rfl)), (m_r18 _ (List.mem_of_getElem? (i := 0) rfl)), (m_r18 _ (List.mem_of_getElem? (i := 1) rfl)), (m_r1 _ (List.mem_of_getElem? (i := 2) rfl)), (m_r18 _ (List.mem_of_getElem? (i := 2) rfl))⟩, ky_X4_firstError⟩
theorem lkX4_144 : KV RX4 144 RX0 yX0_findError cX0_findError 3 (some .int) 0 := ⟨⟨(m_r18 _ (List.mem_of_getElem? (i := 3) rfl)), (m_r18 _ (List.mem_of_getElem? (i := 4) rfl)), (m_r18 _ (List.mem_of_getElem? (i := 5) rfl)), (m_r1 _ (List.mem_of_getElem? (i := 22) rfl)), (m_r18 _ (List.mem_of_getElem? (i := 6) rfl))⟩, ky_X0_findError⟩
theorem lkX0_19 : KS RX0 19 yX0_stateBehind cX0_stateBehind 2 (some .int) 2 := ⟨⟨(m_r18 _ (List.mem_of_getElem? (i := 7) rfl)), (m_r18 _ (List.mem_of_getElem? (i := 8) rfl)), (m_r1 _ (List.mem_of_getElem? (i := 22) rfl)), (m_r18 _ (List.mem_of_getElem? (i := 9) rfl))⟩, ky_X0_stateBehind⟩
theorem lkX0_23 : KS RX0 23 yX0_kindOf cX0_kindOf 1 (some .int) 1 := ⟨⟨(m_r18 _ (List.mem_of_getElem? (i := 10) rfl)), (m_r18 _ (List.mem_of_getElem? (i := 11) rfl)), (m_r1 _ (List.mem_of_getElem? (i := 22) rfl)), (m_r18 _ (List.mem_of_getElem? (i := 12) rfl))⟩, ky_X0_kindOf⟩
theorem lkX0_27 : KS RX0 27 yX0_stateBehindFirstDigit cX0_stateBehindFirstDigit 1 (some .int) 1 := ⟨⟨(m_r18 _ (List.mem_of_getElem? (i := 13) rfl)), (m_r18 _ (List.mem_of_getElem? (i := 14) rfl)), (m_r1 _ (List.mem_of_getElem? (i := 22) rfl)), (m_r18 _ (List.mem_of_getElem? (i := 15) rfl))⟩, ky_X0_stateBehindFirstDigit⟩
theorem lkX0_30 : KS RX0 30 yX0_isDigit cX0_isDigit 1 (some .boolean) 1 := ⟨⟨(m_r18 _ (List.mem_of_getElem? (i := 16) rfl)), (m_r18 _ (List.mem_of_getElem? (i := 17) rfl)), (m_r1 _ (List.mem_of_getElem? (i := 22) rfl)), (m_r18 _ (List.mem_of_getElem? (i := 18) rfl))⟩, ky_X0_isDigit⟩
theorem lkX0_34 : KS RX0 34 yX0_stateBehindCoupling cX0_stateBehindCoupling 1 (some .int) 1 := ⟨⟨(m_r18 _ (List.mem_of_getElem? (i := 19) rfl)), (m_r18 _ (List.mem_of_getElem? (i := 20) rfl)), (m_r1 _ (List.mem_of_getElem? (i := 22) rfl)), (m_r18 _ (List.mem_of_getElem? (i := 21) rfl))⟩, ky_X0_stateBehindCoupling⟩
theorem lkX0_37 : KS RX0 37 yX0_couplingOf cX0_couplingOf 1 (some .int) 1 := ⟨⟨(m_r18 _ (List.mem_of_getElem? (i := 22) rfl)), (m_r18 _ (List.mem_of_getElem? (i := 23) rfl)), (m_r1 _ (List.mem_of_getElem? (i := 22) rfl)), (m_r19 _ (List.mem_of_getElem? (i := 0) rfl))⟩, ky_X0_couplingOf⟩
theorem lkL_119 : KV RL 119 RX5 yX5_firstError cX5_firstError 2 (some .int) 0 := ⟨⟨(m_r19 _ (List.mem_of_getElem? (i := 1) rfl)), (m_r19 _ (List.mem_of_getElem? (i := 2) rfl)), (m_r19 _ (List.mem_of_getElem? (i := 3) rfl)), (m_r1 _ (List.mem_of_getElem? (i := 5) rfl)), (m_r19 _ (List.mem_of_getElem? (i := 4) rfl))⟩, ky_X5_firstError⟩
theorem lkX5_131 : KV RX5 131 RX5 yX5_isText cX5_isText 2 (some .boolean) 0 := ⟨⟨(m_r19 _ (List.mem_of_getElem? (i := 7) rfl)), (m_r19 _ (List.mem_of_getElem? (i := 8) rfl)), (m_r19 _ (List.mem_of_getElem? (i := 9) rfl)), (m_r1 _ (List.mem_of_getElem? (i := 5) rfl)), (m_r19 _ (List.mem_of_getElem? (i := 10) rfl))⟩, ky_X5_isText⟩
theorem lkX5_128 : KV RX5 128 RX5 yX5_isPart cX5_isPart 2 (some .boolean) 0 := ⟨⟨(m_r19 _ (List.mem_of_getElem? (i := 12) rfl)), (m_r19 _ (List.mem_of_getElem? (i := 13) rfl)), (m_r19 _ (List.mem_of_getElem? (i := 14) rfl)), (m_r1 _ (List.mem_of_getElem? (i := 5) rfl)), (m_r19 _ (List.mem_of_getElem? (i := 15) rfl))⟩, ky_X5_isPart⟩
theorem lkX5_118 : KV RX5 118 RX5 yX5_stops cX5_stops 1 (some .boolean) 0 := ⟨⟨(m_r19 _ (List.mem_of_getElem? (i := 16) rfl)), (m_r19 _ (List.mem_of_getElem? (i := 17) rfl)), (m_r19 _ (List.mem_of_getElem? (i := 18) rfl)), (m_r1 _ (List.mem_of_getElem? (i := 5) rfl)), (m_r19 _ (List.mem_of_getElem? (i := 19) rfl))⟩, ky_X5_stops⟩
theorem lkX5_125 : KV RX5 125 RX5 yX5_isLength cX5_isLength 2 (some .boolean) 0 := ⟨⟨(m_r19 _ (List.mem_of_getElem? (i := 20) rfl)), (m_r19 _ (List.mem_of_getElem? (i := 21) rfl)), (m_r19 _ (List.mem_of_getElem? (i := 22) rfl)), (m_r1 _ (List.mem_of_getElem? (i := 5) rfl)), (m_r19 _ (List.mem_of_getElem? (i := 23) rfl))⟩, ky_X5_isLength⟩
theorem lkX5_115 : KV RX5 115 RX5 yX5_isAt cX5_isAt 3 (some .boolean) 2 := ⟨⟨(m_r20 _ (List.mem_of_getElem? (i := 0) rfl)), (m_r20 _ (List.mem_of_getElem? (i := 1) rfl)), (m_r20 _ (List.mem_of_getElem? (i := 2) rfl)), (m_r1 _ (List.mem_of_getElem? (i := 5) rfl)), (m_r20 _ (List.mem_of_getElem? (i := 3) rfl))⟩, ky_X5_isAt⟩
theorem lkL_120 : KSW RL 120 yL_buyAll cL_buyAll 3 (some .int) [(0, 8, 11, 13)] 2 := ⟨⟨(m_r20 _ (List.mem_of_getElem? (i := 4) rfl)), (m_r20 _ (List.mem_of_getElem? (i := 5) rfl)), (m_r3 _ (List.mem_of_getElem? (i := 16) rfl)), (m_r20 _ (List.mem_of_getElem? (i := 6) rfl))⟩, ky_L_buyAll⟩
theorem lkL_45 : KV RL 45 RX4 yX4_buyAll cX4_buyAll 2 (some .int) 0 := ⟨⟨(m_r20 _ (List.mem_of_getElem? (i := 7) rfl)), (m_r20 _ (List.mem_of_getElem? (i := 8) rfl)), (m_r20 _ (List.mem_of_getElem? (i := 9) rfl)), (m_r1 _ (List.mem_of_getElem? (i := 2) rfl)), (m_r20 _ (List.mem_of_getElem? (i := 10) rfl))⟩, ky_X4_buyAll⟩
theorem lkX4_148 : KV RX4 148 RX0 yX0_isComplete cX0_isComplete 3 (some .boolean) 0 := ⟨⟨(m_r20 _ (List.mem_of_getElem? (i := 11) rfl)), (m_r20 _ (List.mem_of_getElem? (i := 12) rfl)), (m_r20 _ (List.mem_of_getElem? (i := 13) rfl)), (m_r1 _ (List.mem_of_getElem? (i := 22) rfl)), (m_r20 _ (List.mem_of_getElem? (i := 14) rfl))⟩, ky_X0_isComplete⟩
theorem lkX4_153 : KV RX4 153 RX4 yX4_buyParts cX4_buyParts 6 (some .int) 0 := ⟨⟨(m_r20 _ (List.mem_of_getElem? (i := 15) rfl)), (m_r20 _ (List.mem_of_getElem? (i := 16) rfl)), (m_r20 _ (List.mem_of_getElem? (i := 17) rfl)), (m_r1 _ (List.mem_of_getElem? (i := 2) rfl)), (m_r20 _ (List.mem_of_getElem? (i := 18) rfl))⟩, ky_X4_buyParts⟩
theorem lkX4_303 : KS RX4 303 yX0_kindOf cX0_kindOf 1 (some .int) 1 := ⟨⟨(m_r20 _ (List.mem_of_getElem? (i := 20) rfl)), (m_r18 _ (List.mem_of_getElem? (i := 11) rfl)), (m_r1 _ (List.mem_of_getElem? (i := 22) rfl)), (m_r18 _ (List.mem_of_getElem? (i := 12) rfl))⟩, ky_X0_kindOf⟩
theorem lkX4_306 : KS RX4 306 yX0_isDigit cX0_isDigit 1 (some .boolean) 1 := ⟨⟨(m_r20 _ (List.mem_of_getElem? (i := 21) rfl)), (m_r18 _ (List.mem_of_getElem? (i := 17) rfl)), (m_r1 _ (List.mem_of_getElem? (i := 22) rfl)), (m_r18 _ (List.mem_of_getElem? (i := 18) rfl))⟩, ky_X0_isDigit⟩
theorem lkX4_309 : KS RX4 309 yX0_couplingOf cX0_couplingOf 1 (some .int) 1 := ⟨⟨(m_r20 _ (List.mem_of_getElem? (i := 22) rfl)), (m_r18 _ (List.mem_of_getElem? (i := 23) rfl)), (m_r1 _ (List.mem_of_getElem? (i := 22) rfl)), (m_r19 _ (List.mem_of_getElem? (i := 0) rfl))⟩, ky_X0_couplingOf⟩
theorem lkL_123 : KV RL 123 RX5 yX5_buyAll cX5_buyAll 2 (some .int) 0 := ⟨⟨(m_r20 _ (List.mem_of_getElem? (i := 23) rfl)), (m_r21 _ (List.mem_of_getElem? (i := 0) rfl)), (m_r21 _ (List.mem_of_getElem? (i := 1) rfl)), (m_r1 _ (List.mem_of_getElem? (i := 5) rfl)), (m_r21 _ (List.mem_of_getElem? (i := 2) rfl))⟩, ky_X5_buyAll⟩
theorem lkL_124 : KSW RL 124 yL_undo cL_undo 3 (some .int) [(0, 8, 11, 15)] 2 := ⟨⟨(m_r21 _ (List.mem_of_getElem? (i := 3) rfl)), (m_r21 _ (List.mem_of_getElem? (i := 4) rfl)), (m_r3 _ (List.mem_of_getElem? (i := 16) rfl)), (m_r21 _ (List.mem_of_getElem? (i := 5) rfl))⟩, ky_L_undo⟩
theorem lkL_49 : KV RL 49 RX4 yX4_undo cX4_undo 2 (some .int) 0 := ⟨⟨(m_r21 _ (List.mem_of_getElem? (i := 6) rfl)), (m_r21 _ (List.mem_of_getElem? (i := 7) rfl)), (m_r21 _ (List.mem_of_getElem? (i := 8) rfl)), (m_r1 _ (List.mem_of_getElem? (i := 2) rfl)), (m_r21 _ (List.mem_of_getElem? (i := 9) rfl))⟩, ky_X4_undo⟩
theorem lkL_126 : KV RL 126 RX5 yX5_undo cX5_undo 2 (some .int) 0 := ⟨⟨(m_r21 _ (List.mem_of_getElem? (i := 10) rfl)), (m_r21 _ (List.mem_of_getElem? (i := 11) rfl)), (m_r21 _ (List.mem_of_getElem? (i := 12) rfl)), (m_r1 _ (List.mem_of_getElem? (i := 5) rfl)), (m_r21 _ (List.mem_of_getElem? (i := 13) rfl))⟩, ky_X5_undo⟩
theorem lkL_127 : KSW RL 127 yL_hose cL_hose 5 (some .int) [(0, 10, 13, 21), (0, 10, 17, 13)] 4 := ⟨⟨(m_r21 _ (List.mem_of_getElem? (i := 14) rfl)), (m_r21 _ (List.mem_of_getElem? (i := 15) rfl)), (m_r3 _ (List.mem_of_getElem? (i := 16) rfl)), (m_r21 _ (List.mem_of_getElem? (i := 16) rfl))⟩, ky_L_hose⟩
theorem lkL_52 : KV RL 52 RX4 yX4_hose cX4_hose 3 (some .int) 2 := ⟨⟨(m_r21 _ (List.mem_of_getElem? (i := 17) rfl)), (m_r21 _ (List.mem_of_getElem? (i := 18) rfl)), (m_r21 _ (List.mem_of_getElem? (i := 19) rfl)), (m_r1 _ (List.mem_of_getElem? (i := 2) rfl)), (m_r21 _ (List.mem_of_getElem? (i := 20) rfl))⟩, ky_X4_hose⟩
theorem lkX4_173 : KV RX4 173 RX3 yX3_strengthAt cX3_strengthAt 3 (some .int) 2 := ⟨⟨(m_r22 _ (List.mem_of_getElem? (i := 2) rfl)), (m_r12 _ (List.mem_of_getElem? (i := 14) rfl)), (m_r12 _ (List.mem_of_getElem? (i := 15) rfl)), (m_r1 _ (List.mem_of_getElem? (i := 15) rfl)), (m_r12 _ (List.mem_of_getElem? (i := 16) rfl))⟩, ky_X3_strengthAt⟩
theorem lkX4_182 : KV RX4 182 RX3 yX3_reasonOf cX3_reasonOf 2 (some .int) 1 := ⟨⟨(m_r22 _ (List.mem_of_getElem? (i := 3) rfl)), (m_r10 _ (List.mem_of_getElem? (i := 5) rfl)), (m_r10 _ (List.mem_of_getElem? (i := 6) rfl)), (m_r1 _ (List.mem_of_getElem? (i := 15) rfl)), (m_r10 _ (List.mem_of_getElem? (i := 7) rfl))⟩, ky_X3_reasonOf⟩
theorem lkL_129 : KV RL 129 RX5 yX5_hose cX5_hose 3 (some .int) 2 := ⟨⟨(m_r22 _ (List.mem_of_getElem? (i := 4) rfl)), (m_r22 _ (List.mem_of_getElem? (i := 5) rfl)), (m_r22 _ (List.mem_of_getElem? (i := 6) rfl)), (m_r1 _ (List.mem_of_getElem? (i := 5) rfl)), (m_r22 _ (List.mem_of_getElem? (i := 7) rfl))⟩, ky_X5_hose⟩
theorem lkX5_134 : KV RX5 134 RX5 yX5_ofHose cX5_ofHose 3 (some .int) 2 := ⟨⟨(m_r22 _ (List.mem_of_getElem? (i := 8) rfl)), (m_r22 _ (List.mem_of_getElem? (i := 9) rfl)), (m_r22 _ (List.mem_of_getElem? (i := 10) rfl)), (m_r1 _ (List.mem_of_getElem? (i := 5) rfl)), (m_r22 _ (List.mem_of_getElem? (i := 11) rfl))⟩, ky_X5_ofHose⟩
theorem lkL_130 : KSW RL 130 yL_truck cL_truck 5 (some .int) [(0, 10, 13, 21), (0, 10, 17, 13)] 4 := ⟨⟨(m_r22 _ (List.mem_of_getElem? (i := 12) rfl)), (m_r22 _ (List.mem_of_getElem? (i := 13) rfl)), (m_r3 _ (List.mem_of_getElem? (i := 16) rfl)), (m_r22 _ (List.mem_of_getElem? (i := 14) rfl))⟩, ky_L_truck⟩
theorem lkL_55 : KV RL 55 RX4 yX4_truck cX4_truck 4 (some .int) 2 := ⟨⟨(m_r22 _ (List.mem_of_getElem? (i := 15) rfl)), (m_r22 _ (List.mem_of_getElem? (i := 16) rfl)), (m_r22 _ (List.mem_of_getElem? (i := 17) rfl)), (m_r1 _ (List.mem_of_getElem? (i := 2) rfl)), (m_r22 _ (List.mem_of_getElem? (i := 18) rfl))⟩, ky_X4_truck⟩
theorem lkX4_187 : KV RX4 187 RX3 yX3_layLine cX3_layLine 4 (some .boolean) 2 := ⟨⟨(m_r22 _ (List.mem_of_getElem? (i := 23) rfl)), (m_r23 _ (List.mem_of_getElem? (i := 0) rfl)), (m_r23 _ (List.mem_of_getElem? (i := 1) rfl)), (m_r1 _ (List.mem_of_getElem? (i := 15) rfl)), (m_r23 _ (List.mem_of_getElem? (i := 2) rfl))⟩, ky_X3_layLine⟩
theorem lkX3_141 : KV RX3 141 RX2 yX2_begin cX2_begin 1 none 0 := ⟨⟨(m_r23 _ (List.mem_of_getElem? (i := 4) rfl)), (m_r23 _ (List.mem_of_getElem? (i := 5) rfl)), (m_r23 _ (List.mem_of_getElem? (i := 6) rfl)), (m_r2 _ (List.mem_of_getElem? (i := 19) rfl)), (m_r23 _ (List.mem_of_getElem? (i := 7) rfl))⟩, ky_X2_begin⟩
theorem lkX3_144 : KV RX3 144 RX2 yX2_join cX2_join 5 none 4 := ⟨⟨(m_r23 _ (List.mem_of_getElem? (i := 12) rfl)), (m_r23 _ (List.mem_of_getElem? (i := 13) rfl)), (m_r23 _ (List.mem_of_getElem? (i := 14) rfl)), (m_r2 _ (List.mem_of_getElem? (i := 19) rfl)), (m_r23 _ (List.mem_of_getElem? (i := 15) rfl))⟩, ky_X2_join⟩
theorem lkX4_199 : KV RX4 199 RX3 yX3_hosesAt cX3_hosesAt 4 (some .int) 1 := ⟨⟨(m_r23 _ (List.mem_of_getElem? (i := 16) rfl)), (m_r23 _ (List.mem_of_getElem? (i := 17) rfl)), (m_r23 _ (List.mem_of_getElem? (i := 18) rfl)), (m_r1 _ (List.mem_of_getElem? (i := 15) rfl)), (m_r23 _ (List.mem_of_getElem? (i := 19) rfl))⟩, ky_X3_hosesAt⟩
theorem lkX4_202 : KV RX4 202 RX3 yX3_readyHosesAt cX3_readyHosesAt 4 (some .int) 1 := ⟨⟨(m_r23 _ (List.mem_of_getElem? (i := 20) rfl)), (m_r23 _ (List.mem_of_getElem? (i := 21) rfl)), (m_r23 _ (List.mem_of_getElem? (i := 22) rfl)), (m_r1 _ (List.mem_of_getElem? (i := 15) rfl)), (m_r23 _ (List.mem_of_getElem? (i := 23) rfl))⟩, ky_X3_readyHosesAt⟩
theorem lkL_132 : KV RL 132 RX5 yX5_truck cX5_truck 3 (some .int) 2 := ⟨⟨(m_r24 _ (List.mem_of_getElem? (i := 0) rfl)), (m_r24 _ (List.mem_of_getElem? (i := 1) rfl)), (m_r24 _ (List.mem_of_getElem? (i := 2) rfl)), (m_r1 _ (List.mem_of_getElem? (i := 5) rfl)), (m_r24 _ (List.mem_of_getElem? (i := 3) rfl))⟩, ky_X5_truck⟩
theorem lkX5_144 : KV RX5 144 RX5 yX5_ofTruck cX5_ofTruck 4 (some .int) 2 := ⟨⟨(m_r24 _ (List.mem_of_getElem? (i := 4) rfl)), (m_r24 _ (List.mem_of_getElem? (i := 5) rfl)), (m_r24 _ (List.mem_of_getElem? (i := 6) rfl)), (m_r1 _ (List.mem_of_getElem? (i := 5) rfl)), (m_r24 _ (List.mem_of_getElem? (i := 7) rfl))⟩, ky_X5_ofTruck⟩
theorem lkX5_137 : KV RX5 137 RX5 yX5_isWhole cX5_isWhole 3 (some .boolean) 2 := ⟨⟨(m_r24 _ (List.mem_of_getElem? (i := 11) rfl)), (m_r24 _ (List.mem_of_getElem? (i := 12) rfl)), (m_r24 _ (List.mem_of_getElem? (i := 13) rfl)), (m_r1 _ (List.mem_of_getElem? (i := 5) rfl)), (m_r24 _ (List.mem_of_getElem? (i := 14) rfl))⟩, ky_X5_isWhole⟩
theorem lkX5_66 : KV RX5 66 RX5 yX5_lays cX5_lays 7 none 2 := ⟨⟨(m_r24 _ (List.mem_of_getElem? (i := 15) rfl)), (m_r24 _ (List.mem_of_getElem? (i := 16) rfl)), (m_r24 _ (List.mem_of_getElem? (i := 17) rfl)), (m_r1 _ (List.mem_of_getElem? (i := 5) rfl)), (m_r24 _ (List.mem_of_getElem? (i := 18) rfl))⟩, ky_X5_lays⟩
theorem lkX5_140 : KV RX5 140 RX5 yX5_on cX5_on 5 (some .int) 2 := ⟨⟨(m_r24 _ (List.mem_of_getElem? (i := 19) rfl)), (m_r24 _ (List.mem_of_getElem? (i := 20) rfl)), (m_r24 _ (List.mem_of_getElem? (i := 21) rfl)), (m_r1 _ (List.mem_of_getElem? (i := 5) rfl)), (m_r24 _ (List.mem_of_getElem? (i := 22) rfl))⟩, ky_X5_on⟩
theorem lkL_133 : KSW RL 133 yL_count cL_count 4 (some .int) [(0, 9, 12, 13)] 3 := ⟨⟨(m_r24 _ (List.mem_of_getElem? (i := 23) rfl)), (m_r25 _ (List.mem_of_getElem? (i := 0) rfl)), (m_r3 _ (List.mem_of_getElem? (i := 16) rfl)), (m_r25 _ (List.mem_of_getElem? (i := 1) rfl))⟩, ky_L_count⟩
theorem lkL_58 : KV RL 58 RX4 yX4_count cX4_count 2 (some .int) 1 := ⟨⟨(m_r25 _ (List.mem_of_getElem? (i := 2) rfl)), (m_r25 _ (List.mem_of_getElem? (i := 3) rfl)), (m_r25 _ (List.mem_of_getElem? (i := 4) rfl)), (m_r1 _ (List.mem_of_getElem? (i := 2) rfl)), (m_r25 _ (List.mem_of_getElem? (i := 5) rfl))⟩, ky_X4_count⟩
theorem lkX4_219 : KV RX4 219 RX3 yX3_readyHoses cX3_readyHoses 3 (some .int) 0 := ⟨⟨(m_r25 _ (List.mem_of_getElem? (i := 10) rfl)), (m_r25 _ (List.mem_of_getElem? (i := 11) rfl)), (m_r25 _ (List.mem_of_getElem? (i := 12) rfl)), (m_r1 _ (List.mem_of_getElem? (i := 15) rfl)), (m_r25 _ (List.mem_of_getElem? (i := 13) rfl))⟩, ky_X3_readyHoses⟩
theorem lkX4_222 : KV RX4 222 RX3 yX3_wholeTrucks cX3_wholeTrucks 3 (some .int) 0 := ⟨⟨(m_r25 _ (List.mem_of_getElem? (i := 14) rfl)), (m_r25 _ (List.mem_of_getElem? (i := 15) rfl)), (m_r25 _ (List.mem_of_getElem? (i := 16) rfl)), (m_r1 _ (List.mem_of_getElem? (i := 15) rfl)), (m_r25 _ (List.mem_of_getElem? (i := 17) rfl))⟩, ky_X3_wholeTrucks⟩
theorem lkX3_151 : KV RX3 151 RX3 yX3_layLine cX3_layLine 4 (some .boolean) 2 := ⟨⟨(m_r25 _ (List.mem_of_getElem? (i := 18) rfl)), (m_r23 _ (List.mem_of_getElem? (i := 0) rfl)), (m_r23 _ (List.mem_of_getElem? (i := 1) rfl)), (m_r1 _ (List.mem_of_getElem? (i := 15) rfl)), (m_r23 _ (List.mem_of_getElem? (i := 2) rfl))⟩, ky_X3_layLine⟩
theorem lkL_135 : KV RL 135 RX5 yX5_count cX5_count 2 (some .int) 1 := ⟨⟨(m_r25 _ (List.mem_of_getElem? (i := 19) rfl)), (m_r25 _ (List.mem_of_getElem? (i := 20) rfl)), (m_r25 _ (List.mem_of_getElem? (i := 21) rfl)), (m_r1 _ (List.mem_of_getElem? (i := 5) rfl)), (m_r25 _ (List.mem_of_getElem? (i := 22) rfl))⟩, ky_X5_count⟩
theorem lkX5_150 : KV RX5 150 RX5 yX5_counted cX5_counted 2 (some .int) 1 := ⟨⟨(m_r25 _ (List.mem_of_getElem? (i := 23) rfl)), (m_r26 _ (List.mem_of_getElem? (i := 0) rfl)), (m_r26 _ (List.mem_of_getElem? (i := 1) rfl)), (m_r1 _ (List.mem_of_getElem? (i := 5) rfl)), (m_r26 _ (List.mem_of_getElem? (i := 2) rfl))⟩, ky_X5_counted⟩
theorem lkX5_147 : KV RX5 147 RX5 yX5_having cX5_having 4 (some .int) 1 := ⟨⟨(m_r26 _ (List.mem_of_getElem? (i := 3) rfl)), (m_r26 _ (List.mem_of_getElem? (i := 4) rfl)), (m_r26 _ (List.mem_of_getElem? (i := 5) rfl)), (m_r1 _ (List.mem_of_getElem? (i := 5) rfl)), (m_r26 _ (List.mem_of_getElem? (i := 6) rfl))⟩, ky_X5_having⟩
theorem lkL_136 : KSW RL 136 yL_setting cL_setting 4 (some .int) [(0, 9, 12, 21)] 3 := ⟨⟨(m_r26 _ (List.mem_of_getElem? (i := 7) rfl)), (m_r26 _ (List.mem_of_getElem? (i := 8) rfl)), (m_r3 _ (List.mem_of_getElem? (i := 16) rfl)), (m_r26 _ (List.mem_of_getElem? (i := 9) rfl))⟩, ky_L_setting⟩
theorem lkL_61 : KV RL 61 RX4 yX4_setting cX4_setting 2 (some .int) 1 := ⟨⟨(m_r26 _ (List.mem_of_getElem? (i := 10) rfl)), (m_r26 _ (List.mem_of_getElem? (i := 11) rfl)), (m_r26 _ (List.mem_of_getElem? (i := 12) rfl)), (m_r1 _ (List.mem_of_getElem? (i := 2) rfl)), (m_r26 _ (List.mem_of_getElem? (i := 13) rfl))⟩, ky_X4_setting⟩
theorem lkL_138 : KV RL 138 RX5 yX5_setting cX5_setting 2 (some .int) 1 := ⟨⟨(m_r26 _ (List.mem_of_getElem? (i := 14) rfl)), (m_r26 _ (List.mem_of_getElem? (i := 15) rfl)), (m_r26 _ (List.mem_of_getElem? (i := 16) rfl)), (m_r1 _ (List.mem_of_getElem? (i := 5) rfl)), (m_r26 _ (List.mem_of_getElem? (i := 17) rfl))⟩, ky_X5_setting⟩
theorem lkL_139 : KSW RL 139 yL_ifTested cL_ifTested 5 (some .int) [(0, 10, 13, 21), (0, 10, 17, 13)] 4 := ⟨⟨(m_r26 _ (List.mem_of_getElem? (i := 18) rfl)), (m_r26 _ (List.mem_of_getElem? (i := 19) rfl)), (m_r3 _ (List.mem_of_getElem? (i := 16) rfl)), (m_r26 _ (List.mem_of_getElem? (i := 20) rfl))⟩, ky_L_ifTested⟩
theorem lkL_64 : KV RL 64 RX4 yX4_ifTested cX4_ifTested 3 (some .int) 2 := ⟨⟨(m_r26 _ (List.mem_of_getElem? (i := 21) rfl)), (m_r26 _ (List.mem_of_getElem? (i := 22) rfl)), (m_r26 _ (List.mem_of_getElem? (i := 23) rfl)), (m_r1 _ (List.mem_of_getElem? (i := 2) rfl)), (m_r27 _ (List.mem_of_getElem? (i := 0) rfl))⟩, ky_X4_ifTested⟩
theorem lkX4_237 : KV RX4 237 RX3 yX3_outcomeOf cX3_outcomeOf 4 (some .int) 2 := ⟨⟨(m_r27 _ (List.mem_of_getElem? (i := 1) rfl)), (m_r12 _ (List.mem_of_getElem? (i := 3) rfl)), (m_r12 _ (List.mem_of_getElem? (i := 4) rfl)), (m_r1 _ (List.mem_of_getElem? (i := 15) rfl)), (m_r12 _ (List.mem_of_getElem? (i := 5) rfl))⟩, ky_X3_outcomeOf⟩
theorem lkL_141 : KV RL 141 RX5 yX5_ifTested cX5_ifTested 3 (some .int) 2 := ⟨⟨(m_r27 _ (List.mem_of_getElem? (i := 2) rfl)), (m_r27 _ (List.mem_of_getElem? (i := 3) rfl)), (m_r27 _ (List.mem_of_getElem? (i := 4) rfl)), (m_r1 _ (List.mem_of_getElem? (i := 5) rfl)), (m_r27 _ (List.mem_of_getElem? (i := 5) rfl))⟩, ky_X5_ifTested⟩
theorem lkX5_153 : KV RX5 153 RX5 yX5_tried cX5_tried 3 (some .int) 2 := ⟨⟨(m_r27 _ (List.mem_of_getElem? (i := 6) rfl)), (m_r27 _ (List.mem_of_getElem? (i := 7) rfl)), (m_r27 _ (List.mem_of_getElem? (i := 8) rfl)), (m_r1 _ (List.mem_of_getElem? (i := 5) rfl)), (m_r27 _ (List.mem_of_getElem? (i := 9) rfl))⟩, ky_X5_tried⟩
theorem lkL_142 : KSW RL 142 yL_safe cL_safe 4 (some .int) [(0, 9, 12, 21)] 3 := ⟨⟨(m_r27 _ (List.mem_of_getElem? (i := 10) rfl)), (m_r27 _ (List.mem_of_getElem? (i := 11) rfl)), (m_r3 _ (List.mem_of_getElem? (i := 16) rfl)), (m_r27 _ (List.mem_of_getElem? (i := 12) rfl))⟩, ky_L_safe⟩
theorem lkL_67 : KV RL 67 RX4 yX4_safe cX4_safe 2 (some .int) 1 := ⟨⟨(m_r27 _ (List.mem_of_getElem? (i := 13) rfl)), (m_r27 _ (List.mem_of_getElem? (i := 14) rfl)), (m_r27 _ (List.mem_of_getElem? (i := 15) rfl)), (m_r1 _ (List.mem_of_getElem? (i := 2) rfl)), (m_r27 _ (List.mem_of_getElem? (i := 16) rfl))⟩, ky_X4_safe⟩
theorem lkX4_240 : KV RX4 240 RX3 yX3_greatestSafePressure cX3_greatestSafePressure 3 (some .int) 1 := ⟨⟨(m_r27 _ (List.mem_of_getElem? (i := 17) rfl)), (m_r27 _ (List.mem_of_getElem? (i := 18) rfl)), (m_r27 _ (List.mem_of_getElem? (i := 19) rfl)), (m_r1 _ (List.mem_of_getElem? (i := 15) rfl)), (m_r27 _ (List.mem_of_getElem? (i := 20) rfl))⟩, ky_X3_greatestSafePressure⟩
theorem lkL_144 : KV RL 144 RX5 yX5_safe cX5_safe 2 (some .int) 1 := ⟨⟨(m_r27 _ (List.mem_of_getElem? (i := 21) rfl)), (m_r27 _ (List.mem_of_getElem? (i := 22) rfl)), (m_r27 _ (List.mem_of_getElem? (i := 23) rfl)), (m_r1 _ (List.mem_of_getElem? (i := 5) rfl)), (m_r28 _ (List.mem_of_getElem? (i := 0) rfl))⟩, ky_X5_safe⟩
theorem lkX5_156 : KV RX5 156 RX5 yX5_greatest cX5_greatest 3 (some .int) 1 := ⟨⟨(m_r28 _ (List.mem_of_getElem? (i := 1) rfl)), (m_r28 _ (List.mem_of_getElem? (i := 2) rfl)), (m_r28 _ (List.mem_of_getElem? (i := 3) rfl)), (m_r1 _ (List.mem_of_getElem? (i := 5) rfl)), (m_r28 _ (List.mem_of_getElem? (i := 4) rfl))⟩, ky_X5_greatest⟩
theorem lkL_145 : KV RL 145 RX4 yX4_nextLapse cX4_nextLapse 1 (some .int) 0 := ⟨⟨(m_r28 _ (List.mem_of_getElem? (i := 5) rfl)), (m_r28 _ (List.mem_of_getElem? (i := 6) rfl)), (m_r28 _ (List.mem_of_getElem? (i := 7) rfl)), (m_r1 _ (List.mem_of_getElem? (i := 2) rfl)), (m_r28 _ (List.mem_of_getElem? (i := 8) rfl))⟩, ky_X4_nextLapse⟩
theorem lkX4_243 : KV RX4 243 RX3 yX3_daysToFirstLapse cX3_daysToFirstLapse 5 (some .int) 0 := ⟨⟨(m_r28 _ (List.mem_of_getElem? (i := 9) rfl)), (m_r28 _ (List.mem_of_getElem? (i := 10) rfl)), (m_r28 _ (List.mem_of_getElem? (i := 11) rfl)), (m_r1 _ (List.mem_of_getElem? (i := 15) rfl)), (m_r28 _ (List.mem_of_getElem? (i := 12) rfl))⟩, ky_X3_daysToFirstLapse⟩
theorem lkL_148 : KV RL 148 RX5 yX5_nextLapse cX5_nextLapse 1 (some .int) 0 := ⟨⟨(m_r28 _ (List.mem_of_getElem? (i := 13) rfl)), (m_r28 _ (List.mem_of_getElem? (i := 14) rfl)), (m_r28 _ (List.mem_of_getElem? (i := 15) rfl)), (m_r1 _ (List.mem_of_getElem? (i := 5) rfl)), (m_r28 _ (List.mem_of_getElem? (i := 16) rfl))⟩, ky_X5_nextLapse⟩
theorem lkX5_159 : KV RX5 159 RX5 yX5_lapses cX5_lapses 6 (some .int) 0 := ⟨⟨(m_r28 _ (List.mem_of_getElem? (i := 17) rfl)), (m_r28 _ (List.mem_of_getElem? (i := 18) rfl)), (m_r28 _ (List.mem_of_getElem? (i := 19) rfl)), (m_r1 _ (List.mem_of_getElem? (i := 5) rfl)), (m_r28 _ (List.mem_of_getElem? (i := 20) rfl))⟩, ky_X5_lapses⟩
theorem lkL_149 : KSW RL 149 yL_helps cL_helps 4 (some .int) [(0, 9, 12, 21)] 3 := ⟨⟨(m_r28 _ (List.mem_of_getElem? (i := 21) rfl)), (m_r28 _ (List.mem_of_getElem? (i := 22) rfl)), (m_r3 _ (List.mem_of_getElem? (i := 16) rfl)), (m_r28 _ (List.mem_of_getElem? (i := 23) rfl))⟩, ky_L_helps⟩
theorem lkL_70 : KV RL 70 RX4 yX4_helps cX4_helps 2 (some .int) 1 := ⟨⟨(m_r29 _ (List.mem_of_getElem? (i := 0) rfl)), (m_r29 _ (List.mem_of_getElem? (i := 1) rfl)), (m_r29 _ (List.mem_of_getElem? (i := 2) rfl)), (m_r1 _ (List.mem_of_getElem? (i := 2) rfl)), (m_r29 _ (List.mem_of_getElem? (i := 3) rfl))⟩, ky_X4_helps⟩
theorem lkX4_246 : KV RX4 246 RX3 yX3_cheapestHelp cX3_cheapestHelp 6 (some .int) 1 := ⟨⟨(m_r29 _ (List.mem_of_getElem? (i := 4) rfl)), (m_r29 _ (List.mem_of_getElem? (i := 5) rfl)), (m_r29 _ (List.mem_of_getElem? (i := 6) rfl)), (m_r1 _ (List.mem_of_getElem? (i := 15) rfl)), (m_r29 _ (List.mem_of_getElem? (i := 7) rfl))⟩, ky_X3_cheapestHelp⟩
theorem lkL_151 : KV RL 151 RX5 yX5_helps cX5_helps 2 (some .int) 1 := ⟨⟨(m_r29 _ (List.mem_of_getElem? (i := 8) rfl)), (m_r29 _ (List.mem_of_getElem? (i := 9) rfl)), (m_r29 _ (List.mem_of_getElem? (i := 10) rfl)), (m_r1 _ (List.mem_of_getElem? (i := 5) rfl)), (m_r29 _ (List.mem_of_getElem? (i := 11) rfl))⟩, ky_X5_helps⟩
theorem lkX5_163 : KV RX5 163 RX5 yX5_cheapest cX5_cheapest 6 (some .int) 1 := ⟨⟨(m_r29 _ (List.mem_of_getElem? (i := 12) rfl)), (m_r29 _ (List.mem_of_getElem? (i := 13) rfl)), (m_r29 _ (List.mem_of_getElem? (i := 14) rfl)), (m_r1 _ (List.mem_of_getElem? (i := 5) rfl)), (m_r29 _ (List.mem_of_getElem? (i := 15) rfl))⟩, ky_X5_cheapest⟩
theorem lkL_152 : KV RL 152 RX4 yX4_readyShare cX4_readyShare 2 (some .double) 0 := ⟨⟨(m_r29 _ (List.mem_of_getElem? (i := 16) rfl)), (m_r29 _ (List.mem_of_getElem? (i := 17) rfl)), (m_r29 _ (List.mem_of_getElem? (i := 18) rfl)), (m_r1 _ (List.mem_of_getElem? (i := 2) rfl)), (m_r29 _ (List.mem_of_getElem? (i := 19) rfl))⟩, ky_X4_readyShare⟩
theorem lkL_156 : KV RL 156 RX5 yX5_readyShare cX5_readyShare 1 (some .double) 0 := ⟨⟨(m_r29 _ (List.mem_of_getElem? (i := 20) rfl)), (m_r29 _ (List.mem_of_getElem? (i := 21) rfl)), (m_r29 _ (List.mem_of_getElem? (i := 22) rfl)), (m_r1 _ (List.mem_of_getElem? (i := 5) rfl)), (m_r29 _ (List.mem_of_getElem? (i := 23) rfl))⟩, ky_X5_readyShare⟩
theorem lkX5_166 : KV RX5 166 RX5 yX5_share cX5_share 2 (some .double) 0 := ⟨⟨(m_r30 _ (List.mem_of_getElem? (i := 0) rfl)), (m_r30 _ (List.mem_of_getElem? (i := 1) rfl)), (m_r30 _ (List.mem_of_getElem? (i := 2) rfl)), (m_r1 _ (List.mem_of_getElem? (i := 5) rfl)), (m_r30 _ (List.mem_of_getElem? (i := 3) rfl))⟩, ky_X5_share⟩
theorem lkL_157 : KV RL 157 RX4 yX4_digest cX4_digest 5 (some .long) 0 := ⟨⟨(m_r30 _ (List.mem_of_getElem? (i := 4) rfl)), (m_r30 _ (List.mem_of_getElem? (i := 5) rfl)), (m_r30 _ (List.mem_of_getElem? (i := 6) rfl)), (m_r1 _ (List.mem_of_getElem? (i := 2) rfl)), (m_r30 _ (List.mem_of_getElem? (i := 7) rfl))⟩, ky_X4_digest⟩
theorem lkX4_251 : KV RX4 251 RX4 yX4_count cX4_count 2 (some .int) 1 := ⟨⟨(m_r30 _ (List.mem_of_getElem? (i := 9) rfl)), (m_r25 _ (List.mem_of_getElem? (i := 3) rfl)), (m_r25 _ (List.mem_of_getElem? (i := 4) rfl)), (m_r1 _ (List.mem_of_getElem? (i := 2) rfl)), (m_r25 _ (List.mem_of_getElem? (i := 5) rfl))⟩, ky_X4_count⟩
theorem lkX4_254 : KS RX4 254 yX4_mixed cX4_mixed 4 (some .long) 2 := ⟨⟨(m_r30 _ (List.mem_of_getElem? (i := 10) rfl)), (m_r30 _ (List.mem_of_getElem? (i := 11) rfl)), (m_r1 _ (List.mem_of_getElem? (i := 2) rfl)), (m_r30 _ (List.mem_of_getElem? (i := 12) rfl))⟩, ky_X4_mixed⟩
theorem lkX4_258 : KV RX4 258 RX4 yX4_hose cX4_hose 3 (some .int) 2 := ⟨⟨(m_r30 _ (List.mem_of_getElem? (i := 14) rfl)), (m_r21 _ (List.mem_of_getElem? (i := 18) rfl)), (m_r21 _ (List.mem_of_getElem? (i := 19) rfl)), (m_r1 _ (List.mem_of_getElem? (i := 2) rfl)), (m_r21 _ (List.mem_of_getElem? (i := 20) rfl))⟩, ky_X4_hose⟩
theorem lkX4_261 : KV RX4 261 RX4 yX4_ifTested cX4_ifTested 3 (some .int) 2 := ⟨⟨(m_r30 _ (List.mem_of_getElem? (i := 15) rfl)), (m_r26 _ (List.mem_of_getElem? (i := 22) rfl)), (m_r26 _ (List.mem_of_getElem? (i := 23) rfl)), (m_r1 _ (List.mem_of_getElem? (i := 2) rfl)), (m_r27 _ (List.mem_of_getElem? (i := 0) rfl))⟩, ky_X4_ifTested⟩
theorem lkX4_264 : KV RX4 264 RX4 yX4_safe cX4_safe 2 (some .int) 1 := ⟨⟨(m_r30 _ (List.mem_of_getElem? (i := 16) rfl)), (m_r27 _ (List.mem_of_getElem? (i := 14) rfl)), (m_r27 _ (List.mem_of_getElem? (i := 15) rfl)), (m_r1 _ (List.mem_of_getElem? (i := 2) rfl)), (m_r27 _ (List.mem_of_getElem? (i := 16) rfl))⟩, ky_X4_safe⟩
theorem lkX4_267 : KV RX4 267 RX4 yX4_truck cX4_truck 4 (some .int) 2 := ⟨⟨(m_r30 _ (List.mem_of_getElem? (i := 17) rfl)), (m_r22 _ (List.mem_of_getElem? (i := 16) rfl)), (m_r22 _ (List.mem_of_getElem? (i := 17) rfl)), (m_r1 _ (List.mem_of_getElem? (i := 2) rfl)), (m_r22 _ (List.mem_of_getElem? (i := 18) rfl))⟩, ky_X4_truck⟩
theorem lkX4_270 : KV RX4 270 RX4 yX4_helps cX4_helps 2 (some .int) 1 := ⟨⟨(m_r30 _ (List.mem_of_getElem? (i := 18) rfl)), (m_r29 _ (List.mem_of_getElem? (i := 1) rfl)), (m_r29 _ (List.mem_of_getElem? (i := 2) rfl)), (m_r1 _ (List.mem_of_getElem? (i := 2) rfl)), (m_r29 _ (List.mem_of_getElem? (i := 3) rfl))⟩, ky_X4_helps⟩
theorem lkX4_273 : KV RX4 273 RX4 yX4_nextLapse cX4_nextLapse 1 (some .int) 0 := ⟨⟨(m_r30 _ (List.mem_of_getElem? (i := 19) rfl)), (m_r28 _ (List.mem_of_getElem? (i := 6) rfl)), (m_r28 _ (List.mem_of_getElem? (i := 7) rfl)), (m_r1 _ (List.mem_of_getElem? (i := 2) rfl)), (m_r28 _ (List.mem_of_getElem? (i := 8) rfl))⟩, ky_X4_nextLapse⟩
theorem lkX4_276 : KV RX4 276 RX4 yX4_readyShare cX4_readyShare 2 (some .double) 0 := ⟨⟨(m_r30 _ (List.mem_of_getElem? (i := 20) rfl)), (m_r29 _ (List.mem_of_getElem? (i := 17) rfl)), (m_r29 _ (List.mem_of_getElem? (i := 18) rfl)), (m_r1 _ (List.mem_of_getElem? (i := 2) rfl)), (m_r29 _ (List.mem_of_getElem? (i := 19) rfl))⟩, ky_X4_readyShare⟩
theorem lkX4_280 : KS RX4 280 yX4_bitsOfShare cX4_bitsOfShare 8 (some .long) 1 := ⟨⟨(m_r30 _ (List.mem_of_getElem? (i := 21) rfl)), (m_r30 _ (List.mem_of_getElem? (i := 22) rfl)), (m_r1 _ (List.mem_of_getElem? (i := 2) rfl)), (m_r30 _ (List.mem_of_getElem? (i := 23) rfl))⟩, ky_X4_bitsOfShare⟩
theorem lkL_161 : KV RL 161 RX5 yX5_digest cX5_digest 5 (some .long) 0 := ⟨⟨(m_r31 _ (List.mem_of_getElem? (i := 3) rfl)), (m_r31 _ (List.mem_of_getElem? (i := 4) rfl)), (m_r31 _ (List.mem_of_getElem? (i := 5) rfl)), (m_r1 _ (List.mem_of_getElem? (i := 5) rfl)), (m_r31 _ (List.mem_of_getElem? (i := 6) rfl))⟩, ky_X5_digest⟩
theorem lkX5_174 : KS RX5 174 yJxe99ae_doubleToLongBits_ccdee cJxe99ae_doubleToLongBits_ccdee 2 (some .long) 1 := ⟨⟨(m_r31 _ (List.mem_of_getElem? (i := 9) rfl)), (m_r31 _ (List.mem_of_getElem? (i := 10) rfl)), (m_r31 _ (List.mem_of_getElem? (i := 11) rfl)), (m_r31 _ (List.mem_of_getElem? (i := 12) rfl))⟩, ky_Jxe99ae_doubleToLongBits_ccdee⟩
theorem lkJxe99ae_122 : KS RJxe99ae 122 yJxe99ae_isNaN_b9ae7 cJxe99ae_isNaN_b9ae7 2 (some .boolean) 1 := ⟨⟨(m_r31 _ (List.mem_of_getElem? (i := 18) rfl)), (m_r31 _ (List.mem_of_getElem? (i := 19) rfl)), (m_r31 _ (List.mem_of_getElem? (i := 11) rfl)), (m_r31 _ (List.mem_of_getElem? (i := 20) rfl))⟩, ky_Jxe99ae_isNaN_b9ae7⟩
theorem wd_classLink_RL_8_RX4 : Cond.classLink RL 8 RX4 ∈ wsL_law := (m_r1 _ (List.mem_of_getElem? (i := 0) rfl))
theorem wd_instantiable_RX4_5 : Cond.instantiable RX4 5 ∈ wsL_law := (m_r1 _ (List.mem_of_getElem? (i := 1) rfl))
theorem wd_initialized_RX4 : Cond.initialized RX4 ∈ wsL_law := (m_r1 _ (List.mem_of_getElem? (i := 2) rfl))
theorem wd_classLink_RL_74_RX5 : Cond.classLink RL 74 RX5 ∈ wsL_law := (m_r1 _ (List.mem_of_getElem? (i := 3) rfl))
theorem wd_instantiable_RX5_14 : Cond.instantiable RX5 14 ∈ wsL_law := (m_r1 _ (List.mem_of_getElem? (i := 4) rfl))
theorem wd_initialized_RX5 : Cond.initialized RX5 ∈ wsL_law := (m_r1 _ (List.mem_of_getElem? (i := 5) rfl))
theorem wd_arrayClass_long : Cond.arrayClass .long ∈ wsL_law := (m_r1 _ (List.mem_of_getElem? (i := 6) rfl))
theorem wd_methodLink_RX4_1_objectInit : Cond.methodLink RX4 1 objectInit ∈ wsL_law := (m_r1 _ (List.mem_of_getElem? (i := 10) rfl))
theorem wd_instanceMethod_objectInit : Cond.instanceMethod objectInit ∈ wsL_law := (m_r1 _ (List.mem_of_getElem? (i := 11) rfl))
theorem wd_code_objectInit_0xb1_1_none : Cond.code objectInit ⟨#[0xb1]⟩ 1 none ∈ wsL_law := (m_r1 _ (List.mem_of_getElem? (i := 12) rfl))
theorem wd_classLink_RX4_7_RX3 : Cond.classLink RX4 7 RX3 ∈ wsL_law := (m_r1 _ (List.mem_of_getElem? (i := 13) rfl))
theorem wd_instantiable_RX3_17 : Cond.instantiable RX3 17 ∈ wsL_law := (m_r1 _ (List.mem_of_getElem? (i := 14) rfl))
theorem wd_initialized_RX3 : Cond.initialized RX3 ∈ wsL_law := (m_r1 _ (List.mem_of_getElem? (i := 15) rfl))
theorem wd_classLink_RX4_27_RX0 : Cond.classLink RX4 27 RX0 ∈ wsL_law := (m_r1 _ (List.mem_of_getElem? (i := 20) rfl))
theorem wd_instantiable_RX0_2 : Cond.instantiable RX0 2 ∈ wsL_law := (m_r1 _ (List.mem_of_getElem? (i := 21) rfl))
theorem wd_initialized_RX0 : Cond.initialized RX0 ∈ wsL_law := (m_r1 _ (List.mem_of_getElem? (i := 22) rfl))
theorem wd_methodLink_RX3_3_objectInit : Cond.methodLink RX3 3 objectInit ∈ wsL_law := (m_r2 _ (List.mem_of_getElem? (i := 3) rfl))
theorem wd_arrayClass_int : Cond.arrayClass .int ∈ wsL_law := (m_r2 _ (List.mem_of_getElem? (i := 6) rfl))
theorem wd_classLink_RX3_49_RX2 : Cond.classLink RX3 49 RX2 ∈ wsL_law := (m_r2 _ (List.mem_of_getElem? (i := 17) rfl))
theorem wd_instantiable_RX2_4 : Cond.instantiable RX2 4 ∈ wsL_law := (m_r2 _ (List.mem_of_getElem? (i := 18) rfl))
theorem wd_initialized_RX2 : Cond.initialized RX2 ∈ wsL_law := (m_r2 _ (List.mem_of_getElem? (i := 19) rfl))
theorem wd_methodLink_RX2_3_objectInit : Cond.methodLink RX2 3 objectInit ∈ wsL_law := (m_r2 _ (List.mem_of_getElem? (i := 23) rfl))
theorem wd_methodLink_RX0_3_objectInit : Cond.methodLink RX0 3 objectInit ∈ wsL_law := (m_r3 _ (List.mem_of_getElem? (i := 3) rfl))
theorem wd_methodLink_RX5_1_objectInit : Cond.methodLink RX5 1 objectInit ∈ wsL_law := (m_r3 _ (List.mem_of_getElem? (i := 9) rfl))
theorem wd_initialized_RL : Cond.initialized RL ∈ wsL_law := (m_r3 _ (List.mem_of_getElem? (i := 16) rfl))
theorem wd_classLink_RL_13_java_lang_IllegalArgumentException : Cond.classLink RL 13 "java/lang/IllegalArgumentException" ∈ wsL_law := (m_r3 _ (List.mem_of_getElem? (i := 18) rfl))
theorem wd_classLink_RL_15_java_lang_IllegalStateException : Cond.classLink RL 15 "java/lang/IllegalStateException" ∈ wsL_law := (m_r3 _ (List.mem_of_getElem? (i := 19) rfl))
theorem wd_classLink_RX4_38_java_lang_IllegalArgumentException : Cond.classLink RX4 38 "java/lang/IllegalArgumentException" ∈ wsL_law := (m_r4 _ (List.mem_of_getElem? (i := 0) rfl))
theorem wd_initialized_java_lang_IllegalArgumentException : Cond.initialized "java/lang/IllegalArgumentException" ∈ wsL_law := (m_r4 _ (List.mem_of_getElem? (i := 1) rfl))
theorem wd_classLink_RX4_49_java_lang_IllegalStateException : Cond.classLink RX4 49 "java/lang/IllegalStateException" ∈ wsL_law := (m_r4 _ (List.mem_of_getElem? (i := 2) rfl))
theorem wd_initialized_java_lang_IllegalStateException : Cond.initialized "java/lang/IllegalStateException" ∈ wsL_law := (m_r4 _ (List.mem_of_getElem? (i := 3) rfl))
theorem wd_initialized_RX1 : Cond.initialized RX1 ∈ wsL_law := (m_r4 _ (List.mem_of_getElem? (i := 14) rfl))
theorem wd_methodLink_RX3_68_arraycopyName : Cond.methodLink RX3 68 arraycopyName ∈ wsL_law := (m_r5 _ (List.mem_of_getElem? (i := 3) rfl))
theorem wd_native_arraycopyName : Cond.native arraycopyName ∈ wsL_law := (m_r5 _ (List.mem_of_getElem? (i := 4) rfl))
theorem wd_static_arraycopyName : Cond.static arraycopyName ∈ wsL_law := (m_r5 _ (List.mem_of_getElem? (i := 5) rfl))
theorem wd_initialized_java_lang_System : Cond.initialized "java/lang/System" ∈ wsL_law := (m_r5 _ (List.mem_of_getElem? (i := 6) rfl))
theorem wd_classLink_RL_21_java_lang_IndexOutOfBoundsException : Cond.classLink RL 21 "java/lang/IndexOutOfBoundsException" ∈ wsL_law := (m_r7 _ (List.mem_of_getElem? (i := 2) rfl))
theorem wd_classLink_RX4_287_java_lang_IndexOutOfBoundsException : Cond.classLink RX4 287 "java/lang/IndexOutOfBoundsException" ∈ wsL_law := (m_r7 _ (List.mem_of_getElem? (i := 13) rfl))
theorem wd_initialized_java_lang_IndexOutOfBoundsException : Cond.initialized "java/lang/IndexOutOfBoundsException" ∈ wsL_law := (m_r7 _ (List.mem_of_getElem? (i := 14) rfl))
theorem wd_methodLink_RX3_112_Lib_Math_min_name : Cond.methodLink RX3 112 Lib.Math.min.name ∈ wsL_law := (m_r11 _ (List.mem_of_getElem? (i := 22) rfl))
theorem wd_static_Lib_Math_min_name : Cond.static Lib.Math.min.name ∈ wsL_law := (m_r11 _ (List.mem_of_getElem? (i := 23) rfl))
theorem wd_initialized_java_lang_Math : Cond.initialized "java/lang/Math" ∈ wsL_law := (m_r12 _ (List.mem_of_getElem? (i := 0) rfl))
theorem wd_code_Lib_Math_min_name_Lib_Math_min_code_2_some_int : Cond.code Lib.Math.min.name Lib.Math.min.code 2 (some .int) ∈ wsL_law := (m_r12 _ (List.mem_of_getElem? (i := 1) rfl))
theorem wd_methodLink_RX1_9_Lib_Math_max_name : Cond.methodLink RX1 9 Lib.Math.max.name ∈ wsL_law := (m_r12 _ (List.mem_of_getElem? (i := 20) rfl))
theorem wd_static_Lib_Math_max_name : Cond.static Lib.Math.max.name ∈ wsL_law := (m_r12 _ (List.mem_of_getElem? (i := 21) rfl))
theorem wd_code_Lib_Math_max_name_Lib_Math_max_code_2_some_int : Cond.code Lib.Math.max.name Lib.Math.max.code 2 (some .int) ∈ wsL_law := (m_r12 _ (List.mem_of_getElem? (i := 22) rfl))
theorem wd_constantLong_RX4_249_3271 : Cond.constantLong RX4 249 (3271) ∈ wsL_law := (m_r30 _ (List.mem_of_getElem? (i := 8) rfl))
theorem wd_constantLong_RX4_312_31 : Cond.constantLong RX4 312 (31) ∈ wsL_law := (m_r30 _ (List.mem_of_getElem? (i := 13) rfl))
theorem wd_constantLong_RX4_314_1023 : Cond.constantLong RX4 314 (1023) ∈ wsL_law := (m_r31 _ (List.mem_of_getElem? (i := 0) rfl))
theorem wd_constantDouble_RX4_316_4611686018427387904 : Cond.constantDouble RX4 316 (4611686018427387904) ∈ wsL_law := (m_r31 _ (List.mem_of_getElem? (i := 1) rfl))
theorem wd_constantDouble_RX4_318_4841369599423283200 : Cond.constantDouble RX4 318 (4841369599423283200) ∈ wsL_law := (m_r31 _ (List.mem_of_getElem? (i := 2) rfl))
theorem wd_constantLong_RX5_170_3271 : Cond.constantLong RX5 170 (3271) ∈ wsL_law := (m_r31 _ (List.mem_of_getElem? (i := 7) rfl))
theorem wd_constantLong_RX5_172_31 : Cond.constantLong RX5 172 (31) ∈ wsL_law := (m_r31 _ (List.mem_of_getElem? (i := 8) rfl))
theorem wd_methodLink_RX5_174_yJxe99ae_doubleToLongBits_ccdee : Cond.methodLink RX5 174 yJxe99ae_doubleToLongBits_ccdee ∈ wsL_law := (m_r31 _ (List.mem_of_getElem? (i := 9) rfl))
theorem wd_static_yJxe99ae_doubleToLongBits_ccdee : Cond.static yJxe99ae_doubleToLongBits_ccdee ∈ wsL_law := (m_r31 _ (List.mem_of_getElem? (i := 10) rfl))
theorem wd_initialized_RJxe99ae : Cond.initialized RJxe99ae ∈ wsL_law := (m_r31 _ (List.mem_of_getElem? (i := 11) rfl))
theorem wd_code_yJxe99ae_doubleToLongBits_ccdee_cJxe99ae_doubleToLongBits_ccdee_2_some_long : Cond.code yJxe99ae_doubleToLongBits_ccdee cJxe99ae_doubleToLongBits_ccdee 2 (some .long) ∈ wsL_law := (m_r31 _ (List.mem_of_getElem? (i := 12) rfl))
theorem wd_methodLink_RJxe99ae_134_java_lang_Double_doubleToRawLongBits_D_J : Cond.methodLink RJxe99ae 134 ⟨"java/lang/Double", "doubleToRawLongBits", "(D)J"⟩ ∈ wsL_law := (m_r31 _ (List.mem_of_getElem? (i := 13) rfl))
theorem wd_native_java_lang_Double_doubleToRawLongBits_D_J : Cond.native ⟨"java/lang/Double", "doubleToRawLongBits", "(D)J"⟩ ∈ wsL_law := (m_r31 _ (List.mem_of_getElem? (i := 14) rfl))
theorem wd_static_java_lang_Double_doubleToRawLongBits_D_J : Cond.static ⟨"java/lang/Double", "doubleToRawLongBits", "(D)J"⟩ ∈ wsL_law := (m_r31 _ (List.mem_of_getElem? (i := 15) rfl))
theorem wd_initialized_java_lang_Double : Cond.initialized "java/lang/Double" ∈ wsL_law := (m_r31 _ (List.mem_of_getElem? (i := 16) rfl))
theorem wd_constantLong_RJxe99ae_137_9221120237041090560 : Cond.constantLong RJxe99ae 137 (9221120237041090560) ∈ wsL_law := (m_r31 _ (List.mem_of_getElem? (i := 17) rfl))
theorem wd_methodLink_RJxe99ae_122_yJxe99ae_isNaN_b9ae7 : Cond.methodLink RJxe99ae 122 yJxe99ae_isNaN_b9ae7 ∈ wsL_law := (m_r31 _ (List.mem_of_getElem? (i := 18) rfl))
theorem wd_static_yJxe99ae_isNaN_b9ae7 : Cond.static yJxe99ae_isNaN_b9ae7 ∈ wsL_law := (m_r31 _ (List.mem_of_getElem? (i := 19) rfl))
theorem wd_code_yJxe99ae_isNaN_b9ae7_cJxe99ae_isNaN_b9ae7_2_some_boolean : Cond.code yJxe99ae_isNaN_b9ae7 cJxe99ae_isNaN_b9ae7 2 (some .boolean) ∈ wsL_law := (m_r31 _ (List.mem_of_getElem? (i := 20) rfl))
end
section
/-! own rows: a contract's start, its ends, calls with the frame; one cell of a list of cells; two-row numbers -/
def us (v : Nat → Int32) (i : Nat) (x : Int32) : Nat → Int32 := fun q => cond (Nat.beq q i) x (v q)
def up2 (N : Nat → Nat → Int32) (i j : Nat) (x : Int32) : Nat → Nat → Int32 := fun q => cond (Nat.beq q i) (upd (N i) j x) (N q)
theorem us_self (v : Nat → Int32) (i : Nat) (x : Int32) : us v i x i = x := by simp [us]
theorem us_ne (v : Nat → Int32) {i j : Nat} (x : Int32) (h : j ≠ i) : us v i x j = v j := by
  have h1 : Nat.beq j i = false := by
    cases hb : Nat.beq j i with
    | true => exact absurd (Nat.eq_of_beq_eq_true hb) h
    | false => rfl
  simp [us, h1]
theorem up2_row (N : Nat → Nat → Int32) (i j : Nat) (x : Int32) : up2 N i j x i = upd (N i) j x := by simp [up2]
theorem up2_ne (N : Nat → Nat → Int32) {i q : Nat} (j : Nat) (x : Int32) (h : q ≠ i) : up2 N i j x q = N q := by
  have h1 : Nat.beq q i = false := by
    cases hb : Nat.beq q i with
    | true => exact absurd (Nat.eq_of_beq_eq_true hb) h
    | false => rfl
  simp [up2, h1]
def noF : Nat → Prop := fun _ => False
/-- what the tables say beside the words: the two links between nest mates, the texts of the exceptions -/
def kStrs : List (Nat × String) := [(40, "kind, length or coupling is out of range"), (51, "no room or not enough money for a new hose"), (79, "place is out of range"), (84, "days is out of range"), (90, "the hose is not ready"), (105, "length is out of range"), (119, "value is out of range"), (130, "code is not 33 to 126"), (136, "the buffer is full"), (151, "the buffer is not complete hoses as a text"), (156, "no state is saved"), (162, "what is not 0 to 9"), (185, "what is not 0 to 6"), (211, "what is not 0 to 10"), (289, "there is no such hose"), (295, "the hose is gone or lent"), (297, "there is no such truck"), (299, "there is no such setting"), (301, "pressure is out of range")]
def kEn (U : State) : Prop := va_Nw (.methodLinkNest RX3 51 yX2_init RX4) U ∧ va_Nw (.methodLinkNest RX3 74 yX4_isWithin RX4) U ∧ ∀ q ∈ kStrs, ∃ sa, vk_R RX4 q.1 q.2 sa U
theorem kEn.warm {s U : State} (hW : s.WarmedH U.vm) (h : kEn s) : kEn U := ⟨va_Nw.warmM hW h.1, va_Nw.warmM hW h.2.1, fun q hq => by
  obtain ⟨sa, h1⟩ := h.2.2 q hq
  exact ⟨sa, vk_R.warm hW h1⟩⟩
theorem kEn.same {u U : State} (hv : U.vm = u.vm) (h : kEn u) : kEn U := ⟨va_Nw.same rfl hv.symm h.1, va_Nw.same rfl hv.symm h.2.1, fun q hq => by
  obtain ⟨sa, h1⟩ := h.2.2 q hq
  exact ⟨sa, vk_R.same hv h1⟩⟩
/-- a contract's start: the arguments, the size of the heap, the world, the tables -/
def kPc (D : va_G) (ty : List (ClassId × FieldType)) (wc : va_W) (sz : Nat) (av : List Value) : Array Value → State → Prop :=
  va_Pc av (fun U => U.heap.size = sz ∧ va_P D vwCl wc U.heap ∧ va_K D vwCl ty U ∧ va_D (fun _ => True) wc ∧ kEn U)
theorem kPc_blind {D : va_G} {ty : List (ClassId × FieldType)} {wc : va_W} {sz : Nat} {av : List Value} : FrameBlind (kPc D ty wc sz av) := fun a U g mk q => by
  obtain ⟨q0, q1, qP, qK, qD, qE⟩ := q
  exact ⟨q0, q1, qP, va_K.moved (u := U) (U := U.calling g mk a) (Vm.Alike.refl U.vm) qK, qD, kEn.same (u := U) (U := U.calling g mk a) rfl qE⟩
theorem kPc_at {D : va_G} {ty : List (ClassId × FieldType)} {wc : va_W} {av : List Value} {s : State} {H : Heap} (hK : va_K D vwCl ty s) (hE : kEn s) (hP : va_P D vwCl wc H) (hD : va_D (fun _ => True) wc) (U : State) (hU : U.heap = H) (hW : s.WarmedH U.vm) : kPc D ty wc H.size av av.toArray U :=
  ⟨rfl, by rw [hU], by rw [hU]; exact hP, va_K.moved hW.alike hK, hD, kEn.warm hW hE⟩
/-- ends that leave the heap as it was -/
abbrev kRi (r0 : Int32) : Array Value → State → Outcome → State → Prop := vp_Si (fun r => r = r0)
abbrev kRl (r0 : Int64) : Array Value → State → Outcome → State → Prop := vp_Sl (fun r => r = r0)
abbrev kRd (r0 : UInt64) : Array Value → State → Outcome → State → Prop := vp_Sd (fun r => r = r0)
/-- ends with a new world in the old one's place -/
abbrev kMi (D : va_G) (wc wc' : va_W) (sz : Nat) (r0 : Int32) : Array Value → State → Outcome → State → Prop := va_Qi (fun r (_ : Unit) => r = r0) (fun _ t => va_P D vwCl wc' t.heap) (va_A wc sz)
abbrev kMl (D : va_G) (wc wc' : va_W) (sz : Nat) (r0 : Int64) : Array Value → State → Outcome → State → Prop := va_Ql (fun r (_ : Unit) => r = r0) (fun _ t => va_P D vwCl wc' t.heap) (va_A wc sz)
abbrev kMv (D : va_G) (wc wc' : va_W) (sz : Nat) : Array Value → State → Outcome → State → Prop := va_Qv (fun (_ : Unit) => True) (fun _ t => va_P D vwCl wc' t.heap) (va_A wc sz)
/-- the same addresses -/
theorem va_D_same {A : Nat → Prop} {ws ws' : va_W} (h : ws'.map Prod.fst = ws.map Prod.fst) (hD : va_D A ws) : va_D A ws' := by
  have key : ∀ (k : Nat) (q : Nat × va_E), ws'[k]? = some q → ∃ q0, ws[k]? = some q0 ∧ q0.1 = q.1 := by
    intro k q hk
    have h1 : (ws'.map Prod.fst)[k]? = some q.1 := by rw [List.getElem?_map, hk]; rfl
    rw [h, List.getElem?_map] at h1
    cases hw : ws[k]? with
    | none => rw [hw] at h1; cases h1
    | some q0 => rw [hw] at h1; exact ⟨q0, rfl, Option.some.inj h1⟩
  refine ⟨fun i j x y hi hj hxy => ?_, fun k q hk => ?_⟩
  · obtain ⟨x0, h1, h2⟩ := key i x hi
    obtain ⟨y0, h3, h4⟩ := key j y hj
    exact hD.1 i j x0 y0 h1 h3 (h2.trans (hxy.trans h4.symm))
  · obtain ⟨q0, h1, h2⟩ := key k q hk
    rw [← h2]
    exact hD.2 k q0 h1
theorem va_P_of_mem {D : va_G} {cl : List vw_C} {ws : va_W} {H : Heap} (h : ∀ q ∈ ws, va_at D cl q H) : va_P D cl ws H := fun _ q hk => h q (List.mem_of_getElem? hk)
theorem va_P_mem {D : va_G} {cl : List vw_C} {ws : va_W} {H : Heap} (h : va_P D cl ws H) {q : Nat × va_E} (hq : q ∈ ws) : va_at D cl q H := by
  obtain ⟨k, hk⟩ := List.getElem?_of_mem hq
  exact h k q hk
theorem va_P_midL {D : va_G} {cl : List vw_C} {w1 wc w3 : va_W} {H : Heap} (h : va_P D cl (w1 ++ (wc ++ w3)) H) : va_P D cl wc H :=
  va_P_of_mem fun q hq => va_P_mem h (List.mem_append_right _ (List.mem_append_left _ hq))
theorem va_D_midL {A : Nat → Prop} {w1 wc w3 : va_W} (h : va_D A (w1 ++ (wc ++ w3))) : va_D A wc := by
  have e : ∀ (k : Nat) (q : Nat × va_E), wc[k]? = some q → (w1 ++ (wc ++ w3))[w1.length + k]? = some q := by
    intro k q hk
    rw [List.getElem?_append_right (by omega), Nat.add_sub_cancel_left, List.getElem?_append_left (List.getElem?_eq_some_iff.mp hk).1]
    exact hk
  refine h.by _ e (fun i j _ _ h => ?_)
  have h' : w1.length + i = w1.length + j := h
  omega
/-- the cells of a middle part: what a caller's cell is in it -/
theorem va_D_mid_ne {A : Nat → Prop} {w1 wc w3 : va_W} (h : va_D A (w1 ++ (wc ++ w3))) {q : Nat × va_E} (hq : q ∈ w1 ∨ q ∈ w3) {c : Nat × va_E} (hc : c ∈ wc) : c.1 ≠ q.1 := by
  intro he
  obtain ⟨k, hk⟩ := List.getElem?_of_mem hc
  have hkl := (List.getElem?_eq_some_iff.mp hk).1
  have e1 : (w1 ++ (wc ++ w3))[w1.length + k]? = some c := by
    rw [List.getElem?_append_right (by omega), Nat.add_sub_cancel_left, List.getElem?_append_left hkl]
    exact hk
  rcases hq with hq | hq
  · obtain ⟨i, hi⟩ := List.getElem?_of_mem hq
    have hil := (List.getElem?_eq_some_iff.mp hi).1
    have e2 : (w1 ++ (wc ++ w3))[i]? = some q := by rw [List.getElem?_append_left hil]; exact hi
    have := h.1 _ _ c q e1 e2 he
    omega
  · obtain ⟨i, hi⟩ := List.getElem?_of_mem hq
    have e2 : (w1 ++ (wc ++ w3))[w1.length + (wc.length + i)]? = some q := by
      rw [List.getElem?_append_right (by omega), Nat.add_sub_cancel_left, List.getElem?_append_right (by omega), Nat.add_sub_cancel_left]
      exact hi
    have := h.1 _ _ c q e1 e2 he
    omega
/-- behind a call: a new middle part, all else as it was -/
theorem k_join {A0 : Nat → Prop} {D : va_G} {cl : List vw_C} {w1 wc wc' w3 : va_W} {H H1 : Heap} (hP : va_P D cl (w1 ++ (wc ++ w3)) H) (hD : va_D A0 (w1 ++ (wc ++ w3))) (ha : wc'.map Prod.fst = wc.map Prod.fst)
    (hk : ∀ q : Nat, q < H.size → ¬ va_A wc H.size q → H1[q]? = H[q]?) (hP1 : va_P D cl wc' H1) : va_P D cl (w1 ++ (wc' ++ w3)) H1 ∧ va_D A0 (w1 ++ (wc' ++ w3)) := by
  have keep : ∀ q : Nat × va_E, q ∈ w1 ∨ q ∈ w3 → va_at D cl q H1 := by
    intro q hq
    have hm : q ∈ w1 ++ (wc ++ w3) := by
      rcases hq with h | h
      · exact List.mem_append_left _ h
      · exact List.mem_append_right _ (List.mem_append_right _ h)
    have hat := va_P_mem hP hm
    refine hat.kept (hk q.1 hat.lt fun hA => ?_)
    rcases hA with ⟨k, e, h⟩ | h
    · exact va_D_mid_ne hD hq (List.mem_of_getElem? h) rfl
    · have := hat.lt
      omega
  refine ⟨va_P_of_mem fun q hq => ?_, va_D_same (by simp [ha]) hD⟩
  rcases List.mem_append.mp hq with h | h
  · exact keep q (Or.inl h)
  · rcases List.mem_append.mp h with h | h
    · exact va_P_mem hP1 h
    · exact keep q (Or.inr h)
theorem k_free {A0 : Nat → Prop} {w1 wc w3 : va_W} {H0 H : Heap} {locs : List Loc} (hD : va_D A0 (w1 ++ (wc ++ w3))) (hS : va_S A0 H0 H locs) (hA : ∀ q, H0.size ≤ q → A0 q) : ∀ q, va_A wc H.size q → A0 q := by
  intro q h
  rcases h with ⟨k, e, h⟩ | h
  · exact (va_D_midL hD).2 k (q, e) h
  · exact hA q (Nat.le_trans hS.1 h)
section KROW
variable {p : Program} {l : Launch} {e : Env} {R : Room} {s : State} {m : MethodId} {args : Array Value} {below : List Frame} {meth : Method} {c : Code} {H : Heap} {locs : List Loc} {cells slots : Nat} {Q : State → Prop}
variable {cc bytes : ByteArray} {pc nL maxL n index mc ms : Nat} {ls : Array Slot} {rest st0 As : List Value} {D : va_G} {A0 : Nat → Prop} {a b : Nat} {ty : List (ClassId × FieldType)} {w1 wc wc' w3 ws : va_W} {H0 : Heap} {y : MethodName} {own C : String} {ret : Option FieldType} {rm : Room}
/-- a read of an int array at a known place -/
theorem k_ald (hexec : p.tables.exec = Jvm.exec) (hb : c.code = cc) (hK : va_K D vwCl ty s) (hP : va_P D vwCl ws H) (q0 t0 : Nat) {cA : ClassId} {N k : Nat} {f : Nat → Int32} {i : Int32} (ha : ws[q0]? = some (a, .inl (cA, N, .inl f))) (ht : ty[t0]? = some (cA, .int)) (hi : i = nI k) (hk : k < N) (hN : N < 2 ^ 31) (hdg : decode cc pc = .ok (.iaload, 1))
    (kk : W p l e R s m args below meth c H locs cells slots Q (F0 m (pc + 1) ls (.int (f k) :: rest))) : W p l e R s m args below meth c H locs cells slots Q (F0 m pc ls (.int i :: .ref a :: rest)) := by
  subst hi
  refine va_iald hexec hb hK hP q0 t0 ha ht (vp_in_nI hk hN) hdg ?_
  rw [nI_clamp (by omega)]
  exact kk
/-- a write to an int array at a known place -/
theorem k_ast (hexec : p.tables.exec = Jvm.exec) (hb : c.code = cc) (hK : va_K D vwCl ty s) (hP : va_P D vwCl ws H) (hD : va_D A0 ws) (hS : va_S A0 H0 H locs) (q0 t0 : Nat) {cA : ClassId} {N k : Nat} {f : Nat → Int32} {i x : Int32} (ha : ws[q0]? = some (a, .inl (cA, N, .inl f))) (ht : ty[t0]? = some (cA, .int)) (hi : i = nI k) (hk : k < N) (hN : N < 2 ^ 31) (hdg : decode cc pc = .ok (.iastore, 1))
    (kk : ∀ (H1 : Heap) (locs1 : List Loc), va_P D vwCl (ws.set q0 (a, .inl (cA, N, .inl (upd f k x)))) H1 → va_D A0 (ws.set q0 (a, .inl (cA, N, .inl (upd f k x)))) → va_S A0 H0 H1 locs1 → W p l e R s m args below meth c H1 locs1 cells slots Q (F0 m (pc + 1) ls rest)) : W p l e R s m args below meth c H locs cells slots Q (F0 m pc ls (.int x :: .int i :: .ref a :: rest)) := by
  subst hi
  have hc : (nI k).toNatClampNeg = k := nI_clamp (by omega)
  refine va_iast hexec hb hK hP hD hS q0 t0 ha ht (vp_in_nI hk hN) hdg fun H1 locs1 h1 h2 h3 => ?_
  rw [hc] at h1 h2
  exact kk H1 locs1 h1 h2 h3
/-- a call of a method that only reads and answers an int -/
theorem k_riV {r0 : Int32} (S : CallFix p m c cc nL s args wsL_law own) (hM : Met l y (wy_ y bytes maxL ret) rm (kPc D ty wc H.size (.ref b :: As)) (kRi r0) 0 0 noF) (hlk : KV own index C y bytes maxL ret n) (hrc : rm.cells = 0) (hrs : rm.slots = 0) (hR : rm.frames + 1 ≤ R.frames ∧ 8 + (maxL + 11) + rm.locals ≤ R.locals)
    (hrv : ∃ cell : Cell, H[b]? = some cell ∧ cell.vm.isStatics = false ∧ s.vm.findClass C = some cell.cls) (hK : va_K D vwCl ty s) (hE : kEn s) (hP : va_P D vwCl wc H) (hD : va_D A0 wc) (hn : As.length = n) (hsz : ls.size = nL) (hst : st0 = As.reverse ++ .ref b :: rest) (hrest : (rest.map fun v => v.category).sum ≤ 8)
    (hdg : decode cc pc = .ok (.invokevirtual index, 3)) (hf : cells ≤ R.cells ∧ slots ≤ R.slots)
    (kk : W p l e R s m args below meth c H locs cells slots Q (F0 m (pc + 3) ls (.int r0 :: rest))) : W p l e R s m args below meth c H locs cells slots Q (F0 m pc ls st0) :=
  vp_callSi (W.runV S hM (k_cV S.2.2.2.2 hlk hrc hrs hR) ⟨kPc_blind, hrv, kPc_at hK hE hP (hD.weaken fun _ _ _ _ => trivial)⟩ rfl hn hsz hst (lv_room hrest) hdg hf) (fun r hr => by subst hr; exact kk)
theorem k_riS {r0 : Int32} (S : CallFix p m c cc nL s args wsL_law own) (hM : Met l y (wy_ y bytes maxL ret) rm (kPc D ty wc H.size As) (kRi r0) 0 0 noF) (hlk : KS own index y bytes maxL ret n) (hrc : rm.cells = 0) (hrs : rm.slots = 0) (hR : rm.frames + 1 ≤ R.frames ∧ 8 + (maxL + 11) + rm.locals ≤ R.locals)
    (hK : va_K D vwCl ty s) (hE : kEn s) (hP : va_P D vwCl wc H) (hD : va_D A0 wc) (hn : As.length = n) (hsz : ls.size = nL) (hst : st0 = As.reverse ++ rest) (hrest : (rest.map fun v => v.category).sum ≤ 8)
    (hdg : decode cc pc = .ok (.invokestatic index, 3)) (hf : cells ≤ R.cells ∧ slots ≤ R.slots)
    (kk : W p l e R s m args below meth c H locs cells slots Q (F0 m (pc + 3) ls (.int r0 :: rest))) : W p l e R s m args below meth c H locs cells slots Q (F0 m pc ls st0) :=
  vp_callSi (W.runS S hM (k_cS S.2.2.2.2 hlk hrc hrs hR) ⟨kPc_blind, kPc_at hK hE hP (hD.weaken fun _ _ _ _ => trivial)⟩ rfl hn hsz hst (lv_room hrest) hdg hf) (fun r hr => by subst hr; exact kk)
/-- a call of a method that only reads and answers a long -/
theorem k_rlV {r0 : Int64} (S : CallFix p m c cc nL s args wsL_law own) (hM : Met l y (wy_ y bytes maxL ret) rm (kPc D ty wc H.size (.ref b :: As)) (kRl r0) 0 0 noF) (hlk : KV own index C y bytes maxL ret n) (hrc : rm.cells = 0) (hrs : rm.slots = 0) (hR : rm.frames + 1 ≤ R.frames ∧ 8 + (maxL + 11) + rm.locals ≤ R.locals)
    (hrv : ∃ cell : Cell, H[b]? = some cell ∧ cell.vm.isStatics = false ∧ s.vm.findClass C = some cell.cls) (hK : va_K D vwCl ty s) (hE : kEn s) (hP : va_P D vwCl wc H) (hD : va_D A0 wc) (hn : As.length = n) (hsz : ls.size = nL) (hst : st0 = As.reverse ++ .ref b :: rest) (hrest : (rest.map fun v => v.category).sum ≤ 8)
    (hdg : decode cc pc = .ok (.invokevirtual index, 3)) (hf : cells ≤ R.cells ∧ slots ≤ R.slots)
    (kk : W p l e R s m args below meth c H locs cells slots Q (F0 m (pc + 3) ls (.long r0 :: rest))) : W p l e R s m args below meth c H locs cells slots Q (F0 m pc ls st0) :=
  vp_callSl (W.runV S hM (k_cV S.2.2.2.2 hlk hrc hrs hR) ⟨kPc_blind, hrv, kPc_at hK hE hP (hD.weaken fun _ _ _ _ => trivial)⟩ rfl hn hsz hst (lv_room hrest) hdg hf) (fun r hr => by subst hr; exact kk)
theorem k_rlS {r0 : Int64} (S : CallFix p m c cc nL s args wsL_law own) (hM : Met l y (wy_ y bytes maxL ret) rm (kPc D ty wc H.size As) (kRl r0) 0 0 noF) (hlk : KS own index y bytes maxL ret n) (hrc : rm.cells = 0) (hrs : rm.slots = 0) (hR : rm.frames + 1 ≤ R.frames ∧ 8 + (maxL + 11) + rm.locals ≤ R.locals)
    (hK : va_K D vwCl ty s) (hE : kEn s) (hP : va_P D vwCl wc H) (hD : va_D A0 wc) (hn : As.length = n) (hsz : ls.size = nL) (hst : st0 = As.reverse ++ rest) (hrest : (rest.map fun v => v.category).sum ≤ 8)
    (hdg : decode cc pc = .ok (.invokestatic index, 3)) (hf : cells ≤ R.cells ∧ slots ≤ R.slots)
    (kk : W p l e R s m args below meth c H locs cells slots Q (F0 m (pc + 3) ls (.long r0 :: rest))) : W p l e R s m args below meth c H locs cells slots Q (F0 m pc ls st0) :=
  vp_callSl (W.runS S hM (k_cS S.2.2.2.2 hlk hrc hrs hR) ⟨kPc_blind, kPc_at hK hE hP (hD.weaken fun _ _ _ _ => trivial)⟩ rfl hn hsz hst (lv_room hrest) hdg hf) (fun r hr => by subst hr; exact kk)
/-- a call of a method that only reads and answers a double -/
theorem k_rdV {r0 : UInt64} (S : CallFix p m c cc nL s args wsL_law own) (hM : Met l y (wy_ y bytes maxL ret) rm (kPc D ty wc H.size (.ref b :: As)) (kRd r0) 0 0 noF) (hlk : KV own index C y bytes maxL ret n) (hrc : rm.cells = 0) (hrs : rm.slots = 0) (hR : rm.frames + 1 ≤ R.frames ∧ 8 + (maxL + 11) + rm.locals ≤ R.locals)
    (hrv : ∃ cell : Cell, H[b]? = some cell ∧ cell.vm.isStatics = false ∧ s.vm.findClass C = some cell.cls) (hK : va_K D vwCl ty s) (hE : kEn s) (hP : va_P D vwCl wc H) (hD : va_D A0 wc) (hn : As.length = n) (hsz : ls.size = nL) (hst : st0 = As.reverse ++ .ref b :: rest) (hrest : (rest.map fun v => v.category).sum ≤ 8)
    (hdg : decode cc pc = .ok (.invokevirtual index, 3)) (hf : cells ≤ R.cells ∧ slots ≤ R.slots)
    (kk : W p l e R s m args below meth c H locs cells slots Q (F0 m (pc + 3) ls (.double r0 :: rest))) : W p l e R s m args below meth c H locs cells slots Q (F0 m pc ls st0) :=
  vp_callSd (W.runV S hM (k_cV S.2.2.2.2 hlk hrc hrs hR) ⟨kPc_blind, hrv, kPc_at hK hE hP (hD.weaken fun _ _ _ _ => trivial)⟩ rfl hn hsz hst (lv_room hrest) hdg hf) (fun r hr => by subst hr; exact kk)
theorem k_rdS {r0 : UInt64} (S : CallFix p m c cc nL s args wsL_law own) (hM : Met l y (wy_ y bytes maxL ret) rm (kPc D ty wc H.size As) (kRd r0) 0 0 noF) (hlk : KS own index y bytes maxL ret n) (hrc : rm.cells = 0) (hrs : rm.slots = 0) (hR : rm.frames + 1 ≤ R.frames ∧ 8 + (maxL + 11) + rm.locals ≤ R.locals)
    (hK : va_K D vwCl ty s) (hE : kEn s) (hP : va_P D vwCl wc H) (hD : va_D A0 wc) (hn : As.length = n) (hsz : ls.size = nL) (hst : st0 = As.reverse ++ rest) (hrest : (rest.map fun v => v.category).sum ≤ 8)
    (hdg : decode cc pc = .ok (.invokestatic index, 3)) (hf : cells ≤ R.cells ∧ slots ≤ R.slots)
    (kk : W p l e R s m args below meth c H locs cells slots Q (F0 m (pc + 3) ls (.double r0 :: rest))) : W p l e R s m args below meth c H locs cells slots Q (F0 m pc ls st0) :=
  vp_callSd (W.runS S hM (k_cS S.2.2.2.2 hlk hrc hrs hR) ⟨kPc_blind, kPc_at hK hE hP (hD.weaken fun _ _ _ _ => trivial)⟩ rfl hn hsz hst (lv_room hrest) hdg hf) (fun r hr => by subst hr; exact kk)
/-- a static method of a nest mate that only reads -/
theorem va_toCR {mc ms : Nat} {g : JFrame} {Qa : State → Outcome → State → Prop} {free : Addr → Prop} (h : va_Run p l e R s m args below meth c H locs cells slots mc ms g rest Qa free) : CallRun p l e R s m args below meth c H locs cells slots mc ms g rest Qa free := fun T hT X => by
  obtain ⟨v, st₀, t, T', L, h0, X', hL, e1, e2, hq, st⟩ := h T hT X
  exact ⟨v, st₀, t, T', L, h0, X', hL, e1, hq, st⟩
theorem k_cN {own host : String} {index maxL n mc ms : Nat} {y : MethodName} {bytes : ByteArray} {ret : Option FieldType} {rm : Room} (hts : ∀ w ∈ wsL_law, w.before args s = true) (hl : va_Nw (.methodLinkNest own index y host) s) (h2 : Cond.initialized y.cls ∈ wsL_law) (h3 : Cond.code y bytes maxL ret ∈ wsL_law) (hy : KY y n) (hrc : rm.cells = mc) (hrs : rm.slots = ms) (hR : rm.frames + 1 ≤ R.frames ∧ 8 + (maxL + 11) + rm.locals ≤ R.locals) :
    va_CN R s args own index y host bytes maxL ret (wy_ y bytes maxL ret) rm mc ms n := by
  refine ⟨⟨hrc, hrs, hR.1, hR.2, fun w hw a' U hW => ?_, List.mem_cons_self⟩, hts _ h3, hts _ h2, ⟨hy.1, hy.2.1⟩, fun sig h => ?_, va_Nw.use rfl hl⟩
  · rcases List.mem_cons.mp hw with rfl | hw
    · exact wl_pay hts _ h3 a' U hW
    · exact wl_pay hts _ hw a' U hW
  · have h2 := hy.2.2
    rw [h] at h2
    exact (Option.some.inj h2).symm
theorem k_riN {host : String} {r0 : Int32} (S : CallFix p m c cc nL s args wsL_law own) (hM : Met l y (wy_ y bytes maxL ret) rm (kPc D ty wc H.size As) (kRi r0) 0 0 noF) (hl : va_Nw (.methodLinkNest own index y host) s) (h2 : Cond.initialized y.cls ∈ wsL_law) (h3 : Cond.code y bytes maxL ret ∈ wsL_law) (h4 : Cond.static y ∈ wsL_law) (hy : KY y n) (hrc : rm.cells = 0) (hrs : rm.slots = 0) (hR : rm.frames + 1 ≤ R.frames ∧ 8 + (maxL + 11) + rm.locals ≤ R.locals)
    (hK : va_K D vwCl ty s) (hE : kEn s) (hP : va_P D vwCl wc H) (hD : va_D A0 wc) (hn : As.length = n) (hsz : ls.size = nL) (hst : st0 = As.reverse ++ rest) (hrest : (rest.map fun v => v.category).sum ≤ 8)
    (hdg : decode cc pc = .ok (.invokestatic index, 3)) (hf : cells ≤ R.cells ∧ slots ≤ R.slots)
    (kk : W p l e R s m args below meth c H locs cells slots Q (F0 m (pc + 3) ls (.int r0 :: rest))) : W p l e R s m args below meth c H locs cells slots Q (F0 m pc ls st0) :=
  vp_callSi (va_toCR (va_runSN S hM ⟨k_cN S.2.2.2.2 hl h2 h3 hy hrc hrs hR, S.2.2.2.2 _ h4, trivial⟩ ⟨kPc_blind, kPc_at hK hE hP (hD.weaken fun _ _ _ _ => trivial)⟩ rfl hn hsz hst (lv_room hrest) hdg hf)) (fun r hr => by subst hr; exact kk)
/-- a call of a method that writes its world and answers an int -/
theorem k_miV {r0 : Int32} (S : CallFix p m c cc nL s args wsL_law own) (hM : Met l y (wy_ y bytes maxL ret) rm (kPc D ty wc H.size (.ref b :: As)) (kMi D wc wc' H.size r0) 0 0 (va_A wc H.size)) (hlk : KV own index C y bytes maxL ret n) (hrc : rm.cells = 0) (hrs : rm.slots = 0) (hR : rm.frames + 1 ≤ R.frames ∧ 8 + (maxL + 11) + rm.locals ≤ R.locals)
    (hrv : ∃ cell : Cell, H[b]? = some cell ∧ cell.vm.isStatics = false ∧ s.vm.findClass C = some cell.cls) (hK : va_K D vwCl ty s) (hE : kEn s) (hP : va_P D vwCl (w1 ++ (wc ++ w3)) H) (hD : va_D A0 (w1 ++ (wc ++ w3))) (hS : va_S A0 H0 H locs) (hA : ∀ q, H0.size ≤ q → A0 q) (ha : wc'.map Prod.fst = wc.map Prod.fst)
    (hn : As.length = n) (hsz : ls.size = nL) (hst : st0 = As.reverse ++ .ref b :: rest) (hrest : (rest.map fun v => v.category).sum ≤ 8)
    (hdg : decode cc pc = .ok (.invokevirtual index, 3)) (hf : cells ≤ R.cells ∧ slots ≤ R.slots)
    (kk : ∀ (H1 : Heap) (locs1 : List Loc), H.size ≤ H1.size → va_P D vwCl (w1 ++ (wc' ++ w3)) H1 → va_D A0 (w1 ++ (wc' ++ w3)) → va_S A0 H0 H1 locs1 → W p l e R s m args below meth c H1 locs1 cells slots Q (F0 m (pc + 3) ls (.int r0 :: rest))) : W p l e R s m args below meth c H locs cells slots Q (F0 m pc ls st0) := by
  have hF := k_free hD hS hA
  refine va_calli (va_runV S hM (k_cV S.2.2.2.2 hlk hrc hrs hR) ⟨kPc_blind, hrv, kPc_at hK hE (va_P_midL hP) ((va_D_midL hD).weaken fun _ _ _ _ => trivial)⟩ rfl hn hsz hst (lv_room hrest) hdg hf) hS (fun q _ h => hF q h) hF (fun r u t H1 locs1 ht _ hr hB hz hk hS1 => ?_)
  subst hr
  rw [ht] at hB
  obtain ⟨h1, h2⟩ := k_join hP hD ha hk hB
  exact kk H1 locs1 hz h1 h2 hS1
theorem k_mlV {r0 : Int64} (S : CallFix p m c cc nL s args wsL_law own) (hM : Met l y (wy_ y bytes maxL ret) rm (kPc D ty wc H.size (.ref b :: As)) (kMl D wc wc' H.size r0) 0 0 (va_A wc H.size)) (hlk : KV own index C y bytes maxL ret n) (hrc : rm.cells = 0) (hrs : rm.slots = 0) (hR : rm.frames + 1 ≤ R.frames ∧ 8 + (maxL + 11) + rm.locals ≤ R.locals)
    (hrv : ∃ cell : Cell, H[b]? = some cell ∧ cell.vm.isStatics = false ∧ s.vm.findClass C = some cell.cls) (hK : va_K D vwCl ty s) (hE : kEn s) (hP : va_P D vwCl (w1 ++ (wc ++ w3)) H) (hD : va_D A0 (w1 ++ (wc ++ w3))) (hS : va_S A0 H0 H locs) (hA : ∀ q, H0.size ≤ q → A0 q) (ha : wc'.map Prod.fst = wc.map Prod.fst)
    (hn : As.length = n) (hsz : ls.size = nL) (hst : st0 = As.reverse ++ .ref b :: rest) (hrest : (rest.map fun v => v.category).sum ≤ 8)
    (hdg : decode cc pc = .ok (.invokevirtual index, 3)) (hf : cells ≤ R.cells ∧ slots ≤ R.slots)
    (kk : ∀ (H1 : Heap) (locs1 : List Loc), H.size ≤ H1.size → va_P D vwCl (w1 ++ (wc' ++ w3)) H1 → va_D A0 (w1 ++ (wc' ++ w3)) → va_S A0 H0 H1 locs1 → W p l e R s m args below meth c H1 locs1 cells slots Q (F0 m (pc + 3) ls (.long r0 :: rest))) : W p l e R s m args below meth c H locs cells slots Q (F0 m pc ls st0) := by
  have hF := k_free hD hS hA
  refine va_calll (va_runV S hM (k_cV S.2.2.2.2 hlk hrc hrs hR) ⟨kPc_blind, hrv, kPc_at hK hE (va_P_midL hP) ((va_D_midL hD).weaken fun _ _ _ _ => trivial)⟩ rfl hn hsz hst (lv_room hrest) hdg hf) hS (fun q _ h => hF q h) hF (fun r u t H1 locs1 ht _ hr hB hz hk hS1 => ?_)
  subst hr
  rw [ht] at hB
  obtain ⟨h1, h2⟩ := k_join hP hD ha hk hB
  exact kk H1 locs1 hz h1 h2 hS1
theorem k_mvV (S : CallFix p m c cc nL s args wsL_law own) (hM : Met l y (wy_ y bytes maxL ret) rm (kPc D ty wc H.size (.ref b :: As)) (kMv D wc wc' H.size) 0 0 (va_A wc H.size)) (hlk : KV own index C y bytes maxL ret n) (hrc : rm.cells = 0) (hrs : rm.slots = 0) (hR : rm.frames + 1 ≤ R.frames ∧ 8 + (maxL + 11) + rm.locals ≤ R.locals)
    (hrv : ∃ cell : Cell, H[b]? = some cell ∧ cell.vm.isStatics = false ∧ s.vm.findClass C = some cell.cls) (hK : va_K D vwCl ty s) (hE : kEn s) (hP : va_P D vwCl (w1 ++ (wc ++ w3)) H) (hD : va_D A0 (w1 ++ (wc ++ w3))) (hS : va_S A0 H0 H locs) (hA : ∀ q, H0.size ≤ q → A0 q) (ha : wc'.map Prod.fst = wc.map Prod.fst)
    (hn : As.length = n) (hsz : ls.size = nL) (hst : st0 = As.reverse ++ .ref b :: rest) (hrest : (rest.map fun v => v.category).sum ≤ 8)
    (hdg : decode cc pc = .ok (.invokevirtual index, 3)) (hf : cells ≤ R.cells ∧ slots ≤ R.slots)
    (kk : ∀ (H1 : Heap) (locs1 : List Loc), H.size ≤ H1.size → va_P D vwCl (w1 ++ (wc' ++ w3)) H1 → va_D A0 (w1 ++ (wc' ++ w3)) → va_S A0 H0 H1 locs1 → W p l e R s m args below meth c H1 locs1 cells slots Q (F0 m (pc + 3) ls rest)) : W p l e R s m args below meth c H locs cells slots Q (F0 m pc ls st0) := by
  have hF := k_free hD hS hA
  refine va_callv (va_runV S hM (k_cV S.2.2.2.2 hlk hrc hrs hR) ⟨kPc_blind, hrv, kPc_at hK hE (va_P_midL hP) ((va_D_midL hD).weaken fun _ _ _ _ => trivial)⟩ rfl hn hsz hst (lv_room hrest) hdg hf) hS (fun q _ h => hF q h) hF (fun u t H1 locs1 ht _ hr hB hz hk hS1 => ?_)
  rw [ht] at hB
  obtain ⟨h1, h2⟩ := k_join hP hD ha hk hB
  exact kk H1 locs1 hz h1 h2 hS1
/-- ends -/
theorem k_eRi {r0 v : Int32} (hexec : p.tables.exec = Jvm.exec) (hb : c.code = cc) (hr : meth.sig.returnType = some .int) (hlocks : meth.locks = false) (hv : v = r0) (hdg : decode cc pc = .ok (.ireturn, 1)) :
    W p l e R s m args below meth c s.heap [] cells slots (MQ below (kRi r0) args s cells slots noF) (F0 m pc ls [.int v]) :=
  W.iret hexec hb hr (fun _ ht _ => ⟨v, rfl, hv, ht⟩) (fun _ h => absurd h List.not_mem_nil) hdg
theorem k_eRz {r0 v : Int32} {tz : FieldType} (hexec : p.tables.exec = Jvm.exec) (hb : c.code = cc) (hr : meth.sig.returnType = some tz) (hlocks : meth.locks = false) (hz : narrow tz (.int v) = .int v) (hv : v = r0) (hdg : decode cc pc = .ok (.ireturn, 1)) :
    W p l e R s m args below meth c s.heap [] cells slots (MQ below (kRi r0) args s cells slots noF) (F0 m pc ls [.int v]) :=
  W.zret hexec hb hr hz (fun _ ht _ => ⟨v, rfl, hv, ht⟩) (fun _ h => absurd h List.not_mem_nil) hdg
theorem k_eRl {r0 v : Int64} (hexec : p.tables.exec = Jvm.exec) (hb : c.code = cc) (hr : meth.sig.returnType = some .long) (hlocks : meth.locks = false) (hv : v = r0) (hdg : decode cc pc = .ok (.lreturn, 1)) :
    W p l e R s m args below meth c s.heap [] cells slots (MQ below (kRl r0) args s cells slots noF) (F0 m pc ls [.long v]) :=
  W.lret hexec hb hr (fun _ ht _ => ⟨v, rfl, hv, ht⟩) (fun _ h => absurd h List.not_mem_nil) hdg
theorem k_eRd {r0 v : UInt64} (hexec : p.tables.exec = Jvm.exec) (hb : c.code = cc) (hr : meth.sig.returnType = some .double) (hlocks : meth.locks = false) (hv : v = r0) (hdg : decode cc pc = .ok (.dreturn, 1)) :
    W p l e R s m args below meth c s.heap [] cells slots (MQ below (kRd r0) args s cells slots noF) (F0 m pc ls [.double v]) :=
  W.dret hexec hb hr (fun _ ht _ => ⟨v, rfl, hv, ht⟩) (fun _ h => absurd h List.not_mem_nil) hdg
theorem k_eMi {r0 v : Int32} (hexec : p.tables.exec = Jvm.exec) (hb : c.code = cc) (hr : meth.sig.returnType = some .int) (hlocks : meth.locks = false) (hP : va_P D vwCl wc' H) (hS : va_S (va_A wc s.heap.size) s.heap H locs) (hv : v = r0) (hdg : decode cc pc = .ok (.ireturn, 1)) :
    W p l e R s m args below meth c H locs cells slots (MQ below (kMi D wc wc' s.heap.size r0) args s cells slots (va_A wc s.heap.size)) (F0 m pc ls [.int v]) :=
  W.iret hexec hb hr (fun t ht _ => ⟨⟨v, (), rfl, hv, (show va_P D vwCl wc' t.heap by rw [ht]; exact hP)⟩, hS.F ht⟩) hS.2.2 hdg
theorem k_eMz {r0 v : Int32} {tz : FieldType} (hexec : p.tables.exec = Jvm.exec) (hb : c.code = cc) (hr : meth.sig.returnType = some tz) (hlocks : meth.locks = false) (hz : narrow tz (.int v) = .int v) (hP : va_P D vwCl wc' H) (hS : va_S (va_A wc s.heap.size) s.heap H locs) (hv : v = r0) (hdg : decode cc pc = .ok (.ireturn, 1)) :
    W p l e R s m args below meth c H locs cells slots (MQ below (kMi D wc wc' s.heap.size r0) args s cells slots (va_A wc s.heap.size)) (F0 m pc ls [.int v]) :=
  W.zret hexec hb hr hz (fun t ht _ => ⟨⟨v, (), rfl, hv, (show va_P D vwCl wc' t.heap by rw [ht]; exact hP)⟩, hS.F ht⟩) hS.2.2 hdg
theorem k_eMl {r0 v : Int64} (hexec : p.tables.exec = Jvm.exec) (hb : c.code = cc) (hr : meth.sig.returnType = some .long) (hlocks : meth.locks = false) (hP : va_P D vwCl wc' H) (hS : va_S (va_A wc s.heap.size) s.heap H locs) (hv : v = r0) (hdg : decode cc pc = .ok (.lreturn, 1)) :
    W p l e R s m args below meth c H locs cells slots (MQ below (kMl D wc wc' s.heap.size r0) args s cells slots (va_A wc s.heap.size)) (F0 m pc ls [.long v]) :=
  W.lret hexec hb hr (fun t ht _ => ⟨⟨v, (), rfl, hv, (show va_P D vwCl wc' t.heap by rw [ht]; exact hP)⟩, hS.F ht⟩) hS.2.2 hdg
theorem k_eMv (hexec : p.tables.exec = Jvm.exec) (hb : c.code = cc) (hr : meth.sig.returnType = none) (hlocks : meth.locks = false) (hP : va_P D vwCl wc' H) (hS : va_S (va_A wc s.heap.size) s.heap H locs) (hdg : decode cc pc = .ok (.return_, 1)) :
    W p l e R s m args below meth c H locs cells slots (MQ below (kMv D wc wc' s.heap.size) args s cells slots (va_A wc s.heap.size)) (F0 m pc ls []) :=
  W.vret hexec hb hr (fun t ht _ => ⟨⟨(), rfl, trivial, (show va_P D vwCl wc' t.heap by rw [ht]; exact hP)⟩, hS.F ht⟩) hS.2.2 hdg
end KROW
theorem va_S_self {A : Nat → Prop} {H : Heap} : va_S A H H [] := va_S.rf
/-- a contract out of a walk from its entry -/
theorem k_ofW {l : Launch} {y : MethodName} {rm : Room} {D : va_G} {ty : List (ClassId × FieldType)} {wc : va_W} {sz : Nat} {av : List Value} {Qc : Array Value → State → Outcome → State → Prop} {mc ms : Nat} {free : Addr → Prop} {cc : ByteArray} {maxL : Nat} {ret : Option FieldType}
    (hy : plainName y.cls = true) (hlen : (lg_sl av).length ≤ maxL)
    (body : ∀ (p : Program) (e : Env) (s : State) (m : MethodId) (args : Array Value) (below : List Frame) (meth : Method) (c : Code), p.tables.exec = Jvm.exec → c.code = cc → meth.sig.returnType = ret → c.maxLocals = maxL → (∀ w ∈ wsL_law, w.before args s = true) → s.vm.findClass y.cls = some m.cls → meth.locks = false → meth.name = y.name →
      s.heap.size = sz → va_P D vwCl wc s.heap → va_K D vwCl ty s → va_D (va_A wc sz) wc → kEn s → ∀ ls : Array Slot, lv_has ls maxL (lv_args 0 av) → W p l e rm s m args below meth c s.heap [] 0 0 (MQ below Qc args s mc ms free) (F0 m 0 ls [])) : Met l y (wy_ y cc maxL ret) rm (kPc D ty wc sz av) Qc mc ms free := by
  refine Met.ofW (cc := cc) (maxL := maxL) (ret := ret) hy rfl ?_
  intro p e s m args below meth c s₁ B hml hv
  obtain ⟨rfl, hsz, hP, hK, hD, hE⟩ := hv
  rw [lg_entry_eq]
  exact body p e s m _ below meth c B.exec B.bytes B.returns hml (fun w hw => atoms_spec (ws := wy_ y cc maxL ret) B.pre w (List.mem_cons_of_mem _ hw)) (findClass_of_methodNamed B.named) B.notSynchronized (name_of_methodNamed B.named B.method).1 hsz hP hK hD.self hE _ (lv_entry av hlen)
end
section
/-! the mathematical value of a station, row by row (0 settings; 1 day, money, hoses, tests, bursts, paid; 2 wanted; 3 kind, 4 length, 5 coupling, 6 made, 7 wear, 8 last day of the test, 9 place, 10 day back), and what the methods answer of it -/
abbrev NN : Type := Nat → Nat → Int32
def bI (b : Bool) : Int32 := cond b 1 0
theorem bI_t {P : Prop} [Decidable P] (h : P) : bI (decide P) = 1 := by simp [bI, h]
theorem bI_f {P : Prop} [Decidable P] (h : ¬ P) : bI (decide P) = 0 := by simp [bI, h]
theorem bI_01 (b : Bool) : bI b = 0 ∨ bI b = 1 := by cases b <;> simp [bI]
def mx0 (x : Int32) : Int32 := if 0 < x then x else 0
def mn (x y : Int32) : Int32 := if y < x then y else x
def p_life (k : Int32) : Int32 := if k = 0 then 900 else if k = 1 then 1500 else 1200
def p_force (k : Int32) : Int32 := if k = 0 then 100 else if k = 1 then 150 else 200
def p_cost (k n : Int32) : Int32 := if k = 0 then 2 * n else if k = 1 then 3 * n else 4 * n + 10
def p_str (k w g : Int32) : Int32 := if k = 0 then mx0 (16 - w / 10 - g) else if k = 1 then mx0 (20 - w / 8 - g / 2) else mx0 (24 - w / 5)
def p_strAt (N : NN) (k : Nat) (w : Int32) : Int32 := p_str (N 3 k) w ((N 1 0 - N 6 k) / 100)
def p_reason (N : NN) (k : Nat) : Int32 := if N 9 k = -1 then 1 else if N 9 k = 4 then 2 else if p_life (N 3 k) < N 1 0 - N 6 k then 3 else if N 8 k = -1 ∨ N 8 k < N 1 0 then 4 else 0
def p_price (N : NN) (k : Nat) : Int32 := p_cost (N 3 k) (N 4 k)
def p_can (N : NN) (k n : Int32) : Bool := decide (N 1 2 < 14 ∧ p_cost k n ≤ N 1 1)
/-- the wear behind j steps that held -/
def p_worn (w : Int32) : Nat → Int32
  | 0 => w
  | j + 1 => mn 99 (p_worn w j + 1)
/-- the pressure of step j (from 0) of a test up to P, and how many steps it has -/
def p_sp (P j : Nat) : Nat := if P < 4 * (j + 1) then P else 4 * (j + 1)
def p_S (P : Nat) : Nat := (P + 3) / 4
/-- from step j on, with r steps to go: the first one that does not hold -/
def p_go (N : NN) (k P : Nat) : Nat → Nat → Nat
  | 0, j => j
  | r + 1, j => if p_strAt N k (p_worn (N 7 k) j) < nI (p_sp P j) then j else p_go N k P r (j + 1)
def p_held (N : NN) (k P : Nat) : Nat := p_go N k P (p_S P) 0
def p_out (N : NN) (k P : Nat) : Int32 := if p_held N k P < p_S P then nI (p_held N k P + 100) else nI (p_held N k P)
def p_test (N : NN) (k P : Nat) : NN :=
  let M := up2 (up2 N 7 k (p_worn (N 7 k) (p_held N k P))) 1 3 (N 1 3 + 1)
  if p_held N k P < p_S P then up2 (up2 M 1 4 (M 1 4 + 1)) 9 k (-1) else if N 0 0 ≤ nI P then up2 M 8 k (N 1 0 + p_force (N 3 k)) else M
/-- the greatest pressure below q + 4 that does not burst it -/
def p_sf (N : NN) (k : Nat) : Nat → Int32
  | 0 => -1
  | q + 1 => if p_held N k (q + 4) = p_S (q + 4) then nI (q + 4) else p_sf N k q
def p_safe (N : NN) (k : Nat) : Int32 := p_sf N k 21
def p_tried (N : NN) (k P : Nat) : Int32 := if N 9 k = -1 then -1 else p_out N k P
def p_safeG (N : NN) (k : Nat) : Int32 := if N 9 k = -1 then -1 else p_safe N k
/-- a day passes: those that are lent come back, those on trucks wear, money comes -/
def p_tb (N : NN) : Nat → NN
  | 0 => N
  | k + 1 => if p_tb N k 9 k = 4 ∧ p_tb N k 10 k = p_tb N k 1 0 then up2 (up2 (p_tb N k) 9 k 3) 10 k (-1) else p_tb N k
def p_wt (N : NN) : Nat → NN
  | 0 => N
  | k + 1 => if (0 ≤ p_wt N k 9 k ∧ p_wt N k 9 k ≤ 2) ∧ p_reason (p_wt N k) k = 0 then up2 (p_wt N k) 7 k (mn 99 (p_wt N k 7 k + 1)) else p_wt N k
def p_rem (x m : Int32) : Int32 := x - x / m * m
def p_mon (N : NN) : NN := if p_rem (N 1 0) 30 = 0 then up2 N 1 1 (mn 9999 (N 1 1 + N 0 2)) else N
def p_wtd (N : NN) (n : Nat) : NN := if p_rem (N 1 0) 10 = 0 then p_wt N n else N
def p_day (N : NN) (n : Nat) : NN := p_mon (p_wtd (p_tb (up2 N 1 0 (N 1 0 + 1)) n) n)
def p_days (N : NN) (n : Nat) : Nat → NN
  | 0 => N
  | j + 1 => p_day (p_days N n j) n
/-- counts -/
def p_at (N : NN) (w : Int32) : Nat → Int32
  | 0 => 0
  | k + 1 => if N 9 k = w then p_at N w k + 1 else p_at N w k
def p_ra (N : NN) (w : Int32) : Nat → Int32
  | 0 => 0
  | k + 1 => if N 9 k = w ∧ p_reason N k = 0 then p_ra N w k + 1 else p_ra N w k
def p_rh (N : NN) : Nat → Int32
  | 0 => 0
  | k + 1 => if p_reason N k = 0 then p_rh N k + 1 else p_rh N k
/-- a line: metres, adapters, mask, the last coupling -/
def ln0 : Nat → Int32 := fun q => cond (Nat.beq q 3) (-1) 0
def p_put (v : Nat → Int32) (h len cp : Int32) : Nat → Int32 := us (us (us v 3 cp) 0 (v 0 + len)) 2 (v 2 ||| (1 <<< (h &&& 31)))
def p_join (v : Nat → Int32) (h len cp ad : Int32) : Nat → Int32 :=
  if v 3 = -1 ∨ v 3 = cp then p_put v h len cp else if ad ≤ v 1 then v else p_put (us v 1 (v 1 + 1)) h len cp
def p_lay (N : NN) (t mo : Int32) : Nat → Nat → Int32
  | 0 => ln0
  | k + 1 => if (N 9 k = t ∨ nI k = mo) ∧ p_reason N k = 0 then p_join (p_lay N t mo k) (nI k) (N 4 k) (N 5 k) (N 0 1) else p_lay N t mo k
def p_whole (N : NN) (t : Nat) (mo : Int32) (n : Nat) : Bool := decide (N 2 t ≤ p_lay N (nI t) mo n 0)
def p_wtr (N : NN) (n : Nat) : Nat → Int32
  | 0 => 0
  | t + 1 => if N 2 t ≤ p_lay N (nI t) (-1) n 0 then p_wtr N n t + 1 else p_wtr N n t
def p_wtv (N : NN) (n : Nat) (v : Nat → Int32) : Nat → Nat → Int32
  | 0 => v
  | t + 1 => p_lay N (nI t) (-1) n
/-- the cheapest one that helps -/
def p_ch (N : NN) (t n : Nat) : Nat → Int32
  | 0 => -1
  | k + 1 => if ((N 9 k = 3 ∧ p_reason N k = 0) ∧ N 2 t ≤ p_lay N (nI t) (nI k) n 0) ∧ (p_ch N t n k = -1 ∨ p_price N k < p_price N (p_ch N t n k).toNatClampNeg) then nI k else p_ch N t n k
def p_chv (N : NN) (t n : Nat) : Nat → Nat → Int32
  | 0 => p_lay N (nI t) (-1) n
  | k + 1 => if N 9 k = 3 ∧ p_reason N k = 0 then p_lay N (nI t) (nI k) n else p_chv N t n k
def p_help (N : NN) (t n : Nat) : Int32 := if N 2 t ≤ p_lay N (nI t) (-1) n 0 then -1 else p_ch N t n n
def p_helpv (N : NN) (t n : Nat) : Nat → Int32 := if N 2 t ≤ p_lay N (nI t) (-1) n 0 then p_lay N (nI t) (-1) n else p_chv N t n n
/-- the first lapse -/
def p_dl (N : NN) (k : Nat) : Int32 := mn (N 8 k) (N 6 k + p_life (N 3 k)) + 1 - N 1 0
def p_fl (N : NN) : Nat → Int32
  | 0 => -1
  | k + 1 => if p_reason N k = 0 then (if p_fl N k = -1 then p_dl N k else mn (p_fl N k) (p_dl N k)) else p_fl N k
/-- hoses come -/
def p_add (N : NN) (n : Nat) (k len cp pl : Int32) : NN :=
  up2 (up2 (up2 (up2 (up2 (up2 (up2 (up2 (up2 (up2 (up2 N 3 n k) 4 n len) 5 n cp) 6 n (N 1 0)) 7 n 0) 8 n (-1)) 9 n pl) 10 n (-1)) 1 2 (N 1 2 + 1)) 1 1 (N 1 1 - p_cost k len)) 1 5 (N 1 5 + p_cost k len)
def p_renew (N : NN) (n k : Nat) : NN := p_add (up2 N 9 k (-1)) n (N 3 k) (N 4 k) (N 5 k) (N 9 k)
def p_lend (N : NN) (k : Nat) (days : Int32) : NN := up2 (up2 N 9 k 4) 10 k (N 1 0 + days)
/-- the looks -/
def p_hose (N : NN) (k what : Nat) : Int32 := match what with
  | 0 => N 3 k
  | 1 => N 4 k
  | 2 => N 5 k
  | 3 => N 6 k
  | 4 => N 7 k
  | 5 => p_strAt N k (N 7 k)
  | 6 => N 8 k
  | 7 => N 9 k
  | 8 => N 10 k
  | _ => p_reason N k
def p_truck (N : NN) (n t what : Nat) : Int32 := match what with
  | 0 => N 2 t
  | 1 => p_lay N (nI t) (-1) n 0
  | 2 => p_at N (nI t) n
  | 3 => p_ra N (nI t) n
  | 4 => p_lay N (nI t) (-1) n 1
  | 5 => p_lay N (nI t) (-1) n 2
  | _ => bI (p_whole N t (-1) n)
def p_count (N : NN) (n : Nat) (kept : Int32) (what : Nat) : Int32 := match what with
  | 0 => N 1 0
  | 1 => N 1 1
  | 2 => N 1 2
  | 3 => p_at N (-1) n
  | 4 => p_rh N n
  | 5 => p_at N 4 n
  | 6 => p_wtr N n 3
  | 7 => N 1 3
  | 8 => N 1 4
  | 9 => N 1 5
  | _ => kept
/-- the characters' automaton: 0 kind, 1 length, 2 second digit, 3 zero or coupling, 4 coupling, 5 complete, -1 nothing goes on -/
def p_dig (c : Int32) : Bool := decide (48 ≤ c ∧ c ≤ 57)
def p_kd (c : Int32) : Int32 := if c = 110 then 0 else if c = 114 then 1 else if c = 108 then 2 else -1
def p_cp (c : Int32) : Int32 := if 97 ≤ c ∧ c ≤ 99 then c - 97 else -1
def p_s1 (c : Int32) : Int32 := if ¬ (48 ≤ c ∧ c ≤ 57) ∨ c = 48 then -1 else if c = 53 then 3 else if c < 53 then 2 else 4
def p_s4 (c : Int32) : Int32 := if p_cp c = -1 then -1 else 5
def p_sb (st c : Int32) : Int32 := if st = 0 then (if p_kd c = -1 then -1 else 1) else if st = 1 then p_s1 c else if st = 2 then (if 48 ≤ c ∧ c ≤ 57 then 4 else -1) else if st = 3 then (if c = 48 then 4 else p_s4 c) else if st = 4 then p_s4 c else if c = 44 then 0 else -1
/-- the state behind i characters (-1 stays) -/
def p_au (T : Nat → Int32) : Nat → Int32
  | 0 => 0
  | i + 1 => if p_au T i = -1 then -1 else p_sb (p_au T i) (T i)
/-- the first place, from i on with r to go, at which nothing goes on -/
def p_fe (T : Nat → Int32) : Nat → Nat → Nat
  | 0, i => i
  | r + 1, i => if p_au T (i + 1) = -1 then i else p_fe T r (i + 1)
/-- what is bought behind i characters: stopped or not, how many, kind, length, the station -/
def p_ad (N : NN) (k len cp pl : Int32) : NN := p_add N (N 1 2).toNatClampNeg k len cp pl
def p_bp (T : Nat → Int32) (N : NN) : Nat → Bool × Int32 × Int32 × Int32 × NN
  | 0 => (false, 0, 0, 0, N)
  | i + 1 => match p_bp T N i with
    | (true, b, k, len, M) => (true, b, k, len, M)
    | (false, b, k, len, M) => if ¬ p_kd (T i) = -1 then (false, b, p_kd (T i), 0, M) else if 48 ≤ T i ∧ T i ≤ 57 then (false, b, k, 10 * len + T i - 48, M) else if ¬ p_cp (T i) = -1 then (if p_can M k len = true then (false, b + 1, k, len, p_ad M k len (p_cp (T i)) 3) else (true, b, k, len, M)) else (false, b, k, len, M)
end
section
/-! what the cells hold: a station, its line, the text, the head of the class, the reference; rows that read and write them -/
abbrev kTy (cI cS cL : ClassId) : List (ClassId × FieldType) := [(cI, .int), (cS, .object RX3), (cL, .long)]
abbrev stA (cI : ClassId) (a : Nat → Nat) (N : NN) : va_W := [(a 0, .inr (2, [.int (N 1 0), .int (N 1 1), .int (N 1 2), .int (N 1 3), .int (N 1 4), .int (N 1 5), .ref (a 1), .ref (a 2), .ref (a 3), .ref (a 4), .ref (a 5), .ref (a 6), .ref (a 7), .ref (a 8), .ref (a 9), .ref (a 10), .ref (a 11)])), (a 1, .inl (cI, 3, .inl (N 2))), (a 2, .inl (cI, 3, .inl (N 0))), (a 3, .inl (cI, 14, .inl (N 3))), (a 4, .inl (cI, 14, .inl (N 4))), (a 5, .inl (cI, 14, .inl (N 5))), (a 6, .inl (cI, 14, .inl (N 6))), (a 7, .inl (cI, 14, .inl (N 7))), (a 8, .inl (cI, 14, .inl (N 8))), (a 9, .inl (cI, 14, .inl (N 9))), (a 10, .inl (cI, 14, .inl (N 10)))]
abbrev lnW (a : Nat → Nat) (v : Nat → Int32) : va_W := [(a 11, .inr (1, [.int (v 0), .int (v 1), .int (v 2), .int (v 3)]))]
abbrev stW (cI : ClassId) (a : Nat → Nat) (N : NN) (v : Nat → Int32) : va_W := stA cI a N ++ lnW a v
abbrev xH (cS : ClassId) (x n : Nat → Nat) (r : Nat → Nat → Nat) (lat cnt : Int32) : va_W := [(x 0, .inr (3, [.ref (n 0), .ref (x 1), .int lat, .int cnt, .ref (x 2)])), (x 1, .inl (cS, 6, .inr (.inr (.inr (.inr (fun i => some (r i 0)))))))]
abbrev txW (cI : ClassId) (x : Nat → Nat) (sz : Int32) (T : Nat → Int32) : va_W := [(x 2, .inr (0, [.ref (x 3), .int sz])), (x 3, .inl (cI, 60, .inl T))]
def flat (N : NN) (q : Nat) : Int32 := if q < 3 then N 0 q else if q < 9 then N 1 (q - 3) else if q < 12 then N 2 (q - 9) else N (3 + (q - 12) % 8) ((q - 12) / 8)
abbrev mdW (cI : ClassId) (a : Nat → Nat) (N : NN) (P T U v : Nat → Int32) : va_W := [(a 0, .inr (4, [.ref (a 1), .ref (a 2), .int (v 2), .ref (a 3), .int (v 4), .int (v 5), .int (v 6), .int (v 7), .ref (a 4), .int (v 9), .int (v 10), .int (v 11), .int (v 12), .int (v 13)])), (a 1, .inl (cI, 124, .inl (flat N))), (a 2, .inl (cI, 744, .inl P)), (a 3, .inl (cI, 60, .inl T)), (a 4, .inl (cI, 48, .inl U))]
theorem up2_at (N : NN) (i j : Nat) (x : Int32) (q d : Nat) : up2 N i j x q d = if q = i ∧ d = j then x else N q d := by
  by_cases h : q = i
  · subst h
    rw [up2_row]
    by_cases hd : d = j
    · simp [upd, hd]
    · simp [upd, hd]
  · rw [up2_ne N j x h]
    simp [h]
theorem flat_hose (N : NN) (k w : Nat) (hw : w < 8) : flat N (12 + 8 * k + w) = N (3 + w) k := by
  unfold flat
  rw [if_neg (by omega), if_neg (by omega), if_neg (by omega), show (12 + 8 * k + w - 12) % 8 = w by omega, show (12 + 8 * k + w - 12) / 8 = k by omega]
theorem flat_want (N : NN) (t : Nat) (h : t < 3) : flat N (9 + t) = N 2 t := by
  unfold flat
  rw [if_neg (by omega), if_neg (by omega), if_pos (by omega), show 9 + t - 9 = t by omega]
theorem flat_set (N : NN) (t : Nat) (h : t < 3) : flat N (0 + t) = N 0 t := by
  unfold flat
  rw [if_pos (by omega), show 0 + t = t by omega]
theorem flat_upd (N : NN) (q : Nat) (x : Int32) : upd (flat N) q x = flat (up2 N (if q < 3 then 0 else if q < 9 then 1 else if q < 12 then 2 else 3 + (q - 12) % 8) (if q < 3 then q else if q < 9 then q - 3 else if q < 12 then q - 9 else (q - 12) / 8) x) := by
  funext j
  simp only [upd, flat, up2_at]
  by_cases hj : j = q
  · subst hj
    by_cases h1 : j < 3
    · simp [h1]
    · by_cases h2 : j < 9
      · simp [h1, h2]
      · by_cases h3 : j < 12
        · simp [h1, h2, h3]
        · simp [h1, h2, h3]
  · rw [if_neg hj]
    by_cases h1 : j < 3
    · rw [if_pos h1, if_pos h1, if_neg]
      intro h
      by_cases g1 : q < 3
      · simp only [g1, if_true] at h; omega
      · by_cases g2 : q < 9
        · simp only [g1, g2, if_true, if_false] at h; omega
        · by_cases g3 : q < 12
          · simp only [g1, g2, g3, if_true, if_false] at h; omega
          · simp only [g1, g2, g3, if_false] at h; omega
    · by_cases h2 : j < 9
      · rw [if_neg h1, if_pos h2, if_neg h1, if_pos h2, if_neg]
        intro h
        by_cases g1 : q < 3
        · simp only [g1, if_true] at h; omega
        · by_cases g2 : q < 9
          · simp only [g1, g2, if_true, if_false] at h; omega
          · by_cases g3 : q < 12
            · simp only [g1, g2, g3, if_true, if_false] at h; omega
            · simp only [g1, g2, g3, if_false] at h; omega
      · by_cases h3 : j < 12
        · rw [if_neg h1, if_neg h2, if_pos h3, if_neg h1, if_neg h2, if_pos h3, if_neg]
          intro h
          by_cases g1 : q < 3
          · simp only [g1, if_true] at h; omega
          · by_cases g2 : q < 9
            · simp only [g1, g2, if_true, if_false] at h; omega
            · by_cases g3 : q < 12
              · simp only [g1, g2, g3, if_true, if_false] at h; omega
              · simp only [g1, g2, g3, if_false] at h; omega
        · rw [if_neg h1, if_neg h2, if_neg h3, if_neg h1, if_neg h2, if_neg h3, if_neg]
          intro h
          by_cases g1 : q < 3
          · simp only [g1, if_true] at h; omega
          · by_cases g2 : q < 9
            · simp only [g1, g2, if_true, if_false] at h; omega
            · by_cases g3 : q < 12
              · simp only [g1, g2, g3, if_true, if_false] at h; omega
              · simp only [g1, g2, g3, if_false] at h; omega
theorem flat_putH (N : NN) (k w : Nat) (x : Int32) (hw : w < 8) : upd (flat N) (12 + 8 * k + w) x = flat (up2 N (3 + w) k x) := by
  rw [flat_upd, if_neg (by omega), if_neg (by omega), if_neg (by omega), if_neg (by omega), if_neg (by omega), if_neg (by omega), show (12 + 8 * k + w - 12) % 8 = w by omega, show (12 + 8 * k + w - 12) / 8 = k by omega]
theorem flat_putW (N : NN) (t : Nat) (x : Int32) (h : t < 3) : upd (flat N) (9 + t) x = flat (up2 N 2 t x) := by
  rw [flat_upd, if_neg (by omega), if_neg (by omega), if_pos (by omega), if_neg (by omega), if_neg (by omega), if_pos (by omega), show 9 + t - 9 = t by omega]
theorem flat_putS (N : NN) (t : Nat) (x : Int32) (h : t < 3) : upd (flat N) (0 + t) x = flat (up2 N 0 t x) := by
  rw [flat_upd, if_pos (by omega), if_pos (by omega), show 0 + t = t by omega]
theorem flat_put0 (N : NN) (x : Int32) : upd (flat N) 0 x = flat (up2 N 0 0 x) := flat_upd N 0 x
theorem flat_put1 (N : NN) (x : Int32) : upd (flat N) 1 x = flat (up2 N 0 1 x) := flat_upd N 1 x
theorem flat_put2 (N : NN) (x : Int32) : upd (flat N) 2 x = flat (up2 N 0 2 x) := flat_upd N 2 x
theorem flat_put3 (N : NN) (x : Int32) : upd (flat N) 3 x = flat (up2 N 1 0 x) := flat_upd N 3 x
theorem flat_put4 (N : NN) (x : Int32) : upd (flat N) 4 x = flat (up2 N 1 1 x) := flat_upd N 4 x
theorem flat_put5 (N : NN) (x : Int32) : upd (flat N) 5 x = flat (up2 N 1 2 x) := flat_upd N 5 x
theorem flat_put6 (N : NN) (x : Int32) : upd (flat N) 6 x = flat (up2 N 1 3 x) := flat_upd N 6 x
theorem flat_put7 (N : NN) (x : Int32) : upd (flat N) 7 x = flat (up2 N 1 4 x) := flat_upd N 7 x
theorem flat_put8 (N : NN) (x : Int32) : upd (flat N) 8 x = flat (up2 N 1 5 x) := flat_upd N 8 x
theorem bI_eq0 {P : Prop} [Decidable P] (h : bI (decide P) = 0) : ¬ P := fun hp => by simp [bI, hp] at h
theorem bI_ne0 {P : Prop} [Decidable P] (h : ¬ bI (decide P) = 0) : P := by
  by_cases hp : P
  · exact hp
  · simp [bI, hp] at h
theorem bI_eqF {b : Bool} (h : bI b = 0) : b = false := by cases b <;> simp_all [bI]
theorem bI_neT {b : Bool} (h : ¬ bI b = 0) : b = true := by cases b <;> simp_all [bI]
theorem bI_nar (b : Bool) : narrow .boolean (.int (bI b)) = .int (bI b) := by cases b <;> rfl
theorem bI_one {b : Bool} (h : b = true) : (1 : Int32) = bI b := by rw [h]; rfl
theorem bI_zero {b : Bool} (h : b = false) : (0 : Int32) = bI b := by rw [h]; rfl
theorem i32_ne {x b : Int32} {z : Int} (hz : b.toInt = z) (h : ¬ x = b) : ¬ z = x.toInt := fun e => h (Int32.toInt_inj.mp (e.symm.trans hz.symm))
theorem k_nilP {D : va_G} {H : Heap} : va_P D vwCl [] H := fun _ _ h => by simp at h
theorem k_nilD {A : Nat → Prop} : va_D A [] := ⟨fun _ _ _ _ h => by simp at h, fun _ _ h => by simp at h⟩
section GF
variable {p : Program} {l : Launch} {e : Env} {R : Room} {s : State} {m : MethodId} {args : Array Value} {below : List Frame} {meth : Method} {c : Code} {H : Heap} {locs : List Loc} {cells slots : Nat} {Q : State → Prop}
variable {cc : ByteArray} {pc : Nat} {ls : Array Slot} {rest : List Value} {D : va_G} {A : Nat → Prop} {a index : Nat} {ty : List (ClassId × FieldType)} {ws : va_W} {H0 : Heap} {own ref : String}
theorem g0 (hx : p.tables.exec = Jvm.exec) (hb : c.code = cc) (hts : ∀ w ∈ wsL_law, w.before args s = true) (hown : s.vm.findClass own = some m.cls) (hK : va_K D vwCl ty s) (hP : va_P D vwCl ws H) (q0 : Nat) {fs : List Value} (he : ws[q0]? = some (a, .inr (0, fs))) (k : Nat) (hk : k < 2) (hlink : Cond.fieldLink own index ref (TX0 k).2.1 (TX0 k).2.2.1 ∈ wsL_law) (hsame : ∀ x, s.fieldFound? (TX0 k).1 (TX0 k).2.1 (TX0 k).2.2.1 = some x → s.fieldFound? ref (TX0 k).2.1 (TX0 k).2.2.1 = some x) {v : Value} (hv : fs[k]? = some v) (hdg : decode cc pc = .ok (.getfield index, 3))
    (kk : W p l e R s m args below meth c H locs cells slots Q (F0 m (pc + 3) ls (v :: rest))) : W p l e R s m args below meth c H locs cells slots Q (F0 m pc ls (.ref a :: rest)) :=
  va_get hx hb hts inlX0 hown hK hP q0 he rfl k hk (hts _ hlink) hsame hv hdg kk
theorem f0 (hx : p.tables.exec = Jvm.exec) (hb : c.code = cc) (hts : ∀ w ∈ wsL_law, w.before args s = true) (hown : s.vm.findClass own = some m.cls) (hK : va_K D vwCl ty s) (hP : va_P D vwCl ws H) (hD : va_D A ws) (hS : va_S A H0 H locs) (q0 : Nat) {fs : List Value} (he : ws[q0]? = some (a, .inr (0, fs))) (k : Nat) (hk : k < 2) (hlink : Cond.fieldLink own index ref (TX0 k).2.1 (TX0 k).2.2.1 ∈ wsL_law) (hsame : ∀ x, s.fieldFound? (TX0 k).1 (TX0 k).2.1 (TX0 k).2.2.1 = some x → s.fieldFound? ref (TX0 k).2.1 (TX0 k).2.2.1 = some x) {v : Value} (hfin : (TX0 k).2.2.2 = false) (hn : narrow (tyX0 k) v = v) (hfit : fits (tyX0 k) v = true) (hl : k < fs.length) (hdg : decode cc pc = .ok (.putfield index, 3))
    (kk : ∀ (H1 : Heap) (locs1 : List Loc), va_P D vwCl (ws.set q0 (a, .inr (0, fs.set k v))) H1 → va_D A (ws.set q0 (a, .inr (0, fs.set k v))) → va_S A H0 H1 locs1 → W p l e R s m args below meth c H1 locs1 cells slots Q (F0 m (pc + 3) ls rest)) : W p l e R s m args below meth c H locs cells slots Q (F0 m pc ls (v :: .ref a :: rest)) :=
  va_put hx hb hts inlX0 tyX0 tyX0_ok nmX0 hown hK hP hD hS q0 he rfl k hk (hts _ hlink) hsame hfin (tyX0_ok k hk) hn hfit hl hdg kk
theorem g2 (hx : p.tables.exec = Jvm.exec) (hb : c.code = cc) (hts : ∀ w ∈ wsL_law, w.before args s = true) (hown : s.vm.findClass own = some m.cls) (hK : va_K D vwCl ty s) (hP : va_P D vwCl ws H) (q0 : Nat) {fs : List Value} (he : ws[q0]? = some (a, .inr (1, fs))) (k : Nat) (hk : k < 4) (hlink : Cond.fieldLink own index ref (TX2 k).2.1 (TX2 k).2.2.1 ∈ wsL_law) (hsame : ∀ x, s.fieldFound? (TX2 k).1 (TX2 k).2.1 (TX2 k).2.2.1 = some x → s.fieldFound? ref (TX2 k).2.1 (TX2 k).2.2.1 = some x) {v : Value} (hv : fs[k]? = some v) (hdg : decode cc pc = .ok (.getfield index, 3))
    (kk : W p l e R s m args below meth c H locs cells slots Q (F0 m (pc + 3) ls (v :: rest))) : W p l e R s m args below meth c H locs cells slots Q (F0 m pc ls (.ref a :: rest)) :=
  va_get hx hb hts inlX2 hown hK hP q0 he rfl k hk (hts _ hlink) hsame hv hdg kk
theorem f2 (hx : p.tables.exec = Jvm.exec) (hb : c.code = cc) (hts : ∀ w ∈ wsL_law, w.before args s = true) (hown : s.vm.findClass own = some m.cls) (hK : va_K D vwCl ty s) (hP : va_P D vwCl ws H) (hD : va_D A ws) (hS : va_S A H0 H locs) (q0 : Nat) {fs : List Value} (he : ws[q0]? = some (a, .inr (1, fs))) (k : Nat) (hk : k < 4) (hlink : Cond.fieldLink own index ref (TX2 k).2.1 (TX2 k).2.2.1 ∈ wsL_law) (hsame : ∀ x, s.fieldFound? (TX2 k).1 (TX2 k).2.1 (TX2 k).2.2.1 = some x → s.fieldFound? ref (TX2 k).2.1 (TX2 k).2.2.1 = some x) {v : Value} (hfin : (TX2 k).2.2.2 = false) (hn : narrow (tyX2 k) v = v) (hfit : fits (tyX2 k) v = true) (hl : k < fs.length) (hdg : decode cc pc = .ok (.putfield index, 3))
    (kk : ∀ (H1 : Heap) (locs1 : List Loc), va_P D vwCl (ws.set q0 (a, .inr (1, fs.set k v))) H1 → va_D A (ws.set q0 (a, .inr (1, fs.set k v))) → va_S A H0 H1 locs1 → W p l e R s m args below meth c H1 locs1 cells slots Q (F0 m (pc + 3) ls rest)) : W p l e R s m args below meth c H locs cells slots Q (F0 m pc ls (v :: .ref a :: rest)) :=
  va_put hx hb hts inlX2 tyX2 tyX2_ok nmX2 hown hK hP hD hS q0 he rfl k hk (hts _ hlink) hsame hfin (tyX2_ok k hk) hn hfit hl hdg kk
theorem g3 (hx : p.tables.exec = Jvm.exec) (hb : c.code = cc) (hts : ∀ w ∈ wsL_law, w.before args s = true) (hown : s.vm.findClass own = some m.cls) (hK : va_K D vwCl ty s) (hP : va_P D vwCl ws H) (q0 : Nat) {fs : List Value} (he : ws[q0]? = some (a, .inr (2, fs))) (k : Nat) (hk : k < 17) (hlink : Cond.fieldLink own index ref (TX3 k).2.1 (TX3 k).2.2.1 ∈ wsL_law) (hsame : ∀ x, s.fieldFound? (TX3 k).1 (TX3 k).2.1 (TX3 k).2.2.1 = some x → s.fieldFound? ref (TX3 k).2.1 (TX3 k).2.2.1 = some x) {v : Value} (hv : fs[k]? = some v) (hdg : decode cc pc = .ok (.getfield index, 3))
    (kk : W p l e R s m args below meth c H locs cells slots Q (F0 m (pc + 3) ls (v :: rest))) : W p l e R s m args below meth c H locs cells slots Q (F0 m pc ls (.ref a :: rest)) :=
  va_get hx hb hts inlX3 hown hK hP q0 he rfl k hk (hts _ hlink) hsame hv hdg kk
theorem f3 (hx : p.tables.exec = Jvm.exec) (hb : c.code = cc) (hts : ∀ w ∈ wsL_law, w.before args s = true) (hown : s.vm.findClass own = some m.cls) (hK : va_K D vwCl ty s) (hP : va_P D vwCl ws H) (hD : va_D A ws) (hS : va_S A H0 H locs) (q0 : Nat) {fs : List Value} (he : ws[q0]? = some (a, .inr (2, fs))) (k : Nat) (hk : k < 17) (hlink : Cond.fieldLink own index ref (TX3 k).2.1 (TX3 k).2.2.1 ∈ wsL_law) (hsame : ∀ x, s.fieldFound? (TX3 k).1 (TX3 k).2.1 (TX3 k).2.2.1 = some x → s.fieldFound? ref (TX3 k).2.1 (TX3 k).2.2.1 = some x) {v : Value} (hfin : (TX3 k).2.2.2 = false) (hn : narrow (tyX3 k) v = v) (hfit : fits (tyX3 k) v = true) (hl : k < fs.length) (hdg : decode cc pc = .ok (.putfield index, 3))
    (kk : ∀ (H1 : Heap) (locs1 : List Loc), va_P D vwCl (ws.set q0 (a, .inr (2, fs.set k v))) H1 → va_D A (ws.set q0 (a, .inr (2, fs.set k v))) → va_S A H0 H1 locs1 → W p l e R s m args below meth c H1 locs1 cells slots Q (F0 m (pc + 3) ls rest)) : W p l e R s m args below meth c H locs cells slots Q (F0 m pc ls (v :: .ref a :: rest)) :=
  va_put hx hb hts inlX3 tyX3 tyX3_ok nmX3 hown hK hP hD hS q0 he rfl k hk (hts _ hlink) hsame hfin (tyX3_ok k hk) hn hfit hl hdg kk
theorem g4 (hx : p.tables.exec = Jvm.exec) (hb : c.code = cc) (hts : ∀ w ∈ wsL_law, w.before args s = true) (hown : s.vm.findClass own = some m.cls) (hK : va_K D vwCl ty s) (hP : va_P D vwCl ws H) (q0 : Nat) {fs : List Value} (he : ws[q0]? = some (a, .inr (3, fs))) (k : Nat) (hk : k < 5) (hlink : Cond.fieldLink own index ref (TX4 k).2.1 (TX4 k).2.2.1 ∈ wsL_law) (hsame : ∀ x, s.fieldFound? (TX4 k).1 (TX4 k).2.1 (TX4 k).2.2.1 = some x → s.fieldFound? ref (TX4 k).2.1 (TX4 k).2.2.1 = some x) {v : Value} (hv : fs[k]? = some v) (hdg : decode cc pc = .ok (.getfield index, 3))
    (kk : W p l e R s m args below meth c H locs cells slots Q (F0 m (pc + 3) ls (v :: rest))) : W p l e R s m args below meth c H locs cells slots Q (F0 m pc ls (.ref a :: rest)) :=
  va_get hx hb hts inlX4 hown hK hP q0 he rfl k hk (hts _ hlink) hsame hv hdg kk
theorem f4 (hx : p.tables.exec = Jvm.exec) (hb : c.code = cc) (hts : ∀ w ∈ wsL_law, w.before args s = true) (hown : s.vm.findClass own = some m.cls) (hK : va_K D vwCl ty s) (hP : va_P D vwCl ws H) (hD : va_D A ws) (hS : va_S A H0 H locs) (q0 : Nat) {fs : List Value} (he : ws[q0]? = some (a, .inr (3, fs))) (k : Nat) (hk : k < 5) (hlink : Cond.fieldLink own index ref (TX4 k).2.1 (TX4 k).2.2.1 ∈ wsL_law) (hsame : ∀ x, s.fieldFound? (TX4 k).1 (TX4 k).2.1 (TX4 k).2.2.1 = some x → s.fieldFound? ref (TX4 k).2.1 (TX4 k).2.2.1 = some x) {v : Value} (hfin : (TX4 k).2.2.2 = false) (hn : narrow (tyX4 k) v = v) (hfit : fits (tyX4 k) v = true) (hl : k < fs.length) (hdg : decode cc pc = .ok (.putfield index, 3))
    (kk : ∀ (H1 : Heap) (locs1 : List Loc), va_P D vwCl (ws.set q0 (a, .inr (3, fs.set k v))) H1 → va_D A (ws.set q0 (a, .inr (3, fs.set k v))) → va_S A H0 H1 locs1 → W p l e R s m args below meth c H1 locs1 cells slots Q (F0 m (pc + 3) ls rest)) : W p l e R s m args below meth c H locs cells slots Q (F0 m pc ls (v :: .ref a :: rest)) :=
  va_put hx hb hts inlX4 tyX4 tyX4_ok nmX4 hown hK hP hD hS q0 he rfl k hk (hts _ hlink) hsame hfin (tyX4_ok k hk) hn hfit hl hdg kk
theorem g5 (hx : p.tables.exec = Jvm.exec) (hb : c.code = cc) (hts : ∀ w ∈ wsL_law, w.before args s = true) (hown : s.vm.findClass own = some m.cls) (hK : va_K D vwCl ty s) (hP : va_P D vwCl ws H) (q0 : Nat) {fs : List Value} (he : ws[q0]? = some (a, .inr (4, fs))) (k : Nat) (hk : k < 14) (hlink : Cond.fieldLink own index ref (TX5 k).2.1 (TX5 k).2.2.1 ∈ wsL_law) (hsame : ∀ x, s.fieldFound? (TX5 k).1 (TX5 k).2.1 (TX5 k).2.2.1 = some x → s.fieldFound? ref (TX5 k).2.1 (TX5 k).2.2.1 = some x) {v : Value} (hv : fs[k]? = some v) (hdg : decode cc pc = .ok (.getfield index, 3))
    (kk : W p l e R s m args below meth c H locs cells slots Q (F0 m (pc + 3) ls (v :: rest))) : W p l e R s m args below meth c H locs cells slots Q (F0 m pc ls (.ref a :: rest)) :=
  va_get hx hb hts inlX5 hown hK hP q0 he rfl k hk (hts _ hlink) hsame hv hdg kk
theorem f5 (hx : p.tables.exec = Jvm.exec) (hb : c.code = cc) (hts : ∀ w ∈ wsL_law, w.before args s = true) (hown : s.vm.findClass own = some m.cls) (hK : va_K D vwCl ty s) (hP : va_P D vwCl ws H) (hD : va_D A ws) (hS : va_S A H0 H locs) (q0 : Nat) {fs : List Value} (he : ws[q0]? = some (a, .inr (4, fs))) (k : Nat) (hk : k < 14) (hlink : Cond.fieldLink own index ref (TX5 k).2.1 (TX5 k).2.2.1 ∈ wsL_law) (hsame : ∀ x, s.fieldFound? (TX5 k).1 (TX5 k).2.1 (TX5 k).2.2.1 = some x → s.fieldFound? ref (TX5 k).2.1 (TX5 k).2.2.1 = some x) {v : Value} (hfin : (TX5 k).2.2.2 = false) (hn : narrow (tyX5 k) v = v) (hfit : fits (tyX5 k) v = true) (hl : k < fs.length) (hdg : decode cc pc = .ok (.putfield index, 3))
    (kk : ∀ (H1 : Heap) (locs1 : List Loc), va_P D vwCl (ws.set q0 (a, .inr (4, fs.set k v))) H1 → va_D A (ws.set q0 (a, .inr (4, fs.set k v))) → va_S A H0 H1 locs1 → W p l e R s m args below meth c H1 locs1 cells slots Q (F0 m (pc + 3) ls rest)) : W p l e R s m args below meth c H locs cells slots Q (F0 m pc ls (v :: .ref a :: rest)) :=
  va_put hx hb hts inlX5 tyX5 tyX5_ok nmX5 hown hK hP hD hS q0 he rfl k hk (hts _ hlink) hsame hfin (tyX5_ok k hk) hn hfit hl hdg kk
end GF
end
section
/-! plain facts about the mathematical value -/
theorem k_exit {k n : Nat} (hn : n ≤ 2048) (hk : k ≤ n) (c : nI n ≤ nI k) : k = n := by
  have := (nI_leI (a := n) (b := k) (by omega) (by omega)).mp c
  omega
theorem k_more {k n : Nat} (hn : n ≤ 2048) (hk : k ≤ n) (c : ¬ nI n ≤ nI k) : k < n := by
  rcases Nat.lt_or_ge k n with h | h
  · exact h
  · exact absurd ((nI_leI (a := n) (b := k) (by omega) (by omega)).mpr h) c
theorem nI_dec {a b : Nat} (h : a = b + 1) : nI a + Int32.ofInt (-1) = nI b := by
  subst h
  exact pk_m1 b
theorem p_S_le {P : Nat} (h : P ≤ 24) : p_S P ≤ 6 := by unfold p_S; omega
theorem p_go_le (N : NN) (k P : Nat) : ∀ r j, p_go N k P r j ≤ r + j := by
  intro r
  induction r with
  | zero => intro j; simp [p_go]
  | succ r ih =>
    intro j
    unfold p_go
    split
    · omega
    · have := ih (j + 1); omega
theorem p_held_le (N : NN) (k P : Nat) : p_held N k P ≤ p_S P := by
  have := p_go_le N k P (p_S P) 0
  unfold p_held
  omega
theorem p_go_step {N : NN} {k P S j : Nat} (h : j < S) (c : ¬ p_strAt N k (p_worn (N 7 k) j) < nI (p_sp P j)) : p_go N k P (S - j) j = p_go N k P (S - (j + 1)) (j + 1) := by
  rw [show S - j = (S - (j + 1)) + 1 by omega]
  simp only [p_go, if_neg c]
theorem p_go_stop {N : NN} {k P S j : Nat} (h : j < S) (c : p_strAt N k (p_worn (N 7 k) j) < nI (p_sp P j)) : p_go N k P (S - j) j = j := by
  rw [show S - j = (S - (j + 1)) + 1 by omega]
  simp only [p_go, if_pos c]
theorem p_go_end {N : NN} {k P S j : Nat} (h : j = S) : p_go N k P (S - j) j = S := by
  subst h
  simp [p_go]
theorem nI_sp {P j : Nat} (hP : P ≤ 24) (hj : j ≤ 100) : (if nI P < nI (4 * (j + 1)) then nI P else nI (4 * (j + 1))) = nI (p_sp P j) := by
  unfold p_sp
  by_cases h : P < 4 * (j + 1)
  · rw [if_pos h, if_pos ((nI_ltI (by omega) (by omega)).mpr h)]
  · rw [if_neg h, if_neg (fun q => h ((nI_ltI (by omega) (by omega)).mp q))]
theorem p_out_ge {N : NN} {k P : Nat} (hP : P ≤ 24) (c : nI (p_S P) ≤ nI (p_held N k P)) : nI (p_held N k P) = p_out N k P := by
  have h1 := p_S_le hP
  have h2 := p_held_le N k P
  have h := (nI_leI (by omega) (by omega)).mp c
  unfold p_out
  rw [if_neg (by omega)]
theorem p_out_lt {N : NN} {k P : Nat} (hP : P ≤ 24) (c : ¬ nI (p_S P) ≤ nI (p_held N k P)) : nI (p_held N k P + 100) = p_out N k P := by
  have h1 := p_S_le hP
  have h2 := p_held_le N k P
  unfold p_out
  rcases Nat.lt_or_ge (p_held N k P) (p_S P) with h | h
  · rw [if_pos h]
  · exact absurd ((nI_leI (by omega) (by omega)).mpr h) c
theorem p_heldS {N : NN} {k P : Nat} (hP : P ≤ 24) : nI (p_held N k P) = nI (p_S P) ↔ p_held N k P = p_S P := by
  have h1 := p_S_le hP
  have h2 := p_held_le N k P
  exact nI_eq (by omega) (by omega)
theorem p_sf_hit {N : NN} {k j : Nat} (h : j < 21) (c : nI (p_held N k (24 - j)) = nI (p_S (24 - j))) : p_sf N k (21 - j) = nI (24 - j) := by
  rw [show 21 - j = (20 - j) + 1 by omega]
  unfold p_sf
  rw [show 20 - j + 4 = 24 - j by omega, if_pos ((p_heldS (by omega)).mp c)]
theorem p_sf_miss {N : NN} {k j : Nat} (h : j < 21) (c : ¬ nI (p_held N k (24 - j)) = nI (p_S (24 - j))) : p_sf N k (21 - j) = p_sf N k (21 - (j + 1)) := by
  rw [show 21 - j = (21 - (j + 1)) + 1 by omega]
  conv => lhs; unfold p_sf
  rw [show 21 - (j + 1) + 4 = 24 - j by omega, if_neg (fun q => c (by rw [q]))]
theorem p_pr_lt {j : Nat} (hj : j ≤ 21) (c : nI (24 - j) < 4) : j = 21 := by
  have := (nI_ltI (a := 24 - j) (b := 4) (by omega) (by omega)).mp c
  omega
theorem p_pr_ge {j : Nat} (hj : j ≤ 21) (c : ¬ nI (24 - j) < 4) : j < 21 := by
  rcases Nat.lt_or_ge j 21 with h | h
  · exact h
  · exact absurd ((nI_ltI (a := 24 - j) (b := 4) (by omega) (by omega)).mpr (by omega)) c
end
section
abbrev rmX1_lifeOf : Room := { frames := 0, cells := 0, slots := 0, locals := 0 }
set_option maxHeartbeats 4000000 in
set_option maxRecDepth 100000 in
theorem c_X1_lifeOf (l : Launch) (D : va_G) (cI cS cL : ClassId) (sz : Nat) (k : Int32) : Met l yX1_lifeOf (wy_ yX1_lifeOf cX1_lifeOf 1 (some .int)) rmX1_lifeOf (kPc D (kTy cI cS cL) ([]) sz [.int k]) (kRi (p_life k)) 0 0 noF := by
  refine k_ofW (by decide) (Nat.le_of_ble_eq_true rfl) ?_
  intro p e s m args below meth c hx hb hr hml hts hown hlocks hnm hsz hP hK hD hE ls hl
  subst hsz
  have hl : lv_has ls 1 [(0, .int k)] := hl
  refine lv_iload_n hx hb dX1_lifeOf_0 rfl (lv_at hl 0 rfl) ?_
  by_cases c1 : k = 0
  · refine lv_lookup (off := 27) (tgt := 28) hx hb dX1_lifeOf_1 (by decide) (by rw [c1]; decide) (by decide) ?_
    refine lv_sipush (v := 900) hx hb dX1_lifeOf_28 (by decide) ?_
    exact k_eRi hx hb hr hlocks (by simp [p_life, c1]) dX1_lifeOf_31
  by_cases c2 : k = 1
  · refine lv_lookup (off := 31) (tgt := 32) hx hb dX1_lifeOf_1 (by decide) (by rw [c2]; decide) (by decide) ?_
    refine lv_sipush (v := 1500) hx hb dX1_lifeOf_32 (by decide) ?_
    exact k_eRi hx hb hr hlocks (by simp [p_life, c2, c1]) dX1_lifeOf_35
  refine lv_lookup (off := 35) (tgt := 36) hx hb dX1_lifeOf_1 (by decide) (by simp [Op.lookupswitch.offset, i32_ne (b := 0) (z := 0) (by decide) c1, i32_ne (b := 1) (z := 1) (by decide) c2]) (by decide) ?_
  refine lv_sipush (v := 1200) hx hb dX1_lifeOf_36 (by decide) ?_
  exact k_eRi hx hb hr hlocks (by simp [p_life, c1, c2]) dX1_lifeOf_39

abbrev rmX1_daysInForce : Room := { frames := 0, cells := 0, slots := 0, locals := 0 }
set_option maxHeartbeats 4000000 in
set_option maxRecDepth 100000 in
theorem c_X1_daysInForce (l : Launch) (D : va_G) (cI cS cL : ClassId) (sz : Nat) (k : Int32) : Met l yX1_daysInForce (wy_ yX1_daysInForce cX1_daysInForce 1 (some .int)) rmX1_daysInForce (kPc D (kTy cI cS cL) ([]) sz [.int k]) (kRi (p_force k)) 0 0 noF := by
  refine k_ofW (by decide) (Nat.le_of_ble_eq_true rfl) ?_
  intro p e s m args below meth c hx hb hr hml hts hown hlocks hnm hsz hP hK hD hE ls hl
  subst hsz
  have hl : lv_has ls 1 [(0, .int k)] := hl
  refine lv_iload_n hx hb dX1_daysInForce_0 rfl (lv_at hl 0 rfl) ?_
  by_cases c1 : k = 0
  · refine lv_lookup (off := 27) (tgt := 28) hx hb dX1_daysInForce_1 (by decide) (by rw [c1]; decide) (by decide) ?_
    refine lv_bipush (v := 100) hx hb dX1_daysInForce_28 (by decide) ?_
    exact k_eRi hx hb hr hlocks (by simp [p_force, c1]) dX1_daysInForce_30
  by_cases c2 : k = 1
  · refine lv_lookup (off := 30) (tgt := 31) hx hb dX1_daysInForce_1 (by decide) (by rw [c2]; decide) (by decide) ?_
    refine lv_sipush (v := 150) hx hb dX1_daysInForce_31 (by decide) ?_
    exact k_eRi hx hb hr hlocks (by simp [p_force, c2, c1]) dX1_daysInForce_34
  refine lv_lookup (off := 34) (tgt := 35) hx hb dX1_daysInForce_1 (by decide) (by simp [Op.lookupswitch.offset, i32_ne (b := 0) (z := 0) (by decide) c1, i32_ne (b := 1) (z := 1) (by decide) c2]) (by decide) ?_
  refine lv_sipush (v := 200) hx hb dX1_daysInForce_35 (by decide) ?_
  exact k_eRi hx hb hr hlocks (by simp [p_force, c1, c2]) dX1_daysInForce_38

abbrev rmX1_costOf : Room := { frames := 0, cells := 0, slots := 0, locals := 0 }
set_option maxHeartbeats 4000000 in
set_option maxRecDepth 100000 in
theorem c_X1_costOf (l : Launch) (D : va_G) (cI cS cL : ClassId) (sz : Nat) (k n : Int32) : Met l yX1_costOf (wy_ yX1_costOf cX1_costOf 2 (some .int)) rmX1_costOf (kPc D (kTy cI cS cL) ([]) sz [.int k, .int n]) (kRi (p_cost k n)) 0 0 noF := by
  refine k_ofW (by decide) (Nat.le_of_ble_eq_true rfl) ?_
  intro p e s m args below meth c hx hb hr hml hts hown hlocks hnm hsz hP hK hD hE ls hl
  subst hsz
  have hl : lv_has ls 2 [(0, .int k), (1, .int n)] := hl
  refine lv_iload_n hx hb dX1_costOf_0 rfl (lv_at hl 0 rfl) ?_
  by_cases c1 : k = 0
  · refine lv_lookup (off := 27) (tgt := 28) hx hb dX1_costOf_1 (by decide) (by rw [c1]; decide) (by decide) ?_
    refine lv_iconst (v := 2) hx hb dX1_costOf_28 (by decide) ?_
    refine lv_iload_n hx hb dX1_costOf_29 rfl (lv_at hl 1 rfl) ?_
    refine lv_imul hx hb dX1_costOf_30 (lv_topi (fun x2 e2 => ?_))
    exact k_eRi hx hb hr hlocks (by subst e2; simp [p_cost, c1]) dX1_costOf_31
  by_cases c3 : k = 1
  · refine lv_lookup (off := 31) (tgt := 32) hx hb dX1_costOf_1 (by decide) (by rw [c3]; decide) (by decide) ?_
    refine lv_iconst (v := 3) hx hb dX1_costOf_32 (by decide) ?_
    refine lv_iload_n hx hb dX1_costOf_33 rfl (lv_at hl 1 rfl) ?_
    refine lv_imul hx hb dX1_costOf_34 (lv_topi (fun x4 e4 => ?_))
    exact k_eRi hx hb hr hlocks (by subst e4; simp [p_cost, c3, c1]) dX1_costOf_35
  refine lv_lookup (off := 35) (tgt := 36) hx hb dX1_costOf_1 (by decide) (by simp [Op.lookupswitch.offset, i32_ne (b := 0) (z := 0) (by decide) c1, i32_ne (b := 1) (z := 1) (by decide) c3]) (by decide) ?_
  refine lv_iconst (v := 4) hx hb dX1_costOf_36 (by decide) ?_
  refine lv_iload_n hx hb dX1_costOf_37 rfl (lv_at hl 1 rfl) ?_
  refine lv_imul hx hb dX1_costOf_38 (lv_topi (fun x5 e5 => ?_))
  refine lv_bipush (v := 10) hx hb dX1_costOf_39 (by decide) ?_
  refine lv_iadd hx hb dX1_costOf_41 (lv_topi (fun x6 e6 => ?_))
  exact k_eRi hx hb hr hlocks (by subst e5 e6; simp [p_cost, c1, c3]) dX1_costOf_42

abbrev rmX1_strengthOf : Room := { frames := 1, cells := 0, slots := 0, locals := 13 }
set_option maxHeartbeats 4000000 in
set_option maxRecDepth 100000 in
theorem c_X1_strengthOf (l : Launch) (D : va_G) (cI cS cL : ClassId) (sz : Nat) (k w g : Int32) : Met l yX1_strengthOf (wy_ yX1_strengthOf cX1_strengthOf 3 (some .int)) rmX1_strengthOf (kPc D (kTy cI cS cL) ([]) sz [.int k, .int w, .int g]) (kRi (p_str k w g)) 0 0 noF := by
  refine k_ofW (by decide) (Nat.le_of_ble_eq_true rfl) ?_
  intro p e s m args below meth c hx hb hr hml hts hown hlocks hnm hsz hP hK hD hE ls hl
  subst hsz
  have hl : lv_has ls 3 [(0, .int k), (1, .int w), (2, .int g)] := hl
  refine lv_iload_n hx hb dX1_strengthOf_0 rfl (lv_at hl 0 rfl) ?_
  by_cases c1 : k = 0
  · refine lv_lookup (off := 27) (tgt := 28) hx hb dX1_strengthOf_1 (by decide) (by rw [c1]; decide) (by decide) ?_
    refine lv_iconst (v := 0) hx hb dX1_strengthOf_28 (by decide) ?_
    refine lv_bipush (v := 16) hx hb dX1_strengthOf_29 (by decide) ?_
    refine lv_iload_n hx hb dX1_strengthOf_31 rfl (lv_at hl 1 rfl) ?_
    refine lv_bipush (v := 10) hx hb dX1_strengthOf_32 (by decide) ?_
    refine lv_idiv hx hb dX1_strengthOf_34 (by decide) (lv_topi (fun x2 e2 => ?_))
    refine lv_isub hx hb dX1_strengthOf_35 (lv_topi (fun x3 e3 => ?_))
    refine lv_iload_n hx hb dX1_strengthOf_36 rfl (lv_at hl 2 rfl) ?_
    refine lv_isub hx hb dX1_strengthOf_37 (lv_topi (fun x4 e4 => ?_))
    refine va_mmax hx hb (hml.trans hl.1.symm) hown (hts _ wd_methodLink_RX1_9_Lib_Math_max_name) (hts _ wd_static_Lib_Math_max_name) (hts _ wd_initialized_java_lang_Math) (hts _ wd_code_Lib_Math_max_name_Lib_Math_max_code_2_some_int) (Nat.le_of_ble_eq_true rfl) (Nat.le_of_ble_eq_true rfl) (Nat.zero_le _) (Nat.zero_le _) dX1_strengthOf_38 (lv_topi (fun x5 e5 => ?_))
    exact k_eRi hx hb hr hlocks (by subst e2 e3 e4 e5; simp [p_str, mx0, c1]) dX1_strengthOf_41
  by_cases c6 : k = 1
  · refine lv_lookup (off := 41) (tgt := 42) hx hb dX1_strengthOf_1 (by decide) (by rw [c6]; decide) (by decide) ?_
    refine lv_iconst (v := 0) hx hb dX1_strengthOf_42 (by decide) ?_
    refine lv_bipush (v := 20) hx hb dX1_strengthOf_43 (by decide) ?_
    refine lv_iload_n hx hb dX1_strengthOf_45 rfl (lv_at hl 1 rfl) ?_
    refine lv_bipush (v := 8) hx hb dX1_strengthOf_46 (by decide) ?_
    refine lv_idiv hx hb dX1_strengthOf_48 (by decide) (lv_topi (fun x7 e7 => ?_))
    refine lv_isub hx hb dX1_strengthOf_49 (lv_topi (fun x8 e8 => ?_))
    refine lv_iload_n hx hb dX1_strengthOf_50 rfl (lv_at hl 2 rfl) ?_
    refine lv_iconst (v := 2) hx hb dX1_strengthOf_51 (by decide) ?_
    refine lv_idiv hx hb dX1_strengthOf_52 (by decide) (lv_topi (fun x9 e9 => ?_))
    refine lv_isub hx hb dX1_strengthOf_53 (lv_topi (fun x10 e10 => ?_))
    refine va_mmax hx hb (hml.trans hl.1.symm) hown (hts _ wd_methodLink_RX1_9_Lib_Math_max_name) (hts _ wd_static_Lib_Math_max_name) (hts _ wd_initialized_java_lang_Math) (hts _ wd_code_Lib_Math_max_name_Lib_Math_max_code_2_some_int) (Nat.le_of_ble_eq_true rfl) (Nat.le_of_ble_eq_true rfl) (Nat.zero_le _) (Nat.zero_le _) dX1_strengthOf_54 (lv_topi (fun x11 e11 => ?_))
    exact k_eRi hx hb hr hlocks (by subst e7 e8 e9 e10 e11; simp [p_str, mx0, c6, c1]) dX1_strengthOf_57
  refine lv_lookup (off := 57) (tgt := 58) hx hb dX1_strengthOf_1 (by decide) (by simp [Op.lookupswitch.offset, i32_ne (b := 0) (z := 0) (by decide) c1, i32_ne (b := 1) (z := 1) (by decide) c6]) (by decide) ?_
  refine lv_iconst (v := 0) hx hb dX1_strengthOf_58 (by decide) ?_
  refine lv_bipush (v := 24) hx hb dX1_strengthOf_59 (by decide) ?_
  refine lv_iload_n hx hb dX1_strengthOf_61 rfl (lv_at hl 1 rfl) ?_
  refine lv_iconst (v := 5) hx hb dX1_strengthOf_62 (by decide) ?_
  refine lv_idiv hx hb dX1_strengthOf_63 (by decide) (lv_topi (fun x12 e12 => ?_))
  refine lv_isub hx hb dX1_strengthOf_64 (lv_topi (fun x13 e13 => ?_))
  refine va_mmax hx hb (hml.trans hl.1.symm) hown (hts _ wd_methodLink_RX1_9_Lib_Math_max_name) (hts _ wd_static_Lib_Math_max_name) (hts _ wd_initialized_java_lang_Math) (hts _ wd_code_Lib_Math_max_name_Lib_Math_max_code_2_some_int) (Nat.le_of_ble_eq_true rfl) (Nat.le_of_ble_eq_true rfl) (Nat.zero_le _) (Nat.zero_le _) dX1_strengthOf_65 (lv_topi (fun x14 e14 => ?_))
  exact k_eRi hx hb hr hlocks (by subst e12 e13 e14; simp [p_str, mx0, c1, c6]) dX1_strengthOf_68

abbrev rmX4_isWithin : Room := { frames := 0, cells := 0, slots := 0, locals := 0 }
set_option maxHeartbeats 4000000 in
set_option maxRecDepth 100000 in
theorem c_X4_isWithin (l : Launch) (D : va_G) (cI cS cL : ClassId) (sz : Nat) (x lo hi : Int32) : Met l yX4_isWithin (wy_ yX4_isWithin cX4_isWithin 3 (some .boolean)) rmX4_isWithin (kPc D (kTy cI cS cL) ([]) sz [.int x, .int lo, .int hi]) (kRi (bI (decide (lo ≤ x ∧ x ≤ hi)))) 0 0 noF := by
  refine k_ofW (by decide) (Nat.le_of_ble_eq_true rfl) ?_
  intro p e s m args below meth c hx hb hr hml hts hown hlocks hnm hsz hP hK hD hE ls hl
  subst hsz
  have hl : lv_has ls 3 [(0, .int x), (1, .int lo), (2, .int hi)] := hl
  refine lv_iload_n hx hb dX4_isWithin_0 rfl (lv_at hl 0 rfl) ?_
  refine lv_iload_n hx hb dX4_isWithin_1 rfl (lv_at hl 1 rfl) ?_
  refine lv_icmp_lt (tgt := 14) hx hb dX4_isWithin_2 (by decide) (fun c1 => ?_) (fun c1 => ?_)
  · have c1' := Int32.not_le.mpr c1
    refine lv_iconst (v := 0) hx hb dX4_isWithin_14 (by decide) ?_
    exact k_eRz hx hb hr hlocks rfl (by exact bI_zero (by simp [c1, c1'])) dX4_isWithin_15
  · have c1' := Int32.not_lt.mp c1
    refine lv_iload_n hx hb dX4_isWithin_5 rfl (lv_at hl 0 rfl) ?_
    refine lv_iload_n hx hb dX4_isWithin_6 rfl (lv_at hl 2 rfl) ?_
    refine lv_icmp_gt (tgt := 14) hx hb dX4_isWithin_7 (by decide) (fun c2 => ?_) (fun c2 => ?_)
    · have c2' := Int32.not_le.mpr c2
      refine lv_iconst (v := 0) hx hb dX4_isWithin_14 (by decide) ?_
      exact k_eRz hx hb hr hlocks rfl (by exact bI_zero (by simp [c1, c1', c2, c2'])) dX4_isWithin_15
    · have c2' := Int32.not_lt.mp c2
      refine lv_iconst (v := 1) hx hb dX4_isWithin_10 (by decide) ?_
      refine lv_goto (tgt := 15) hx hb dX4_isWithin_11 (by decide) ?_
      exact k_eRz hx hb hr hlocks rfl (by exact bI_one (by simp [c1, c1', c2, c2'])) dX4_isWithin_15

abbrev rmX3_stepsUpTo : Room := { frames := 0, cells := 0, slots := 0, locals := 0 }
set_option maxHeartbeats 4000000 in
set_option maxRecDepth 100000 in
theorem c_X3_stepsUpTo (l : Launch) (D : va_G) (cI cS cL : ClassId) (sz : Nat) (P : Nat) (hPp : P ≤ 24) : Met l yX3_stepsUpTo (wy_ yX3_stepsUpTo cX3_stepsUpTo 1 (some .int)) rmX3_stepsUpTo (kPc D (kTy cI cS cL) ([]) sz [.int (nI P)]) (kRi (nI (p_S P))) 0 0 noF := by
  refine k_ofW (by decide) (Nat.le_of_ble_eq_true rfl) ?_
  intro p e s m args below meth c hx hb hr hml hts hown hlocks hnm hsz hP hK hD hE ls hl
  subst hsz
  have hl : lv_has ls 1 [(0, .int (nI P))] := hl
  refine lv_iload_n hx hb dX3_stepsUpTo_0 rfl (lv_at hl 0 rfl) ?_
  refine lv_iconst (v := 4) hx hb dX3_stepsUpTo_1 (by decide) ?_
  refine lv_iadd hx hb dX3_stepsUpTo_2 (lv_topi (fun x1 e1 => ?_))
  have q1 : x1 = nI (P + 4) := by rw [e1]; exact nI_add _ 4
  subst q1
  refine lv_iconst (v := 1) hx hb dX3_stepsUpTo_3 (by decide) ?_
  refine lv_isub hx hb dX3_stepsUpTo_4 (lv_topi (fun x2 e2 => ?_))
  have q2 : x2 = nI (P + 3) := by rw [e2]; exact pk_sub (a := P + 4) (b := 1) (by omega)
  subst q2
  refine lv_iconst (v := 4) hx hb dX3_stepsUpTo_5 (by decide) ?_
  refine lv_idiv hx hb dX3_stepsUpTo_6 (by decide) (lv_topi (fun x3 e3 => ?_))
  have q3 : x3 = nI (p_S P) := by rw [e3]; exact pk_div (a := P + 3) (d := 4) (by omega) (by decide) (by decide)
  subst q3
  exact k_eRi hx hb hr hlocks rfl dX3_stepsUpTo_7
end
section
abbrev rmX3_isGone : Room := { frames := 0, cells := 0, slots := 0, locals := 0 }
set_option maxHeartbeats 4000000 in
set_option maxRecDepth 100000 in
theorem c_X3_isGone (l : Launch) (D : va_G) (cI cS cL : ClassId) (a : Nat → Nat) (N : NN) (v : Nat → Int32) (sz : Nat) (k : Nat) (hk : k < 14) : Met l yX3_isGone (wy_ yX3_isGone cX3_isGone 2 (some .boolean)) rmX3_isGone (kPc D (kTy cI cS cL) (stW cI a N v) sz [.ref (a 0), .int (nI k)]) (kRi (bI (decide (N 9 k = -1)))) 0 0 noF := by
  refine k_ofW (by decide) (Nat.le_of_ble_eq_true rfl) ?_
  intro p e s m args below meth c hx hb hr hml hts hown hlocks hnm hsz hP hK hD hE ls hl
  subst hsz
  have hl : lv_has ls 2 [(0, .ref (a 0)), (1, .int (nI k))] := hl
  refine lv_aload_n hx hb dX3_isGone_0 rfl (lv_at hl 0 rfl) ?_
  refine g3 hx hb hts hown hK hP 0 rfl 14 (by decide) flX3_43 (fun _ h => h) (v := .ref (a 9)) rfl dX3_isGone_1 ?_
  refine lv_iload_n hx hb dX3_isGone_4 rfl (lv_at hl 1 rfl) ?_
  refine k_ald (k := k) hx hb hK hP 9 0 rfl rfl rfl (by omega) (by decide) dX3_isGone_5 ?_
  refine lv_iconst (v := (-1)) hx hb dX3_isGone_6 (by decide) ?_
  refine lv_icmp_ne (tgt := 14) hx hb dX3_isGone_7 (by decide) (fun c1 => ?_) (fun c1 => ?_)
  · refine lv_iconst (v := 0) hx hb dX3_isGone_14 (by decide) ?_
    exact k_eRz hx hb hr hlocks rfl (by exact bI_zero (by simp [c1])) dX3_isGone_15
  · refine lv_iconst (v := 1) hx hb dX3_isGone_10 (by decide) ?_
    refine lv_goto (tgt := 15) hx hb dX3_isGone_11 (by decide) ?_
    exact k_eRz hx hb hr hlocks rfl (by exact bI_one (by simp [c1])) dX3_isGone_15

abbrev rmX3_isLent : Room := { frames := 0, cells := 0, slots := 0, locals := 0 }
set_option maxHeartbeats 4000000 in
set_option maxRecDepth 100000 in
theorem c_X3_isLent (l : Launch) (D : va_G) (cI cS cL : ClassId) (a : Nat → Nat) (N : NN) (v : Nat → Int32) (sz : Nat) (k : Nat) (hk : k < 14) : Met l yX3_isLent (wy_ yX3_isLent cX3_isLent 2 (some .boolean)) rmX3_isLent (kPc D (kTy cI cS cL) (stW cI a N v) sz [.ref (a 0), .int (nI k)]) (kRi (bI (decide (N 9 k = 4)))) 0 0 noF := by
  refine k_ofW (by decide) (Nat.le_of_ble_eq_true rfl) ?_
  intro p e s m args below meth c hx hb hr hml hts hown hlocks hnm hsz hP hK hD hE ls hl
  subst hsz
  have hl : lv_has ls 2 [(0, .ref (a 0)), (1, .int (nI k))] := hl
  refine lv_aload_n hx hb dX3_isLent_0 rfl (lv_at hl 0 rfl) ?_
  refine g3 hx hb hts hown hK hP 0 rfl 14 (by decide) flX3_43 (fun _ h => h) (v := .ref (a 9)) rfl dX3_isLent_1 ?_
  refine lv_iload_n hx hb dX3_isLent_4 rfl (lv_at hl 1 rfl) ?_
  refine k_ald (k := k) hx hb hK hP 9 0 rfl rfl rfl (by omega) (by decide) dX3_isLent_5 ?_
  refine lv_iconst (v := 4) hx hb dX3_isLent_6 (by decide) ?_
  refine lv_icmp_ne (tgt := 14) hx hb dX3_isLent_7 (by decide) (fun c1 => ?_) (fun c1 => ?_)
  · refine lv_iconst (v := 0) hx hb dX3_isLent_14 (by decide) ?_
    exact k_eRz hx hb hr hlocks rfl (by exact bI_zero (by simp [c1])) dX3_isLent_15
  · refine lv_iconst (v := 1) hx hb dX3_isLent_10 (by decide) ?_
    refine lv_goto (tgt := 15) hx hb dX3_isLent_11 (by decide) ?_
    exact k_eRz hx hb hr hlocks rfl (by exact bI_one (by simp [c1])) dX3_isLent_15

abbrev rmX3_reasonOf : Room := { frames := 1, cells := 0, slots := 0, locals := 21 }
set_option maxHeartbeats 4000000 in
set_option maxRecDepth 100000 in
theorem c_X3_reasonOf (l : Launch) (D : va_G) (cI cS cL : ClassId) (a : Nat → Nat) (N : NN) (v : Nat → Int32) (sz : Nat) (k : Nat) (hk : k < 14) : Met l yX3_reasonOf (wy_ yX3_reasonOf cX3_reasonOf 2 (some .int)) rmX3_reasonOf (kPc D (kTy cI cS cL) (stW cI a N v) sz [.ref (a 0), .int (nI k)]) (kRi (p_reason N k)) 0 0 noF := by
  refine k_ofW (by decide) (Nat.le_of_ble_eq_true rfl) ?_
  intro p e s m args below meth c hx hb hr hml hts hown hlocks hnm hsz hP hK hD hE ls hl
  subst hsz
  have hl : lv_has ls 2 [(0, .ref (a 0)), (1, .int (nI k))] := hl
  refine lv_aload_n hx hb dX3_reasonOf_0 rfl (lv_at hl 0 rfl) ?_
  refine lv_iload_n hx hb dX3_reasonOf_1 rfl (lv_at hl 1 rfl) ?_
  refine k_riV (As := [.int (nI k)]) (rest := []) (wc := stW cI a N v) ⟨hx, hb, hml, hown, hts⟩ (c_X3_isGone l D cI cS cL a N v _ k (by omega)) lkX3_82 rfl rfl ⟨(Nat.le_of_ble_eq_true rfl), (Nat.le_of_ble_eq_true rfl)⟩ (va_recv hK hP (ci := 2) (q0 := 0) rfl rfl) hK hE hP hD rfl hl.1 rfl (Nat.le_of_ble_eq_true rfl) dX3_reasonOf_2 ⟨Nat.zero_le _, Nat.zero_le _⟩ ?_
  refine lv_if_eq (tgt := 10) hx hb dX3_reasonOf_5 (by decide) (fun c1 => ?_) (fun c1 => ?_)
  · have c1 := bI_eq0 c1
    refine lv_aload_n hx hb dX3_reasonOf_10 rfl (lv_at hl 0 rfl) ?_
    refine lv_iload_n hx hb dX3_reasonOf_11 rfl (lv_at hl 1 rfl) ?_
    refine k_riV (As := [.int (nI k)]) (rest := []) (wc := stW cI a N v) ⟨hx, hb, hml, hown, hts⟩ (c_X3_isLent l D cI cS cL a N v _ k (by omega)) lkX3_86 rfl rfl ⟨(Nat.le_of_ble_eq_true rfl), (Nat.le_of_ble_eq_true rfl)⟩ (va_recv hK hP (ci := 2) (q0 := 0) rfl rfl) hK hE hP hD rfl hl.1 rfl (Nat.le_of_ble_eq_true rfl) dX3_reasonOf_12 ⟨Nat.zero_le _, Nat.zero_le _⟩ ?_
    refine lv_if_eq (tgt := 20) hx hb dX3_reasonOf_15 (by decide) (fun c2 => ?_) (fun c2 => ?_)
    · have c2 := bI_eq0 c2
      refine lv_aload_n hx hb dX3_reasonOf_20 rfl (lv_at hl 0 rfl) ?_
      refine g3 hx hb hts hown hK hP 0 rfl 0 (by decide) flX3_9 (fun _ h => h) (v := .int (N 1 0)) rfl dX3_reasonOf_21 ?_
      refine lv_aload_n hx hb dX3_reasonOf_24 rfl (lv_at hl 0 rfl) ?_
      refine g3 hx hb hts hown hK hP 0 rfl 11 (by decide) flX3_34 (fun _ h => h) (v := .ref (a 6)) rfl dX3_reasonOf_25 ?_
      refine lv_iload_n hx hb dX3_reasonOf_28 rfl (lv_at hl 1 rfl) ?_
      refine k_ald (k := k) hx hb hK hP 6 0 rfl rfl rfl (by omega) (by decide) dX3_reasonOf_29 ?_
      refine lv_isub hx hb dX3_reasonOf_30 (lv_topi (fun x3 e3 => ?_))
      refine lv_aload_n hx hb dX3_reasonOf_31 rfl (lv_at hl 0 rfl) ?_
      refine g3 hx hb hts hown hK hP 0 rfl 8 (by decide) flX3_25 (fun _ h => h) (v := .ref (a 3)) rfl dX3_reasonOf_32 ?_
      refine lv_iload_n hx hb dX3_reasonOf_35 rfl (lv_at hl 1 rfl) ?_
      refine k_ald (k := k) hx hb hK hP 3 0 rfl rfl rfl (by omega) (by decide) dX3_reasonOf_36 ?_
      refine k_riS (As := [.int (N 3 k)]) (rest := [.int x3]) (wc := []) ⟨hx, hb, hml, hown, hts⟩ (c_X1_lifeOf l D cI cS cL _ (N 3 k)) lkX3_89 rfl rfl ⟨(Nat.le_of_ble_eq_true rfl), (Nat.le_of_ble_eq_true rfl)⟩ hK hE k_nilP (k_nilD (A := va_A (stW cI a N v) s.heap.size)) rfl hl.1 rfl (Nat.le_of_ble_eq_true rfl) dX3_reasonOf_37 ⟨Nat.zero_le _, Nat.zero_le _⟩ ?_
      refine lv_icmp_le (tgt := 45) hx hb dX3_reasonOf_40 (by decide) (fun c4 => ?_) (fun c4 => ?_)
      · have c4' := Int32.not_lt.mpr c4
        refine lv_aload_n hx hb dX3_reasonOf_45 rfl (lv_at hl 0 rfl) ?_
        refine g3 hx hb hts hown hK hP 0 rfl 13 (by decide) flX3_40 (fun _ h => h) (v := .ref (a 8)) rfl dX3_reasonOf_46 ?_
        refine lv_iload_n hx hb dX3_reasonOf_49 rfl (lv_at hl 1 rfl) ?_
        refine k_ald (k := k) hx hb hK hP 8 0 rfl rfl rfl (by omega) (by decide) dX3_reasonOf_50 ?_
        refine lv_iconst (v := (-1)) hx hb dX3_reasonOf_51 (by decide) ?_
        refine lv_icmp_eq (tgt := 68) hx hb dX3_reasonOf_52 (by decide) (fun c5 => ?_) (fun c5 => ?_)
        · refine lv_iconst (v := 4) hx hb dX3_reasonOf_68 (by decide) ?_
          refine lv_goto (tgt := 73) hx hb dX3_reasonOf_69 (by decide) ?_
          exact k_eRi hx hb hr hlocks (by subst e3; simp [p_reason, c1, c2, c4, c4', c5]) dX3_reasonOf_73
        · refine lv_aload_n hx hb dX3_reasonOf_55 rfl (lv_at hl 0 rfl) ?_
          refine g3 hx hb hts hown hK hP 0 rfl 0 (by decide) flX3_9 (fun _ h => h) (v := .int (N 1 0)) rfl dX3_reasonOf_56 ?_
          refine lv_aload_n hx hb dX3_reasonOf_59 rfl (lv_at hl 0 rfl) ?_
          refine g3 hx hb hts hown hK hP 0 rfl 13 (by decide) flX3_40 (fun _ h => h) (v := .ref (a 8)) rfl dX3_reasonOf_60 ?_
          refine lv_iload_n hx hb dX3_reasonOf_63 rfl (lv_at hl 1 rfl) ?_
          refine k_ald (k := k) hx hb hK hP 8 0 rfl rfl rfl (by omega) (by decide) dX3_reasonOf_64 ?_
          refine lv_icmp_le (tgt := 72) hx hb dX3_reasonOf_65 (by decide) (fun c6 => ?_) (fun c6 => ?_)
          · have c6' := Int32.not_lt.mpr c6
            refine lv_iconst (v := 0) hx hb dX3_reasonOf_72 (by decide) ?_
            exact k_eRi hx hb hr hlocks (by subst e3; simp [p_reason, c1, c2, c4, c4', c5, c6, c6']) dX3_reasonOf_73
          · have c6' := Int32.not_le.mp c6
            refine lv_iconst (v := 4) hx hb dX3_reasonOf_68 (by decide) ?_
            refine lv_goto (tgt := 73) hx hb dX3_reasonOf_69 (by decide) ?_
            exact k_eRi hx hb hr hlocks (by subst e3; simp [p_reason, c1, c2, c4, c4', c5, c6, c6']) dX3_reasonOf_73
      · have c4' := Int32.not_le.mp c4
        refine lv_iconst (v := 3) hx hb dX3_reasonOf_43 (by decide) ?_
        exact k_eRi hx hb hr hlocks (by subst e3; simp [p_reason, c1, c2, c4, c4']) dX3_reasonOf_44
    · have c2 := bI_ne0 c2
      refine lv_iconst (v := 2) hx hb dX3_reasonOf_18 (by decide) ?_
      exact k_eRi hx hb hr hlocks (by simp [p_reason, c1, c2]) dX3_reasonOf_19
  · have c1 := bI_ne0 c1
    refine lv_iconst (v := 1) hx hb dX3_reasonOf_8 (by decide) ?_
    exact k_eRi hx hb hr hlocks (by simp [p_reason, c1]) dX3_reasonOf_9

abbrev rmX3_isReady : Room := { frames := 2, cells := 0, slots := 0, locals := 42 }
set_option maxHeartbeats 4000000 in
set_option maxRecDepth 100000 in
theorem c_X3_isReady (l : Launch) (D : va_G) (cI cS cL : ClassId) (a : Nat → Nat) (N : NN) (v : Nat → Int32) (sz : Nat) (k : Nat) (hk : k < 14) : Met l yX3_isReady (wy_ yX3_isReady cX3_isReady 2 (some .boolean)) rmX3_isReady (kPc D (kTy cI cS cL) (stW cI a N v) sz [.ref (a 0), .int (nI k)]) (kRi (bI (decide (p_reason N k = 0)))) 0 0 noF := by
  refine k_ofW (by decide) (Nat.le_of_ble_eq_true rfl) ?_
  intro p e s m args below meth c hx hb hr hml hts hown hlocks hnm hsz hP hK hD hE ls hl
  subst hsz
  have hl : lv_has ls 2 [(0, .ref (a 0)), (1, .int (nI k))] := hl
  refine lv_aload_n hx hb dX3_isReady_0 rfl (lv_at hl 0 rfl) ?_
  refine lv_iload_n hx hb dX3_isReady_1 rfl (lv_at hl 1 rfl) ?_
  refine k_riV (As := [.int (nI k)]) (rest := []) (wc := stW cI a N v) ⟨hx, hb, hml, hown, hts⟩ (c_X3_reasonOf l D cI cS cL a N v _ k (by omega)) lkX3_78 rfl rfl ⟨(Nat.le_of_ble_eq_true rfl), (Nat.le_of_ble_eq_true rfl)⟩ (va_recv hK hP (ci := 2) (q0 := 0) rfl rfl) hK hE hP hD rfl hl.1 rfl (Nat.le_of_ble_eq_true rfl) dX3_isReady_2 ⟨Nat.zero_le _, Nat.zero_le _⟩ ?_
  refine lv_if_ne (tgt := 12) hx hb dX3_isReady_5 (by decide) (fun c1 => ?_) (fun c1 => ?_)
  · refine lv_iconst (v := 0) hx hb dX3_isReady_12 (by decide) ?_
    exact k_eRz hx hb hr hlocks rfl (by exact bI_zero (by simp [c1])) dX3_isReady_13
  · refine lv_iconst (v := 1) hx hb dX3_isReady_8 (by decide) ?_
    refine lv_goto (tgt := 13) hx hb dX3_isReady_9 (by decide) ?_
    exact k_eRz hx hb hr hlocks rfl (by exact bI_one (by simp [c1])) dX3_isReady_13

abbrev rmX3_strengthAt : Room := { frames := 2, cells := 0, slots := 0, locals := 35 }
set_option maxHeartbeats 4000000 in
set_option maxRecDepth 100000 in
theorem c_X3_strengthAt (l : Launch) (D : va_G) (cI cS cL : ClassId) (a : Nat → Nat) (N : NN) (v : Nat → Int32) (sz : Nat) (k : Nat) (w : Int32) (hk : k < 14) : Met l yX3_strengthAt (wy_ yX3_strengthAt cX3_strengthAt 3 (some .int)) rmX3_strengthAt (kPc D (kTy cI cS cL) (stW cI a N v) sz [.ref (a 0), .int (nI k), .int w]) (kRi (p_strAt N k w)) 0 0 noF := by
  refine k_ofW (by decide) (Nat.le_of_ble_eq_true rfl) ?_
  intro p e s m args below meth c hx hb hr hml hts hown hlocks hnm hsz hP hK hD hE ls hl
  subst hsz
  have hl : lv_has ls 3 [(0, .ref (a 0)), (1, .int (nI k)), (2, .int w)] := hl
  refine lv_aload_n hx hb dX3_strengthAt_0 rfl (lv_at hl 0 rfl) ?_
  refine g3 hx hb hts hown hK hP 0 rfl 8 (by decide) flX3_25 (fun _ h => h) (v := .ref (a 3)) rfl dX3_strengthAt_1 ?_
  refine lv_iload_n hx hb dX3_strengthAt_4 rfl (lv_at hl 1 rfl) ?_
  refine k_ald (k := k) hx hb hK hP 3 0 rfl rfl rfl (by omega) (by decide) dX3_strengthAt_5 ?_
  refine lv_iload_n hx hb dX3_strengthAt_6 rfl (lv_at hl 2 rfl) ?_
  refine lv_aload_n hx hb dX3_strengthAt_7 rfl (lv_at hl 0 rfl) ?_
  refine g3 hx hb hts hown hK hP 0 rfl 0 (by decide) flX3_9 (fun _ h => h) (v := .int (N 1 0)) rfl dX3_strengthAt_8 ?_
  refine lv_aload_n hx hb dX3_strengthAt_11 rfl (lv_at hl 0 rfl) ?_
  refine g3 hx hb hts hown hK hP 0 rfl 11 (by decide) flX3_34 (fun _ h => h) (v := .ref (a 6)) rfl dX3_strengthAt_12 ?_
  refine lv_iload_n hx hb dX3_strengthAt_15 rfl (lv_at hl 1 rfl) ?_
  refine k_ald (k := k) hx hb hK hP 6 0 rfl rfl rfl (by omega) (by decide) dX3_strengthAt_16 ?_
  refine lv_isub hx hb dX3_strengthAt_17 (lv_topi (fun x1 e1 => ?_))
  refine lv_bipush (v := 100) hx hb dX3_strengthAt_18 (by decide) ?_
  refine lv_idiv hx hb dX3_strengthAt_20 (by decide) (lv_topi (fun x2 e2 => ?_))
  refine k_riS (As := [.int (N 3 k), .int w, .int x2]) (rest := []) (wc := []) ⟨hx, hb, hml, hown, hts⟩ (c_X1_strengthOf l D cI cS cL _ (N 3 k) w x2) lkX3_94 rfl rfl ⟨(Nat.le_of_ble_eq_true rfl), (Nat.le_of_ble_eq_true rfl)⟩ hK hE k_nilP (k_nilD (A := va_A (stW cI a N v) s.heap.size)) rfl hl.1 rfl (Nat.le_of_ble_eq_true rfl) dX3_strengthAt_21 ⟨Nat.zero_le _, Nat.zero_le _⟩ ?_
  exact k_eRi hx hb hr hlocks (by subst e1 e2; simp [p_strAt]) dX3_strengthAt_24

abbrev rmX3_priceOf : Room := { frames := 1, cells := 0, slots := 0, locals := 21 }
set_option maxHeartbeats 4000000 in
set_option maxRecDepth 100000 in
theorem c_X3_priceOf (l : Launch) (D : va_G) (cI cS cL : ClassId) (a : Nat → Nat) (N : NN) (v : Nat → Int32) (sz : Nat) (k : Nat) (hk : k < 14) : Met l yX3_priceOf (wy_ yX3_priceOf cX3_priceOf 2 (some .int)) rmX3_priceOf (kPc D (kTy cI cS cL) (stW cI a N v) sz [.ref (a 0), .int (nI k)]) (kRi (p_price N k)) 0 0 noF := by
  refine k_ofW (by decide) (Nat.le_of_ble_eq_true rfl) ?_
  intro p e s m args below meth c hx hb hr hml hts hown hlocks hnm hsz hP hK hD hE ls hl
  subst hsz
  have hl : lv_has ls 2 [(0, .ref (a 0)), (1, .int (nI k))] := hl
  refine lv_aload_n hx hb dX3_priceOf_0 rfl (lv_at hl 0 rfl) ?_
  refine g3 hx hb hts hown hK hP 0 rfl 8 (by decide) flX3_25 (fun _ h => h) (v := .ref (a 3)) rfl dX3_priceOf_1 ?_
  refine lv_iload_n hx hb dX3_priceOf_4 rfl (lv_at hl 1 rfl) ?_
  refine k_ald (k := k) hx hb hK hP 3 0 rfl rfl rfl (by omega) (by decide) dX3_priceOf_5 ?_
  refine lv_aload_n hx hb dX3_priceOf_6 rfl (lv_at hl 0 rfl) ?_
  refine g3 hx hb hts hown hK hP 0 rfl 9 (by decide) flX3_28 (fun _ h => h) (v := .ref (a 4)) rfl dX3_priceOf_7 ?_
  refine lv_iload_n hx hb dX3_priceOf_10 rfl (lv_at hl 1 rfl) ?_
  refine k_ald (k := k) hx hb hK hP 4 0 rfl rfl rfl (by omega) (by decide) dX3_priceOf_11 ?_
  refine k_riS (As := [.int (N 3 k), .int (N 4 k)]) (rest := []) (wc := []) ⟨hx, hb, hml, hown, hts⟩ (c_X1_costOf l D cI cS cL _ (N 3 k) (N 4 k)) lkX3_98 rfl rfl ⟨(Nat.le_of_ble_eq_true rfl), (Nat.le_of_ble_eq_true rfl)⟩ hK hE k_nilP (k_nilD (A := va_A (stW cI a N v) s.heap.size)) rfl hl.1 rfl (Nat.le_of_ble_eq_true rfl) dX3_priceOf_12 ⟨Nat.zero_le _, Nat.zero_le _⟩ ?_
  exact k_eRi hx hb hr hlocks (by simp [p_price]) dX3_priceOf_15

abbrev rmX3_canBuy : Room := { frames := 1, cells := 0, slots := 0, locals := 21 }
set_option maxHeartbeats 4000000 in
set_option maxRecDepth 100000 in
theorem c_X3_canBuy (l : Launch) (D : va_G) (cI cS cL : ClassId) (a : Nat → Nat) (N : NN) (v : Nat → Int32) (sz : Nat) (kd ln : Int32) : Met l yX3_canBuy (wy_ yX3_canBuy cX3_canBuy 3 (some .boolean)) rmX3_canBuy (kPc D (kTy cI cS cL) (stW cI a N v) sz [.ref (a 0), .int kd, .int ln]) (kRi (bI (p_can N kd ln))) 0 0 noF := by
  refine k_ofW (by decide) (Nat.le_of_ble_eq_true rfl) ?_
  intro p e s m args below meth c hx hb hr hml hts hown hlocks hnm hsz hP hK hD hE ls hl
  subst hsz
  have hl : lv_has ls 3 [(0, .ref (a 0)), (1, .int kd), (2, .int ln)] := hl
  refine lv_aload_n hx hb dX3_canBuy_0 rfl (lv_at hl 0 rfl) ?_
  refine g3 hx hb hts hown hK hP 0 rfl 2 (by decide) flX3_56 (fun _ h => h) (v := .int (N 1 2)) rfl dX3_canBuy_1 ?_
  refine lv_bipush (v := 14) hx hb dX3_canBuy_4 (by decide) ?_
  refine lv_icmp_ge (tgt := 25) hx hb dX3_canBuy_6 (by decide) (fun c1 => ?_) (fun c1 => ?_)
  · have c1' := Int32.not_lt.mpr c1
    refine lv_iconst (v := 0) hx hb dX3_canBuy_25 (by decide) ?_
    exact k_eRz hx hb hr hlocks rfl (by exact bI_zero (by simp [p_can, c1, c1'])) dX3_canBuy_26
  · have c1' := Int32.not_le.mp c1
    refine lv_iload_n hx hb dX3_canBuy_9 rfl (lv_at hl 1 rfl) ?_
    refine lv_iload_n hx hb dX3_canBuy_10 rfl (lv_at hl 2 rfl) ?_
    refine k_riS (As := [.int kd, .int ln]) (rest := []) (wc := []) ⟨hx, hb, hml, hown, hts⟩ (c_X1_costOf l D cI cS cL _ kd ln) lkX3_98 rfl rfl ⟨(Nat.le_of_ble_eq_true rfl), (Nat.le_of_ble_eq_true rfl)⟩ hK hE k_nilP (k_nilD (A := va_A (stW cI a N v) s.heap.size)) rfl hl.1 rfl (Nat.le_of_ble_eq_true rfl) dX3_canBuy_11 ⟨Nat.zero_le _, Nat.zero_le _⟩ ?_
    refine lv_aload_n hx hb dX3_canBuy_14 rfl (lv_at hl 0 rfl) ?_
    refine g3 hx hb hts hown hK hP 0 rfl 1 (by decide) flX3_15 (fun _ h => h) (v := .int (N 1 1)) rfl dX3_canBuy_15 ?_
    refine lv_icmp_gt (tgt := 25) hx hb dX3_canBuy_18 (by decide) (fun c2 => ?_) (fun c2 => ?_)
    · have c2' := Int32.not_le.mpr c2
      refine lv_iconst (v := 0) hx hb dX3_canBuy_25 (by decide) ?_
      exact k_eRz hx hb hr hlocks rfl (by exact bI_zero (by simp [p_can, c1, c1', c2, c2'])) dX3_canBuy_26
    · have c2' := Int32.not_lt.mp c2
      refine lv_iconst (v := 1) hx hb dX3_canBuy_21 (by decide) ?_
      refine lv_goto (tgt := 26) hx hb dX3_canBuy_22 (by decide) ?_
      exact k_eRz hx hb hr hlocks rfl (by exact bI_one (by simp [p_can, c1, c1', c2, c2'])) dX3_canBuy_26

abbrev rmX3_isOnTruck : Room := { frames := 1, cells := 0, slots := 0, locals := 22 }
set_option maxHeartbeats 4000000 in
set_option maxRecDepth 100000 in
theorem c_X3_isOnTruck (l : Launch) (D : va_G) (cI cS cL : ClassId) (a : Nat → Nat) (N : NN) (v : Nat → Int32) (sz : Nat) (k : Nat) (hk : k < 14) : Met l yX3_isOnTruck (wy_ yX3_isOnTruck cX3_isOnTruck 2 (some .boolean)) rmX3_isOnTruck (kPc D (kTy cI cS cL) (stW cI a N v) sz [.ref (a 0), .int (nI k)]) (kRi (bI (decide (0 ≤ N 9 k ∧ N 9 k ≤ 2)))) 0 0 noF := by
  refine k_ofW (by decide) (Nat.le_of_ble_eq_true rfl) ?_
  intro p e s m args below meth c hx hb hr hml hts hown hlocks hnm hsz hP hK hD hE ls hl
  subst hsz
  have hl : lv_has ls 2 [(0, .ref (a 0)), (1, .int (nI k))] := hl
  refine lv_aload_n hx hb dX3_isOnTruck_0 rfl (lv_at hl 0 rfl) ?_
  refine g3 hx hb hts hown hK hP 0 rfl 14 (by decide) flX3_43 (fun _ h => h) (v := .ref (a 9)) rfl dX3_isOnTruck_1 ?_
  refine lv_iload_n hx hb dX3_isOnTruck_4 rfl (lv_at hl 1 rfl) ?_
  refine k_ald (k := k) hx hb hK hP 9 0 rfl rfl rfl (by omega) (by decide) dX3_isOnTruck_5 ?_
  refine lv_iconst (v := 0) hx hb dX3_isOnTruck_6 (by decide) ?_
  refine lv_iconst (v := 2) hx hb dX3_isOnTruck_7 (by decide) ?_
  refine k_riN (As := [.int (N 9 k), .int 0, .int 2]) (rest := []) (wc := []) ⟨hx, hb, hml, hown, hts⟩ (c_X4_isWithin l D cI cS cL _ (N 9 k) 0 2) hE.2.1 lkX4_34.1.2.2.1 lkX4_34.1.2.2.2 lkX4_34.1.2.1 lkX4_34.2 rfl rfl ⟨(Nat.le_of_ble_eq_true rfl), (Nat.le_of_ble_eq_true rfl)⟩ hK hE k_nilP (k_nilD (A := va_A (stW cI a N v) s.heap.size)) rfl hl.1 rfl (Nat.le_of_ble_eq_true rfl) dX3_isOnTruck_8 ⟨Nat.zero_le _, Nat.zero_le _⟩ ?_
  exact k_eRz hx hb hr hlocks (bI_nar _) rfl dX3_isOnTruck_11

abbrev rmX3_stepsHeld : Room := { frames := 3, cells := 0, slots := 0, locals := 57 }
set_option maxHeartbeats 4000000 in
set_option maxRecDepth 100000 in
theorem c_X3_stepsHeld (l : Launch) (D : va_G) (cI cS cL : ClassId) (a : Nat → Nat) (N : NN) (v : Nat → Int32) (sz : Nat) (k P : Nat) (hk : k < 14) (hPp : P ≤ 24) : Met l yX3_stepsHeld (wy_ yX3_stepsHeld cX3_stepsHeld 7 (some .int)) rmX3_stepsHeld (kPc D (kTy cI cS cL) (stW cI a N v) sz [.ref (a 0), .int (nI k), .int (nI P)]) (kRi (nI (p_held N k P))) 0 0 noF := by
  refine k_ofW (by decide) (Nat.le_of_ble_eq_true rfl) ?_
  intro p e s m args below meth c hx hb hr hml hts hown hlocks hnm hsz hP hK hD hE ls hl
  subst hsz
  have hl : lv_has ls 7 [(0, .ref (a 0)), (1, .int (nI k)), (2, .int (nI P))] := hl
  have hS6 := p_S_le hPp
  refine lv_iload_n hx hb dX3_stepsHeld_0 rfl (lv_at hl 2 rfl) ?_
  refine k_riS (As := [.int (nI P)]) (rest := []) (wc := []) ⟨hx, hb, hml, hown, hts⟩ (c_X3_stepsUpTo l D cI cS cL _ P (by omega)) lkX3_109 rfl rfl ⟨(Nat.le_of_ble_eq_true rfl), (Nat.le_of_ble_eq_true rfl)⟩ hK hE k_nilP (k_nilD (A := va_A (stW cI a N v) s.heap.size)) rfl hl.1 rfl (Nat.le_of_ble_eq_true rfl) dX3_stepsHeld_1 ⟨Nat.zero_le _, Nat.zero_le _⟩ ?_
  refine lv_istore_n (lv' := [(3, .int (nI (p_S P))), (0, .ref (a 0)), (1, .int (nI k)), (2, .int (nI P))]) hx hb dX3_stepsHeld_4 rfl hl (by decide) rfl (fun ls hl => ?_)
  refine lv_aload_n hx hb dX3_stepsHeld_5 rfl (lv_at hl 1 rfl) ?_
  refine g3 hx hb hts hown hK hP 0 rfl 12 (by decide) flX3_37 (fun _ h => h) (v := .ref (a 7)) rfl dX3_stepsHeld_6 ?_
  refine lv_iload_n hx hb dX3_stepsHeld_9 rfl (lv_at hl 2 rfl) ?_
  refine k_ald (k := k) hx hb hK hP 7 0 rfl rfl rfl (by omega) (by decide) dX3_stepsHeld_10 ?_
  refine lv_istore (lv' := [(4, .int (N 7 k)), (3, .int (nI (p_S P))), (0, .ref (a 0)), (1, .int (nI k)), (2, .int (nI P))]) hx hb dX3_stepsHeld_11 hl (by decide) rfl (fun ls hl => ?_)
  refine lv_iconst (v := 0) hx hb dX3_stepsHeld_13 (by decide) ?_
  refine lv_istore (lv' := [(5, .int 0), (4, .int (N 7 k)), (3, .int (nI (p_S P))), (0, .ref (a 0)), (1, .int (nI k)), (2, .int (nI P))]) hx hb dX3_stepsHeld_14 hl (by decide) rfl (fun ls hl => ?_)
  have L1 : ∀ (f j : Nat), j ≤ p_S P → p_S P - j < f → (hj : p_go N k P (p_S P - j) j = p_held N k P) → ∀ ls : Array Slot, lv_has ls 7 [(0, .ref (a 0)), (1, .int (nI k)), (2, .int (nI P)), (3, .int (nI (p_S P))), (4, .int (p_worn (N 7 k) j)), (5, .int (nI j))] → W p l e rmX3_stepsHeld s m args below meth c s.heap [] 0 0 (MQ below (kRi (nI (p_held N k P))) args s 0 0 noF) (F0 m 16 ls []) := by
    intro f
    induction f with
    | zero => intro j hv1 hv2; exact absurd hv2 (Nat.not_lt_zero _)
    | succ f ih =>
      intro j hv1 hv2 hj  ls hl
      refine lv_iload hx hb dX3_stepsHeld_16 (lv_at hl 5 rfl) ?_
      refine lv_iload_n hx hb dX3_stepsHeld_18 rfl (lv_at hl 3 rfl) ?_
      refine lv_icmp_ge (tgt := 66) hx hb dX3_stepsHeld_19 (by decide) (fun c2 => ?_) (fun c2 => ?_)
      · have c2' := Int32.not_lt.mpr c2
        have hjn : j = p_S P := k_exit (by omega) hv1 c2
        refine lv_iload_n hx hb dX3_stepsHeld_66 rfl (lv_at hl 3 rfl) ?_
        exact k_eRi hx hb hr hlocks (by rw [← hj, p_go_end hjn]) dX3_stepsHeld_67
      · have c2' := Int32.not_le.mp c2
        have hjn : j < p_S P := k_more (by omega) hv1 c2
        refine lv_iconst (v := 4) hx hb dX3_stepsHeld_22 (by decide) ?_
        refine lv_iload hx hb dX3_stepsHeld_23 (lv_at hl 5 rfl) ?_
        refine lv_iconst (v := 1) hx hb dX3_stepsHeld_25 (by decide) ?_
        refine lv_iadd hx hb dX3_stepsHeld_26 (lv_topi (fun x3 e3 => ?_))
        have q3 : x3 = nI (j + 1) := by rw [e3]; exact nI_1 _
        subst q3
        refine lv_imul hx hb dX3_stepsHeld_27 (lv_topi (fun x4 e4 => ?_))
        have q4 : x4 = nI (4 * (j + 1)) := by rw [e4]; exact pk_mul 4 (j + 1)
        subst q4
        refine lv_iload_n hx hb dX3_stepsHeld_28 rfl (lv_at hl 2 rfl) ?_
        refine va_mmin hx hb (hml.trans hl.1.symm) hown (hts _ wd_methodLink_RX3_112_Lib_Math_min_name) (hts _ wd_static_Lib_Math_min_name) (hts _ wd_initialized_java_lang_Math) (hts _ wd_code_Lib_Math_min_name_Lib_Math_min_code_2_some_int) (Nat.le_of_ble_eq_true rfl) (Nat.le_of_ble_eq_true rfl) (Nat.zero_le _) (Nat.zero_le _) dX3_stepsHeld_29 (lv_topi (fun x5 e5 => ?_))
        have q5 : x5 = nI (p_sp P j) := by rw [e5]; exact nI_sp hPp (by omega)
        subst q5
        refine lv_istore (lv' := [(6, .int (nI (p_sp P j))), (0, .ref (a 0)), (1, .int (nI k)), (2, .int (nI P)), (3, .int (nI (p_S P))), (4, .int (p_worn (N 7 k) j)), (5, .int (nI j))]) hx hb dX3_stepsHeld_32 hl (by decide) rfl (fun ls hl => ?_)
        refine lv_aload_n hx hb dX3_stepsHeld_34 rfl (lv_at hl 1 rfl) ?_
        refine lv_iload_n hx hb dX3_stepsHeld_35 rfl (lv_at hl 2 rfl) ?_
        refine lv_iload hx hb dX3_stepsHeld_36 (lv_at hl 5 rfl) ?_
        refine k_riV (As := [.int (nI k), .int (p_worn (N 7 k) j)]) (rest := []) (wc := stW cI a N v) ⟨hx, hb, hml, hown, hts⟩ (c_X3_strengthAt l D cI cS cL a N v _ k (p_worn (N 7 k) j) (by omega)) lkX3_117 rfl rfl ⟨(Nat.le_of_ble_eq_true rfl), (Nat.le_of_ble_eq_true rfl)⟩ (va_recv hK hP (ci := 2) (q0 := 0) rfl rfl) hK hE hP hD rfl hl.1 rfl (Nat.le_of_ble_eq_true rfl) dX3_stepsHeld_38 ⟨Nat.zero_le _, Nat.zero_le _⟩ ?_
        refine lv_iload hx hb dX3_stepsHeld_41 (lv_at hl 0 rfl) ?_
        refine lv_icmp_ge (tgt := 49) hx hb dX3_stepsHeld_43 (by decide) (fun c6 => ?_) (fun c6 => ?_)
        · have c6' := Int32.not_lt.mpr c6
          have hge := Int32.not_lt.mpr c6
          refine lv_bipush (v := 99) hx hb dX3_stepsHeld_49 (by decide) ?_
          refine lv_iload hx hb dX3_stepsHeld_51 (lv_at hl 5 rfl) ?_
          refine lv_iconst (v := 1) hx hb dX3_stepsHeld_53 (by decide) ?_
          refine lv_iadd hx hb dX3_stepsHeld_54 (lv_topi (fun x7 e7 => ?_))
          refine va_mmin hx hb (hml.trans hl.1.symm) hown (hts _ wd_methodLink_RX3_112_Lib_Math_min_name) (hts _ wd_static_Lib_Math_min_name) (hts _ wd_initialized_java_lang_Math) (hts _ wd_code_Lib_Math_min_name_Lib_Math_min_code_2_some_int) (Nat.le_of_ble_eq_true rfl) (Nat.le_of_ble_eq_true rfl) (Nat.zero_le _) (Nat.zero_le _) dX3_stepsHeld_55 (lv_topi (fun x8 e8 => ?_))
          refine lv_istore (lv' := [(4, .int x8), (6, .int (nI (p_sp P j))), (0, .ref (a 0)), (1, .int (nI k)), (2, .int (nI P)), (3, .int (nI (p_S P))), (5, .int (nI j))]) hx hb dX3_stepsHeld_58 hl (by decide) rfl (fun ls hl => ?_)
          refine lv_iinc (v := nI (j + 1)) (lv' := [(5, .int (nI (j + 1))), (4, .int x8), (6, .int (nI (p_sp P j))), (0, .ref (a 0)), (1, .int (nI k)), (2, .int (nI P)), (3, .int (nI (p_S P)))]) hx hb dX3_stepsHeld_60 hl (k := 6) rfl (nI_1 _) (by decide) rfl (fun ls hl => ?_)
          refine lv_goto (tgt := 16) hx hb dX3_stepsHeld_63 (by decide) ?_
          have hl : lv_has ls 7 [(0, .ref (a 0)), (1, .int (nI k)), (2, .int (nI P)), (3, .int (nI (p_S P))), (4, .int x8), (5, .int (nI (j + 1)))] := lv_sub hl [3, 4, 5, 6, 1, 0] rfl
          have w9 : x8 = p_worn (N 7 k) (j + 1) := by subst e7 e8; simp [hS6, c2, c2', hjn, c6, c6', hge, p_worn, mn]
          have hl : lv_has ls 7 [(0, .ref (a 0)), (1, .int (nI k)), (2, .int (nI P)), (3, .int (nI (p_S P))), (4, .int (p_worn (N 7 k) (j + 1))), (5, .int (nI (j + 1)))] := (congrArg (fun zz => lv_has ls 7 [(0, .ref (a 0)), (1, .int (nI k)), (2, .int (nI P)), (3, .int (nI (p_S P))), (4, .int zz), (5, .int (nI (j + 1)))]) w9).mp hl
          have hl : lv_has ls 7 [(0, .ref (a 0)), (1, .int (nI k)), (2, .int (nI P)), (3, .int (nI (p_S P))), (4, .int (p_worn (N 7 k) (j + 1))), (5, .int (nI (j + 1)))] := hl
          exact ih (j + 1) (by omega) (by omega) ((p_go_step hjn hge).symm.trans hj) ls hl
        · have c6' := Int32.not_le.mp c6
          have hlt := Int32.not_le.mp c6
          refine lv_iload hx hb dX3_stepsHeld_46 (lv_at hl 6 rfl) ?_
          exact k_eRi hx hb hr hlocks (by rw [← hj, p_go_stop hjn hlt]) dX3_stepsHeld_48
  have hl : lv_has ls 7 [(0, .ref (a 0)), (1, .int (nI k)), (2, .int (nI P)), (3, .int (nI (p_S P))), (4, .int (N 7 k)), (5, .int 0)] := lv_sub hl [3, 4, 5, 2, 1, 0] rfl
  have w10 : N 7 k = p_worn (N 7 k) 0 := by simp [hS6, p_worn, mn]
  have hl : lv_has ls 7 [(0, .ref (a 0)), (1, .int (nI k)), (2, .int (nI P)), (3, .int (nI (p_S P))), (4, .int (p_worn (N 7 k) 0)), (5, .int 0)] := (congrArg (fun zz => lv_has ls 7 [(0, .ref (a 0)), (1, .int (nI k)), (2, .int (nI P)), (3, .int (nI (p_S P))), (4, .int zz), (5, .int 0)]) w10).mp hl
  have hl : lv_has ls 7 [(0, .ref (a 0)), (1, .int (nI k)), (2, .int (nI P)), (3, .int (nI (p_S P))), (4, .int (p_worn (N 7 k) 0)), (5, .int (nI 0))] := hl
  exact L1 ((p_S P) - 0 + 1) 0 (by omega) (by omega) rfl ls hl

abbrev rmX3_outcomeOf : Room := { frames := 4, cells := 0, slots := 0, locals := 83 }
set_option maxHeartbeats 4000000 in
set_option maxRecDepth 100000 in
theorem c_X3_outcomeOf (l : Launch) (D : va_G) (cI cS cL : ClassId) (a : Nat → Nat) (N : NN) (v : Nat → Int32) (sz : Nat) (k P : Nat) (hk : k < 14) (hPp : P ≤ 24) : Met l yX3_outcomeOf (wy_ yX3_outcomeOf cX3_outcomeOf 4 (some .int)) rmX3_outcomeOf (kPc D (kTy cI cS cL) (stW cI a N v) sz [.ref (a 0), .int (nI k), .int (nI P)]) (kRi (p_out N k P)) 0 0 noF := by
  refine k_ofW (by decide) (Nat.le_of_ble_eq_true rfl) ?_
  intro p e s m args below meth c hx hb hr hml hts hown hlocks hnm hsz hP hK hD hE ls hl
  subst hsz
  have hl : lv_has ls 4 [(0, .ref (a 0)), (1, .int (nI k)), (2, .int (nI P))] := hl
  refine lv_aload_n hx hb dX3_outcomeOf_0 rfl (lv_at hl 0 rfl) ?_
  refine lv_iload_n hx hb dX3_outcomeOf_1 rfl (lv_at hl 1 rfl) ?_
  refine lv_iload_n hx hb dX3_outcomeOf_2 rfl (lv_at hl 2 rfl) ?_
  refine k_riV (As := [.int (nI k), .int (nI P)]) (rest := []) (wc := stW cI a N v) ⟨hx, hb, hml, hown, hts⟩ (c_X3_stepsHeld l D cI cS cL a N v _ k P (by omega) (by omega)) lkX3_120 rfl rfl ⟨(Nat.le_of_ble_eq_true rfl), (Nat.le_of_ble_eq_true rfl)⟩ (va_recv hK hP (ci := 2) (q0 := 0) rfl rfl) hK hE hP hD rfl hl.1 rfl (Nat.le_of_ble_eq_true rfl) dX3_outcomeOf_3 ⟨Nat.zero_le _, Nat.zero_le _⟩ ?_
  refine lv_istore_n (lv' := [(3, .int (nI (p_held N k P))), (0, .ref (a 0)), (1, .int (nI k)), (2, .int (nI P))]) hx hb dX3_outcomeOf_6 rfl hl (by decide) rfl (fun ls hl => ?_)
  refine lv_iload_n hx hb dX3_outcomeOf_7 rfl (lv_at hl 0 rfl) ?_
  refine lv_iload_n hx hb dX3_outcomeOf_8 rfl (lv_at hl 3 rfl) ?_
  refine k_riS (As := [.int (nI P)]) (rest := [.int (nI (p_held N k P))]) (wc := []) ⟨hx, hb, hml, hown, hts⟩ (c_X3_stepsUpTo l D cI cS cL _ P (by omega)) lkX3_109 rfl rfl ⟨(Nat.le_of_ble_eq_true rfl), (Nat.le_of_ble_eq_true rfl)⟩ hK hE k_nilP (k_nilD (A := va_A (stW cI a N v) s.heap.size)) rfl hl.1 rfl (Nat.le_of_ble_eq_true rfl) dX3_outcomeOf_9 ⟨Nat.zero_le _, Nat.zero_le _⟩ ?_
  refine lv_icmp_ge (tgt := 22) hx hb dX3_outcomeOf_12 (by decide) (fun c1 => ?_) (fun c1 => ?_)
  · have c1' := Int32.not_lt.mpr c1
    refine lv_iload_n hx hb dX3_outcomeOf_22 rfl (lv_at hl 0 rfl) ?_
    exact k_eRi hx hb hr hlocks (by exact p_out_ge hPp c1) dX3_outcomeOf_23
  · have c1' := Int32.not_le.mp c1
    refine lv_iload_n hx hb dX3_outcomeOf_15 rfl (lv_at hl 0 rfl) ?_
    refine lv_bipush (v := 100) hx hb dX3_outcomeOf_16 (by decide) ?_
    refine lv_iadd hx hb dX3_outcomeOf_18 (lv_topi (fun x2 e2 => ?_))
    have q2 : x2 = nI (p_held N k P + 100) := by rw [e2]; exact nI_add _ 100
    subst q2
    refine lv_goto (tgt := 23) hx hb dX3_outcomeOf_19 (by decide) ?_
    exact k_eRi hx hb hr hlocks (by exact p_out_lt hPp c1) dX3_outcomeOf_23

abbrev rmX3_greatestSafePressure : Room := { frames := 4, cells := 0, slots := 0, locals := 83 }
set_option maxHeartbeats 4000000 in
set_option maxRecDepth 100000 in
theorem c_X3_greatestSafePressure (l : Launch) (D : va_G) (cI cS cL : ClassId) (a : Nat → Nat) (N : NN) (v : Nat → Int32) (sz : Nat) (k : Nat) (hk : k < 14) : Met l yX3_greatestSafePressure (wy_ yX3_greatestSafePressure cX3_greatestSafePressure 3 (some .int)) rmX3_greatestSafePressure (kPc D (kTy cI cS cL) (stW cI a N v) sz [.ref (a 0), .int (nI k)]) (kRi (p_safe N k)) 0 0 noF := by
  refine k_ofW (by decide) (Nat.le_of_ble_eq_true rfl) ?_
  intro p e s m args below meth c hx hb hr hml hts hown hlocks hnm hsz hP hK hD hE ls hl
  subst hsz
  have hl : lv_has ls 3 [(0, .ref (a 0)), (1, .int (nI k))] := hl
  refine lv_bipush (v := 24) hx hb dX3_greatestSafePressure_0 (by decide) ?_
  refine lv_istore_n (lv' := [(2, .int 24), (0, .ref (a 0)), (1, .int (nI k))]) hx hb dX3_greatestSafePressure_2 rfl hl (by decide) rfl (fun ls hl => ?_)
  have L1 : ∀ (f j : Nat), j ≤ 21 → 21 - j < f → (hj : p_sf N k (21 - j) = p_safe N k) → ∀ ls : Array Slot, lv_has ls 3 [(0, .ref (a 0)), (1, .int (nI k)), (2, .int (nI (24 - j)))] → W p l e rmX3_greatestSafePressure s m args below meth c s.heap [] 0 0 (MQ below (kRi (p_safe N k)) args s 0 0 noF) (F0 m 3 ls []) := by
    intro f
    induction f with
    | zero => intro j hv1 hv2; exact absurd hv2 (Nat.not_lt_zero _)
    | succ f ih =>
      intro j hv1 hv2 hj  ls hl
      refine lv_iload_n hx hb dX3_greatestSafePressure_3 rfl (lv_at hl 2 rfl) ?_
      refine lv_iconst (v := 4) hx hb dX3_greatestSafePressure_4 (by decide) ?_
      refine lv_icmp_lt (tgt := 29) hx hb dX3_greatestSafePressure_5 (by decide) (fun c2 => ?_) (fun c2 => ?_)
      · have c2' := Int32.not_le.mpr c2
        have hjn := p_pr_lt hv1 c2
        refine lv_iconst (v := (-1)) hx hb dX3_greatestSafePressure_29 (by decide) ?_
        exact k_eRi hx hb hr hlocks (by rw [← hj, hjn]; rfl) dX3_greatestSafePressure_30
      · have c2' := Int32.not_lt.mp c2
        have hjn := p_pr_ge hv1 c2
        refine lv_aload_n hx hb dX3_greatestSafePressure_8 rfl (lv_at hl 0 rfl) ?_
        refine lv_iload_n hx hb dX3_greatestSafePressure_9 rfl (lv_at hl 1 rfl) ?_
        refine lv_iload_n hx hb dX3_greatestSafePressure_10 rfl (lv_at hl 2 rfl) ?_
        refine k_riV (As := [.int (nI k), .int (nI (24 - j))]) (rest := []) (wc := stW cI a N v) ⟨hx, hb, hml, hown, hts⟩ (c_X3_stepsHeld l D cI cS cL a N v _ k (24 - j) (by omega) (by omega)) lkX3_120 rfl rfl ⟨(Nat.le_of_ble_eq_true rfl), (Nat.le_of_ble_eq_true rfl)⟩ (va_recv hK hP (ci := 2) (q0 := 0) rfl rfl) hK hE hP hD rfl hl.1 rfl (Nat.le_of_ble_eq_true rfl) dX3_greatestSafePressure_11 ⟨Nat.zero_le _, Nat.zero_le _⟩ ?_
        refine lv_iload_n hx hb dX3_greatestSafePressure_14 rfl (lv_at hl 2 rfl) ?_
        refine k_riS (As := [.int (nI (24 - j))]) (rest := [.int (nI (p_held N k (24 - j)))]) (wc := []) ⟨hx, hb, hml, hown, hts⟩ (c_X3_stepsUpTo l D cI cS cL _ (24 - j) (by omega)) lkX3_109 rfl rfl ⟨(Nat.le_of_ble_eq_true rfl), (Nat.le_of_ble_eq_true rfl)⟩ hK hE k_nilP (k_nilD (A := va_A (stW cI a N v) s.heap.size)) rfl hl.1 rfl (Nat.le_of_ble_eq_true rfl) dX3_greatestSafePressure_15 ⟨Nat.zero_le _, Nat.zero_le _⟩ ?_
        refine lv_icmp_ne (tgt := 23) hx hb dX3_greatestSafePressure_18 (by decide) (fun c3 => ?_) (fun c3 => ?_)
        · have hne := c3
          refine lv_iinc (v := nI (24 - (j + 1))) (lv' := [(2, .int (nI (24 - (j + 1)))), (0, .ref (a 0)), (1, .int (nI k))]) hx hb dX3_greatestSafePressure_23 hl (k := 2) rfl (nI_dec (by omega)) (by decide) rfl (fun ls hl => ?_)
          refine lv_goto (tgt := 3) hx hb dX3_greatestSafePressure_26 (by decide) ?_
          have hl : lv_has ls 3 [(0, .ref (a 0)), (1, .int (nI k)), (2, .int (nI (24 - (j + 1))))] := lv_sub hl [1, 2, 0] rfl
          have hl : lv_has ls 3 [(0, .ref (a 0)), (1, .int (nI k)), (2, .int (nI (24 - (j + 1))))] := hl
          exact ih (j + 1) (by omega) (by omega) ((p_sf_miss hjn hne).symm.trans hj) ls hl
        · have heq := c3
          refine lv_iload_n hx hb dX3_greatestSafePressure_21 rfl (lv_at hl 2 rfl) ?_
          exact k_eRi hx hb hr hlocks (by rw [← hj, p_sf_hit hjn heq]) dX3_greatestSafePressure_22
  have hl : lv_has ls 3 [(0, .ref (a 0)), (1, .int (nI k)), (2, .int 24)] := lv_sub hl [1, 2, 0] rfl
  have hl : lv_has ls 3 [(0, .ref (a 0)), (1, .int (nI k)), (2, .int (nI (24 - 0)))] := hl
  exact L1 (21 - 0 + 1) 0 (by omega) (by omega) rfl ls hl

abbrev rmX3_hosesAt : Room := { frames := 0, cells := 0, slots := 0, locals := 0 }
set_option maxHeartbeats 4000000 in
set_option maxRecDepth 100000 in
theorem c_X3_hosesAt (l : Launch) (D : va_G) (cI cS cL : ClassId) (a : Nat → Nat) (N : NN) (v : Nat → Int32) (sz : Nat) (n : Nat) (hn : N 1 2 = nI n) (hn14 : n ≤ 14) (w : Int32) : Met l yX3_hosesAt (wy_ yX3_hosesAt cX3_hosesAt 4 (some .int)) rmX3_hosesAt (kPc D (kTy cI cS cL) (stW cI a N v) sz [.ref (a 0), .int w]) (kRi (p_at N w n)) 0 0 noF := by
  refine k_ofW (by decide) (Nat.le_of_ble_eq_true rfl) ?_
  intro p e s m args below meth c hx hb hr hml hts hown hlocks hnm hsz hP hK hD hE ls hl
  subst hsz
  have hl : lv_has ls 4 [(0, .ref (a 0)), (1, .int w)] := hl
  refine lv_iconst (v := 0) hx hb dX3_hosesAt_0 (by decide) ?_
  refine lv_istore_n (lv' := [(2, .int 0), (0, .ref (a 0)), (1, .int w)]) hx hb dX3_hosesAt_1 rfl hl (by decide) rfl (fun ls hl => ?_)
  refine lv_iconst (v := 0) hx hb dX3_hosesAt_2 (by decide) ?_
  refine lv_istore_n (lv' := [(3, .int 0), (2, .int 0), (0, .ref (a 0)), (1, .int w)]) hx hb dX3_hosesAt_3 rfl hl (by decide) rfl (fun ls hl => ?_)
  have L1 : ∀ (f k : Nat), k ≤ n → n - k < f → ∀ ls : Array Slot, lv_has ls 4 [(0, .ref (a 0)), (1, .int w), (2, .int (p_at N w k)), (3, .int (nI k))] → W p l e rmX3_hosesAt s m args below meth c s.heap [] 0 0 (MQ below (kRi (p_at N w n)) args s 0 0 noF) (F0 m 4 ls []) := by
    intro f
    induction f with
    | zero => intro k hv1 hv2; exact absurd hv2 (Nat.not_lt_zero _)
    | succ f ih =>
      intro k hv1 hv2  ls hl
      refine lv_iload_n hx hb dX3_hosesAt_4 rfl (lv_at hl 3 rfl) ?_
      refine lv_aload_n hx hb dX3_hosesAt_5 rfl (lv_at hl 0 rfl) ?_
      refine g3 hx hb hts hown hK hP 0 rfl 2 (by decide) flX3_56 (fun _ h => h) (v := .int (nI n)) (by rw [← hn]; rfl) dX3_hosesAt_6 ?_
      refine lv_icmp_ge (tgt := 31) hx hb dX3_hosesAt_9 (by decide) (fun c2 => ?_) (fun c2 => ?_)
      · have c2' := Int32.not_lt.mpr c2
        have hkn : k = n := k_exit (by omega) hv1 c2
        refine lv_iload_n hx hb dX3_hosesAt_31 rfl (lv_at hl 2 rfl) ?_
        exact k_eRi hx hb hr hlocks (by simp [p_at, c2, c2', hkn]) dX3_hosesAt_32
      · have c2' := Int32.not_le.mp c2
        have hkn : k < n := k_more (by omega) hv1 c2
        refine lv_aload_n hx hb dX3_hosesAt_12 rfl (lv_at hl 0 rfl) ?_
        refine g3 hx hb hts hown hK hP 0 rfl 14 (by decide) flX3_43 (fun _ h => h) (v := .ref (a 9)) rfl dX3_hosesAt_13 ?_
        refine lv_iload_n hx hb dX3_hosesAt_16 rfl (lv_at hl 3 rfl) ?_
        refine k_ald (k := k) hx hb hK hP 9 0 rfl rfl rfl (by omega) (by decide) dX3_hosesAt_17 ?_
        refine lv_iload_n hx hb dX3_hosesAt_18 rfl (lv_at hl 1 rfl) ?_
        refine lv_icmp_ne (tgt := 25) hx hb dX3_hosesAt_19 (by decide) (fun c3 => ?_) (fun c3 => ?_)
        · refine lv_iinc (v := nI (k + 1)) (lv' := [(3, .int (nI (k + 1))), (0, .ref (a 0)), (1, .int w), (2, .int (p_at N w k))]) hx hb dX3_hosesAt_25 hl (k := 3) rfl (nI_1 _) (by decide) rfl (fun ls hl => ?_)
          refine lv_goto (tgt := 4) hx hb dX3_hosesAt_28 (by decide) ?_
          have hl : lv_has ls 4 [(0, .ref (a 0)), (1, .int w), (2, .int (p_at N w k)), (3, .int (nI (k + 1)))] := lv_sub hl [1, 2, 3, 0] rfl
          have w4 : p_at N w k = p_at N w (k + 1) := by simp [p_at, c2, c2', hkn, c3]
          have hl : lv_has ls 4 [(0, .ref (a 0)), (1, .int w), (2, .int (p_at N w (k + 1))), (3, .int (nI (k + 1)))] := (congrArg (fun zz => lv_has ls 4 [(0, .ref (a 0)), (1, .int w), (2, .int zz), (3, .int (nI (k + 1)))]) w4).mp hl
          have hl : lv_has ls 4 [(0, .ref (a 0)), (1, .int w), (2, .int (p_at N w (k + 1))), (3, .int (nI (k + 1)))] := hl
          exact ih (k + 1) (by omega) (by omega) ls hl
        · obtain ⟨x5, e5⟩ : ∃ z : Int32, z = (p_at N w k) + 1 := ⟨_, rfl⟩
          refine lv_iinc (v := x5) (lv' := [(2, .int x5), (0, .ref (a 0)), (1, .int w), (3, .int (nI k))]) hx hb dX3_hosesAt_22 hl (k := 2) rfl (by rw [e5]; rfl) (by decide) rfl (fun ls hl => ?_)
          refine lv_iinc (v := nI (k + 1)) (lv' := [(3, .int (nI (k + 1))), (2, .int x5), (0, .ref (a 0)), (1, .int w)]) hx hb dX3_hosesAt_25 hl (k := 3) rfl (nI_1 _) (by decide) rfl (fun ls hl => ?_)
          refine lv_goto (tgt := 4) hx hb dX3_hosesAt_28 (by decide) ?_
          have hl : lv_has ls 4 [(0, .ref (a 0)), (1, .int w), (2, .int x5), (3, .int (nI (k + 1)))] := lv_sub hl [2, 3, 1, 0] rfl
          have w6 : x5 = p_at N w (k + 1) := by subst e5; simp [p_at, c2, c2', hkn, c3]
          have hl : lv_has ls 4 [(0, .ref (a 0)), (1, .int w), (2, .int (p_at N w (k + 1))), (3, .int (nI (k + 1)))] := (congrArg (fun zz => lv_has ls 4 [(0, .ref (a 0)), (1, .int w), (2, .int zz), (3, .int (nI (k + 1)))]) w6).mp hl
          have hl : lv_has ls 4 [(0, .ref (a 0)), (1, .int w), (2, .int (p_at N w (k + 1))), (3, .int (nI (k + 1)))] := hl
          exact ih (k + 1) (by omega) (by omega) ls hl
  have hl : lv_has ls 4 [(0, .ref (a 0)), (1, .int w), (2, .int 0), (3, .int 0)] := lv_sub hl [2, 3, 1, 0] rfl
  have hl : lv_has ls 4 [(0, .ref (a 0)), (1, .int w), (2, .int (p_at N w 0)), (3, .int (nI 0))] := hl
  exact L1 (n - 0 + 1) 0 (by omega) (by omega) ls hl

abbrev rmX3_readyHosesAt : Room := { frames := 3, cells := 0, slots := 0, locals := 63 }
set_option maxHeartbeats 4000000 in
set_option maxRecDepth 100000 in
theorem c_X3_readyHosesAt (l : Launch) (D : va_G) (cI cS cL : ClassId) (a : Nat → Nat) (N : NN) (v : Nat → Int32) (sz : Nat) (n : Nat) (hn : N 1 2 = nI n) (hn14 : n ≤ 14) (w : Int32) : Met l yX3_readyHosesAt (wy_ yX3_readyHosesAt cX3_readyHosesAt 4 (some .int)) rmX3_readyHosesAt (kPc D (kTy cI cS cL) (stW cI a N v) sz [.ref (a 0), .int w]) (kRi (p_ra N w n)) 0 0 noF := by
  refine k_ofW (by decide) (Nat.le_of_ble_eq_true rfl) ?_
  intro p e s m args below meth c hx hb hr hml hts hown hlocks hnm hsz hP hK hD hE ls hl
  subst hsz
  have hl : lv_has ls 4 [(0, .ref (a 0)), (1, .int w)] := hl
  refine lv_iconst (v := 0) hx hb dX3_readyHosesAt_0 (by decide) ?_
  refine lv_istore_n (lv' := [(2, .int 0), (0, .ref (a 0)), (1, .int w)]) hx hb dX3_readyHosesAt_1 rfl hl (by decide) rfl (fun ls hl => ?_)
  refine lv_iconst (v := 0) hx hb dX3_readyHosesAt_2 (by decide) ?_
  refine lv_istore_n (lv' := [(3, .int 0), (2, .int 0), (0, .ref (a 0)), (1, .int w)]) hx hb dX3_readyHosesAt_3 rfl hl (by decide) rfl (fun ls hl => ?_)
  have L1 : ∀ (f k : Nat), k ≤ n → n - k < f → ∀ ls : Array Slot, lv_has ls 4 [(0, .ref (a 0)), (1, .int w), (2, .int (p_ra N w k)), (3, .int (nI k))] → W p l e rmX3_readyHosesAt s m args below meth c s.heap [] 0 0 (MQ below (kRi (p_ra N w n)) args s 0 0 noF) (F0 m 4 ls []) := by
    intro f
    induction f with
    | zero => intro k hv1 hv2; exact absurd hv2 (Nat.not_lt_zero _)
    | succ f ih =>
      intro k hv1 hv2  ls hl
      refine lv_iload_n hx hb dX3_readyHosesAt_4 rfl (lv_at hl 3 rfl) ?_
      refine lv_aload_n hx hb dX3_readyHosesAt_5 rfl (lv_at hl 0 rfl) ?_
      refine g3 hx hb hts hown hK hP 0 rfl 2 (by decide) flX3_56 (fun _ h => h) (v := .int (nI n)) (by rw [← hn]; rfl) dX3_readyHosesAt_6 ?_
      refine lv_icmp_ge (tgt := 39) hx hb dX3_readyHosesAt_9 (by decide) (fun c2 => ?_) (fun c2 => ?_)
      · have c2' := Int32.not_lt.mpr c2
        have hkn : k = n := k_exit (by omega) hv1 c2
        refine lv_iload_n hx hb dX3_readyHosesAt_39 rfl (lv_at hl 2 rfl) ?_
        exact k_eRi hx hb hr hlocks (by simp [p_ra, c2, c2', hkn]) dX3_readyHosesAt_40
      · have c2' := Int32.not_le.mp c2
        have hkn : k < n := k_more (by omega) hv1 c2
        refine lv_aload_n hx hb dX3_readyHosesAt_12 rfl (lv_at hl 0 rfl) ?_
        refine g3 hx hb hts hown hK hP 0 rfl 14 (by decide) flX3_43 (fun _ h => h) (v := .ref (a 9)) rfl dX3_readyHosesAt_13 ?_
        refine lv_iload_n hx hb dX3_readyHosesAt_16 rfl (lv_at hl 3 rfl) ?_
        refine k_ald (k := k) hx hb hK hP 9 0 rfl rfl rfl (by omega) (by decide) dX3_readyHosesAt_17 ?_
        refine lv_iload_n hx hb dX3_readyHosesAt_18 rfl (lv_at hl 1 rfl) ?_
        refine lv_icmp_ne (tgt := 33) hx hb dX3_readyHosesAt_19 (by decide) (fun c3 => ?_) (fun c3 => ?_)
        · refine lv_iinc (v := nI (k + 1)) (lv' := [(3, .int (nI (k + 1))), (0, .ref (a 0)), (1, .int w), (2, .int (p_ra N w k))]) hx hb dX3_readyHosesAt_33 hl (k := 3) rfl (nI_1 _) (by decide) rfl (fun ls hl => ?_)
          refine lv_goto (tgt := 4) hx hb dX3_readyHosesAt_36 (by decide) ?_
          have hl : lv_has ls 4 [(0, .ref (a 0)), (1, .int w), (2, .int (p_ra N w k)), (3, .int (nI (k + 1)))] := lv_sub hl [1, 2, 3, 0] rfl
          have w4 : p_ra N w k = p_ra N w (k + 1) := by simp [p_ra, c2, c2', hkn, c3]
          have hl : lv_has ls 4 [(0, .ref (a 0)), (1, .int w), (2, .int (p_ra N w (k + 1))), (3, .int (nI (k + 1)))] := (congrArg (fun zz => lv_has ls 4 [(0, .ref (a 0)), (1, .int w), (2, .int zz), (3, .int (nI (k + 1)))]) w4).mp hl
          have hl : lv_has ls 4 [(0, .ref (a 0)), (1, .int w), (2, .int (p_ra N w (k + 1))), (3, .int (nI (k + 1)))] := hl
          exact ih (k + 1) (by omega) (by omega) ls hl
        · refine lv_aload_n hx hb dX3_readyHosesAt_22 rfl (lv_at hl 0 rfl) ?_
          refine lv_iload_n hx hb dX3_readyHosesAt_23 rfl (lv_at hl 3 rfl) ?_
          refine k_riV (As := [.int (nI k)]) (rest := []) (wc := stW cI a N v) ⟨hx, hb, hml, hown, hts⟩ (c_X3_isReady l D cI cS cL a N v _ k (by omega)) lkX3_138 rfl rfl ⟨(Nat.le_of_ble_eq_true rfl), (Nat.le_of_ble_eq_true rfl)⟩ (va_recv hK hP (ci := 2) (q0 := 0) rfl rfl) hK hE hP hD rfl hl.1 rfl (Nat.le_of_ble_eq_true rfl) dX3_readyHosesAt_24 ⟨Nat.zero_le _, Nat.zero_le _⟩ ?_
          refine lv_if_eq (tgt := 33) hx hb dX3_readyHosesAt_27 (by decide) (fun c5 => ?_) (fun c5 => ?_)
          · have c5 := bI_eq0 c5
            refine lv_iinc (v := nI (k + 1)) (lv' := [(3, .int (nI (k + 1))), (0, .ref (a 0)), (1, .int w), (2, .int (p_ra N w k))]) hx hb dX3_readyHosesAt_33 hl (k := 3) rfl (nI_1 _) (by decide) rfl (fun ls hl => ?_)
            refine lv_goto (tgt := 4) hx hb dX3_readyHosesAt_36 (by decide) ?_
            have hl : lv_has ls 4 [(0, .ref (a 0)), (1, .int w), (2, .int (p_ra N w k)), (3, .int (nI (k + 1)))] := lv_sub hl [1, 2, 3, 0] rfl
            have w6 : p_ra N w k = p_ra N w (k + 1) := by simp [p_ra, c2, c2', hkn, c3, c5]
            have hl : lv_has ls 4 [(0, .ref (a 0)), (1, .int w), (2, .int (p_ra N w (k + 1))), (3, .int (nI (k + 1)))] := (congrArg (fun zz => lv_has ls 4 [(0, .ref (a 0)), (1, .int w), (2, .int zz), (3, .int (nI (k + 1)))]) w6).mp hl
            have hl : lv_has ls 4 [(0, .ref (a 0)), (1, .int w), (2, .int (p_ra N w (k + 1))), (3, .int (nI (k + 1)))] := hl
            exact ih (k + 1) (by omega) (by omega) ls hl
          · have c5 := bI_ne0 c5
            obtain ⟨x7, e7⟩ : ∃ z : Int32, z = (p_ra N w k) + 1 := ⟨_, rfl⟩
            refine lv_iinc (v := x7) (lv' := [(2, .int x7), (0, .ref (a 0)), (1, .int w), (3, .int (nI k))]) hx hb dX3_readyHosesAt_30 hl (k := 2) rfl (by rw [e7]; rfl) (by decide) rfl (fun ls hl => ?_)
            refine lv_iinc (v := nI (k + 1)) (lv' := [(3, .int (nI (k + 1))), (2, .int x7), (0, .ref (a 0)), (1, .int w)]) hx hb dX3_readyHosesAt_33 hl (k := 3) rfl (nI_1 _) (by decide) rfl (fun ls hl => ?_)
            refine lv_goto (tgt := 4) hx hb dX3_readyHosesAt_36 (by decide) ?_
            have hl : lv_has ls 4 [(0, .ref (a 0)), (1, .int w), (2, .int x7), (3, .int (nI (k + 1)))] := lv_sub hl [2, 3, 1, 0] rfl
            have w8 : x7 = p_ra N w (k + 1) := by subst e7; simp [p_ra, c2, c2', hkn, c3, c5]
            have hl : lv_has ls 4 [(0, .ref (a 0)), (1, .int w), (2, .int (p_ra N w (k + 1))), (3, .int (nI (k + 1)))] := (congrArg (fun zz => lv_has ls 4 [(0, .ref (a 0)), (1, .int w), (2, .int zz), (3, .int (nI (k + 1)))]) w8).mp hl
            have hl : lv_has ls 4 [(0, .ref (a 0)), (1, .int w), (2, .int (p_ra N w (k + 1))), (3, .int (nI (k + 1)))] := hl
            exact ih (k + 1) (by omega) (by omega) ls hl
  have hl : lv_has ls 4 [(0, .ref (a 0)), (1, .int w), (2, .int 0), (3, .int 0)] := lv_sub hl [2, 3, 1, 0] rfl
  have hl : lv_has ls 4 [(0, .ref (a 0)), (1, .int w), (2, .int (p_ra N w 0)), (3, .int (nI 0))] := hl
  exact L1 (n - 0 + 1) 0 (by omega) (by omega) ls hl

abbrev rmX3_readyHoses : Room := { frames := 3, cells := 0, slots := 0, locals := 63 }
set_option maxHeartbeats 4000000 in
set_option maxRecDepth 100000 in
theorem c_X3_readyHoses (l : Launch) (D : va_G) (cI cS cL : ClassId) (a : Nat → Nat) (N : NN) (v : Nat → Int32) (sz : Nat) (n : Nat) (hn : N 1 2 = nI n) (hn14 : n ≤ 14) : Met l yX3_readyHoses (wy_ yX3_readyHoses cX3_readyHoses 3 (some .int)) rmX3_readyHoses (kPc D (kTy cI cS cL) (stW cI a N v) sz [.ref (a 0)]) (kRi (p_rh N n)) 0 0 noF := by
  refine k_ofW (by decide) (Nat.le_of_ble_eq_true rfl) ?_
  intro p e s m args below meth c hx hb hr hml hts hown hlocks hnm hsz hP hK hD hE ls hl
  subst hsz
  have hl : lv_has ls 3 [(0, .ref (a 0))] := hl
  refine lv_iconst (v := 0) hx hb dX3_readyHoses_0 (by decide) ?_
  refine lv_istore_n (lv' := [(1, .int 0), (0, .ref (a 0))]) hx hb dX3_readyHoses_1 rfl hl (by decide) rfl (fun ls hl => ?_)
  refine lv_iconst (v := 0) hx hb dX3_readyHoses_2 (by decide) ?_
  refine lv_istore_n (lv' := [(2, .int 0), (1, .int 0), (0, .ref (a 0))]) hx hb dX3_readyHoses_3 rfl hl (by decide) rfl (fun ls hl => ?_)
  have L1 : ∀ (f k : Nat), k ≤ n → n - k < f → ∀ ls : Array Slot, lv_has ls 3 [(0, .ref (a 0)), (1, .int (p_rh N k)), (2, .int (nI k))] → W p l e rmX3_readyHoses s m args below meth c s.heap [] 0 0 (MQ below (kRi (p_rh N n)) args s 0 0 noF) (F0 m 4 ls []) := by
    intro f
    induction f with
    | zero => intro k hv1 hv2; exact absurd hv2 (Nat.not_lt_zero _)
    | succ f ih =>
      intro k hv1 hv2  ls hl
      refine lv_iload_n hx hb dX3_readyHoses_4 rfl (lv_at hl 2 rfl) ?_
      refine lv_aload_n hx hb dX3_readyHoses_5 rfl (lv_at hl 0 rfl) ?_
      refine g3 hx hb hts hown hK hP 0 rfl 2 (by decide) flX3_56 (fun _ h => h) (v := .int (nI n)) (by rw [← hn]; rfl) dX3_readyHoses_6 ?_
      refine lv_icmp_ge (tgt := 29) hx hb dX3_readyHoses_9 (by decide) (fun c2 => ?_) (fun c2 => ?_)
      · have c2' := Int32.not_lt.mpr c2
        have hkn : k = n := k_exit (by omega) hv1 c2
        refine lv_iload_n hx hb dX3_readyHoses_29 rfl (lv_at hl 1 rfl) ?_
        exact k_eRi hx hb hr hlocks (by simp [p_rh, c2, c2', hkn]) dX3_readyHoses_30
      · have c2' := Int32.not_le.mp c2
        have hkn : k < n := k_more (by omega) hv1 c2
        refine lv_aload_n hx hb dX3_readyHoses_12 rfl (lv_at hl 0 rfl) ?_
        refine lv_iload_n hx hb dX3_readyHoses_13 rfl (lv_at hl 2 rfl) ?_
        refine k_riV (As := [.int (nI k)]) (rest := []) (wc := stW cI a N v) ⟨hx, hb, hml, hown, hts⟩ (c_X3_isReady l D cI cS cL a N v _ k (by omega)) lkX3_138 rfl rfl ⟨(Nat.le_of_ble_eq_true rfl), (Nat.le_of_ble_eq_true rfl)⟩ (va_recv hK hP (ci := 2) (q0 := 0) rfl rfl) hK hE hP hD rfl hl.1 rfl (Nat.le_of_ble_eq_true rfl) dX3_readyHoses_14 ⟨Nat.zero_le _, Nat.zero_le _⟩ ?_
        refine lv_if_eq (tgt := 23) hx hb dX3_readyHoses_17 (by decide) (fun c3 => ?_) (fun c3 => ?_)
        · have c3 := bI_eq0 c3
          refine lv_iinc (v := nI (k + 1)) (lv' := [(2, .int (nI (k + 1))), (0, .ref (a 0)), (1, .int (p_rh N k))]) hx hb dX3_readyHoses_23 hl (k := 2) rfl (nI_1 _) (by decide) rfl (fun ls hl => ?_)
          refine lv_goto (tgt := 4) hx hb dX3_readyHoses_26 (by decide) ?_
          have hl : lv_has ls 3 [(0, .ref (a 0)), (1, .int (p_rh N k)), (2, .int (nI (k + 1)))] := lv_sub hl [1, 2, 0] rfl
          have w4 : p_rh N k = p_rh N (k + 1) := by simp [p_rh, c2, c2', hkn, c3]
          have hl : lv_has ls 3 [(0, .ref (a 0)), (1, .int (p_rh N (k + 1))), (2, .int (nI (k + 1)))] := (congrArg (fun zz => lv_has ls 3 [(0, .ref (a 0)), (1, .int zz), (2, .int (nI (k + 1)))]) w4).mp hl
          have hl : lv_has ls 3 [(0, .ref (a 0)), (1, .int (p_rh N (k + 1))), (2, .int (nI (k + 1)))] := hl
          exact ih (k + 1) (by omega) (by omega) ls hl
        · have c3 := bI_ne0 c3
          obtain ⟨x5, e5⟩ : ∃ z : Int32, z = (p_rh N k) + 1 := ⟨_, rfl⟩
          refine lv_iinc (v := x5) (lv' := [(1, .int x5), (0, .ref (a 0)), (2, .int (nI k))]) hx hb dX3_readyHoses_20 hl (k := 1) rfl (by rw [e5]; rfl) (by decide) rfl (fun ls hl => ?_)
          refine lv_iinc (v := nI (k + 1)) (lv' := [(2, .int (nI (k + 1))), (1, .int x5), (0, .ref (a 0))]) hx hb dX3_readyHoses_23 hl (k := 2) rfl (nI_1 _) (by decide) rfl (fun ls hl => ?_)
          refine lv_goto (tgt := 4) hx hb dX3_readyHoses_26 (by decide) ?_
          have hl : lv_has ls 3 [(0, .ref (a 0)), (1, .int x5), (2, .int (nI (k + 1)))] := lv_sub hl [2, 1, 0] rfl
          have w6 : x5 = p_rh N (k + 1) := by subst e5; simp [p_rh, c2, c2', hkn, c3]
          have hl : lv_has ls 3 [(0, .ref (a 0)), (1, .int (p_rh N (k + 1))), (2, .int (nI (k + 1)))] := (congrArg (fun zz => lv_has ls 3 [(0, .ref (a 0)), (1, .int zz), (2, .int (nI (k + 1)))]) w6).mp hl
          have hl : lv_has ls 3 [(0, .ref (a 0)), (1, .int (p_rh N (k + 1))), (2, .int (nI (k + 1)))] := hl
          exact ih (k + 1) (by omega) (by omega) ls hl
  have hl : lv_has ls 3 [(0, .ref (a 0)), (1, .int 0), (2, .int 0)] := lv_sub hl [2, 1, 0] rfl
  have hl : lv_has ls 3 [(0, .ref (a 0)), (1, .int (p_rh N 0)), (2, .int (nI 0))] := hl
  exact L1 (n - 0 + 1) 0 (by omega) (by omega) ls hl

abbrev rmX3_daysToFirstLapse : Room := { frames := 3, cells := 0, slots := 0, locals := 63 }
set_option maxHeartbeats 4000000 in
set_option maxRecDepth 100000 in
theorem c_X3_daysToFirstLapse (l : Launch) (D : va_G) (cI cS cL : ClassId) (a : Nat → Nat) (N : NN) (v : Nat → Int32) (sz : Nat) (n : Nat) (hn : N 1 2 = nI n) (hn14 : n ≤ 14) : Met l yX3_daysToFirstLapse (wy_ yX3_daysToFirstLapse cX3_daysToFirstLapse 5 (some .int)) rmX3_daysToFirstLapse (kPc D (kTy cI cS cL) (stW cI a N v) sz [.ref (a 0)]) (kRi (p_fl N n)) 0 0 noF := by
  refine k_ofW (by decide) (Nat.le_of_ble_eq_true rfl) ?_
  intro p e s m args below meth c hx hb hr hml hts hown hlocks hnm hsz hP hK hD hE ls hl
  subst hsz
  have hl : lv_has ls 5 [(0, .ref (a 0))] := hl
  refine lv_iconst (v := (-1)) hx hb dX3_daysToFirstLapse_0 (by decide) ?_
  refine lv_istore_n (lv' := [(1, .int (-1)), (0, .ref (a 0))]) hx hb dX3_daysToFirstLapse_1 rfl hl (by decide) rfl (fun ls hl => ?_)
  refine lv_iconst (v := 0) hx hb dX3_daysToFirstLapse_2 (by decide) ?_
  refine lv_istore_n (lv' := [(2, .int 0), (1, .int (-1)), (0, .ref (a 0))]) hx hb dX3_daysToFirstLapse_3 rfl hl (by decide) rfl (fun ls hl => ?_)
  have L1 : ∀ (f k : Nat), k ≤ n → n - k < f → ∀ ls : Array Slot, lv_has ls 5 [(0, .ref (a 0)), (1, .int (p_fl N k)), (2, .int (nI k))] → W p l e rmX3_daysToFirstLapse s m args below meth c s.heap [] 0 0 (MQ below (kRi (p_fl N n)) args s 0 0 noF) (F0 m 4 ls []) := by
    intro f
    induction f with
    | zero => intro k hv1 hv2; exact absurd hv2 (Nat.not_lt_zero _)
    | succ f ih =>
      intro k hv1 hv2  ls hl
      refine lv_iload_n hx hb dX3_daysToFirstLapse_4 rfl (lv_at hl 2 rfl) ?_
      refine lv_aload_n hx hb dX3_daysToFirstLapse_5 rfl (lv_at hl 0 rfl) ?_
      refine g3 hx hb hts hown hK hP 0 rfl 2 (by decide) flX3_56 (fun _ h => h) (v := .int (nI n)) (by rw [← hn]; rfl) dX3_daysToFirstLapse_6 ?_
      refine lv_icmp_ge (tgt := 79) hx hb dX3_daysToFirstLapse_9 (by decide) (fun c2 => ?_) (fun c2 => ?_)
      · have c2' := Int32.not_lt.mpr c2
        have hkn : k = n := k_exit (by omega) hv1 c2
        refine lv_iload_n hx hb dX3_daysToFirstLapse_79 rfl (lv_at hl 1 rfl) ?_
        exact k_eRi hx hb hr hlocks (by simp [p_fl, p_dl, mn, c2, c2', hkn]) dX3_daysToFirstLapse_80
      · have c2' := Int32.not_le.mp c2
        have hkn : k < n := k_more (by omega) hv1 c2
        refine lv_aload_n hx hb dX3_daysToFirstLapse_12 rfl (lv_at hl 0 rfl) ?_
        refine lv_iload_n hx hb dX3_daysToFirstLapse_13 rfl (lv_at hl 2 rfl) ?_
        refine k_riV (As := [.int (nI k)]) (rest := []) (wc := stW cI a N v) ⟨hx, hb, hml, hown, hts⟩ (c_X3_isReady l D cI cS cL a N v _ k (by omega)) lkX3_138 rfl rfl ⟨(Nat.le_of_ble_eq_true rfl), (Nat.le_of_ble_eq_true rfl)⟩ (va_recv hK hP (ci := 2) (q0 := 0) rfl rfl) hK hE hP hD rfl hl.1 rfl (Nat.le_of_ble_eq_true rfl) dX3_daysToFirstLapse_14 ⟨Nat.zero_le _, Nat.zero_le _⟩ ?_
        refine lv_if_eq (tgt := 73) hx hb dX3_daysToFirstLapse_17 (by decide) (fun c3 => ?_) (fun c3 => ?_)
        · have c3 := bI_eq0 c3
          refine lv_iinc (v := nI (k + 1)) (lv' := [(2, .int (nI (k + 1))), (0, .ref (a 0)), (1, .int (p_fl N k))]) hx hb dX3_daysToFirstLapse_73 hl (k := 2) rfl (nI_1 _) (by decide) rfl (fun ls hl => ?_)
          refine lv_goto (tgt := 4) hx hb dX3_daysToFirstLapse_76 (by decide) ?_
          have hl : lv_has ls 5 [(0, .ref (a 0)), (1, .int (p_fl N k)), (2, .int (nI (k + 1)))] := lv_sub hl [1, 2, 0] rfl
          have w4 : p_fl N k = p_fl N (k + 1) := by first | (simp [p_fl, p_dl, mn, c2, c2', hkn, c3]; done) | (simp [p_fl, p_dl, mn, c2, c2', hkn, c3]; rfl)
          have hl : lv_has ls 5 [(0, .ref (a 0)), (1, .int (p_fl N (k + 1))), (2, .int (nI (k + 1)))] := (congrArg (fun zz => lv_has ls 5 [(0, .ref (a 0)), (1, .int zz), (2, .int (nI (k + 1)))]) w4).mp hl
          have hl : lv_has ls 5 [(0, .ref (a 0)), (1, .int (p_fl N (k + 1))), (2, .int (nI (k + 1)))] := hl
          exact ih (k + 1) (by omega) (by omega) ls hl
        · have c3 := bI_ne0 c3
          refine lv_aload_n hx hb dX3_daysToFirstLapse_20 rfl (lv_at hl 0 rfl) ?_
          refine g3 hx hb hts hown hK hP 0 rfl 13 (by decide) flX3_40 (fun _ h => h) (v := .ref (a 8)) rfl dX3_daysToFirstLapse_21 ?_
          refine lv_iload_n hx hb dX3_daysToFirstLapse_24 rfl (lv_at hl 2 rfl) ?_
          refine k_ald (k := k) hx hb hK hP 8 0 rfl rfl rfl (by omega) (by decide) dX3_daysToFirstLapse_25 ?_
          refine lv_aload_n hx hb dX3_daysToFirstLapse_26 rfl (lv_at hl 0 rfl) ?_
          refine g3 hx hb hts hown hK hP 0 rfl 11 (by decide) flX3_34 (fun _ h => h) (v := .ref (a 6)) rfl dX3_daysToFirstLapse_27 ?_
          refine lv_iload_n hx hb dX3_daysToFirstLapse_30 rfl (lv_at hl 2 rfl) ?_
          refine k_ald (k := k) hx hb hK hP 6 0 rfl rfl rfl (by omega) (by decide) dX3_daysToFirstLapse_31 ?_
          refine lv_aload_n hx hb dX3_daysToFirstLapse_32 rfl (lv_at hl 0 rfl) ?_
          refine g3 hx hb hts hown hK hP 0 rfl 8 (by decide) flX3_25 (fun _ h => h) (v := .ref (a 3)) rfl dX3_daysToFirstLapse_33 ?_
          refine lv_iload_n hx hb dX3_daysToFirstLapse_36 rfl (lv_at hl 2 rfl) ?_
          refine k_ald (k := k) hx hb hK hP 3 0 rfl rfl rfl (by omega) (by decide) dX3_daysToFirstLapse_37 ?_
          refine k_riS (As := [.int (N 3 k)]) (rest := [.int (N 6 k), .int (N 8 k)]) (wc := []) ⟨hx, hb, hml, hown, hts⟩ (c_X1_lifeOf l D cI cS cL _ (N 3 k)) lkX3_89 rfl rfl ⟨(Nat.le_of_ble_eq_true rfl), (Nat.le_of_ble_eq_true rfl)⟩ hK hE k_nilP (k_nilD (A := va_A (stW cI a N v) s.heap.size)) rfl hl.1 rfl (Nat.le_of_ble_eq_true rfl) dX3_daysToFirstLapse_38 ⟨Nat.zero_le _, Nat.zero_le _⟩ ?_
          refine lv_iadd hx hb dX3_daysToFirstLapse_41 (lv_topi (fun x5 e5 => ?_))
          refine va_mmin hx hb (hml.trans hl.1.symm) hown (hts _ wd_methodLink_RX3_112_Lib_Math_min_name) (hts _ wd_static_Lib_Math_min_name) (hts _ wd_initialized_java_lang_Math) (hts _ wd_code_Lib_Math_min_name_Lib_Math_min_code_2_some_int) (Nat.le_of_ble_eq_true rfl) (Nat.le_of_ble_eq_true rfl) (Nat.zero_le _) (Nat.zero_le _) dX3_daysToFirstLapse_42 (lv_topi (fun x6 e6 => ?_))
          refine lv_istore_n (lv' := [(3, .int x6), (0, .ref (a 0)), (1, .int (p_fl N k)), (2, .int (nI k))]) hx hb dX3_daysToFirstLapse_45 rfl hl (by decide) rfl (fun ls hl => ?_)
          refine lv_iload_n hx hb dX3_daysToFirstLapse_46 rfl (lv_at hl 0 rfl) ?_
          refine lv_iconst (v := 1) hx hb dX3_daysToFirstLapse_47 (by decide) ?_
          refine lv_iadd hx hb dX3_daysToFirstLapse_48 (lv_topi (fun x7 e7 => ?_))
          refine lv_aload_n hx hb dX3_daysToFirstLapse_49 rfl (lv_at hl 1 rfl) ?_
          refine g3 hx hb hts hown hK hP 0 rfl 0 (by decide) flX3_9 (fun _ h => h) (v := .int (N 1 0)) rfl dX3_daysToFirstLapse_50 ?_
          refine lv_isub hx hb dX3_daysToFirstLapse_53 (lv_topi (fun x8 e8 => ?_))
          refine lv_istore (lv' := [(4, .int x8), (3, .int x6), (0, .ref (a 0)), (1, .int (p_fl N k)), (2, .int (nI k))]) hx hb dX3_daysToFirstLapse_54 hl (by decide) rfl (fun ls hl => ?_)
          refine lv_iload_n hx hb dX3_daysToFirstLapse_56 rfl (lv_at hl 3 rfl) ?_
          refine lv_iconst (v := (-1)) hx hb dX3_daysToFirstLapse_57 (by decide) ?_
          refine lv_icmp_ne (tgt := 66) hx hb dX3_daysToFirstLapse_58 (by decide) (fun c9 => ?_) (fun c9 => ?_)
          · refine lv_iload_n hx hb dX3_daysToFirstLapse_66 rfl (lv_at hl 3 rfl) ?_
            refine lv_iload hx hb dX3_daysToFirstLapse_67 (lv_at hl 0 rfl) ?_
            refine va_mmin hx hb (hml.trans hl.1.symm) hown (hts _ wd_methodLink_RX3_112_Lib_Math_min_name) (hts _ wd_static_Lib_Math_min_name) (hts _ wd_initialized_java_lang_Math) (hts _ wd_code_Lib_Math_min_name_Lib_Math_min_code_2_some_int) (Nat.le_of_ble_eq_true rfl) (Nat.le_of_ble_eq_true rfl) (Nat.zero_le _) (Nat.zero_le _) dX3_daysToFirstLapse_69 (lv_topi (fun x10 e10 => ?_))
            refine lv_istore_n (lv' := [(1, .int x10), (4, .int x8), (3, .int x6), (0, .ref (a 0)), (2, .int (nI k))]) hx hb dX3_daysToFirstLapse_72 rfl hl (by decide) rfl (fun ls hl => ?_)
            refine lv_iinc (v := nI (k + 1)) (lv' := [(2, .int (nI (k + 1))), (1, .int x10), (4, .int x8), (3, .int x6), (0, .ref (a 0))]) hx hb dX3_daysToFirstLapse_73 hl (k := 4) rfl (nI_1 _) (by decide) rfl (fun ls hl => ?_)
            refine lv_goto (tgt := 4) hx hb dX3_daysToFirstLapse_76 (by decide) ?_
            have hl : lv_has ls 5 [(0, .ref (a 0)), (1, .int x10), (2, .int (nI (k + 1)))] := lv_sub hl [4, 1, 0] rfl
            have w11 : x10 = p_fl N (k + 1) := by first | (subst e5 e6 e7 e8 e10; simp [p_fl, p_dl, mn, c2, c2', hkn, c3, c9]; done) | (subst e5 e6 e7 e8 e10; simp [p_fl, p_dl, mn, c2, c2', hkn, c3, c9]; rfl)
            have hl : lv_has ls 5 [(0, .ref (a 0)), (1, .int (p_fl N (k + 1))), (2, .int (nI (k + 1)))] := (congrArg (fun zz => lv_has ls 5 [(0, .ref (a 0)), (1, .int zz), (2, .int (nI (k + 1)))]) w11).mp hl
            have hl : lv_has ls 5 [(0, .ref (a 0)), (1, .int (p_fl N (k + 1))), (2, .int (nI (k + 1)))] := hl
            exact ih (k + 1) (by omega) (by omega) ls hl
          · refine lv_iload hx hb dX3_daysToFirstLapse_61 (lv_at hl 0 rfl) ?_
            refine lv_goto (tgt := 72) hx hb dX3_daysToFirstLapse_63 (by decide) ?_
            refine lv_istore_n (lv' := [(1, .int x8), (4, .int x8), (3, .int x6), (0, .ref (a 0)), (2, .int (nI k))]) hx hb dX3_daysToFirstLapse_72 rfl hl (by decide) rfl (fun ls hl => ?_)
            refine lv_iinc (v := nI (k + 1)) (lv' := [(2, .int (nI (k + 1))), (1, .int x8), (4, .int x8), (3, .int x6), (0, .ref (a 0))]) hx hb dX3_daysToFirstLapse_73 hl (k := 4) rfl (nI_1 _) (by decide) rfl (fun ls hl => ?_)
            refine lv_goto (tgt := 4) hx hb dX3_daysToFirstLapse_76 (by decide) ?_
            have hl : lv_has ls 5 [(0, .ref (a 0)), (1, .int x8), (2, .int (nI (k + 1)))] := lv_sub hl [4, 1, 0] rfl
            have w12 : x8 = p_fl N (k + 1) := by first | (subst e5 e6 e7 e8; simp [p_fl, p_dl, mn, c2, c2', hkn, c3, c9]; done) | (subst e5 e6 e7 e8; simp [p_fl, p_dl, mn, c2, c2', hkn, c3, c9]; rfl)
            have hl : lv_has ls 5 [(0, .ref (a 0)), (1, .int (p_fl N (k + 1))), (2, .int (nI (k + 1)))] := (congrArg (fun zz => lv_has ls 5 [(0, .ref (a 0)), (1, .int zz), (2, .int (nI (k + 1)))]) w12).mp hl
            have hl : lv_has ls 5 [(0, .ref (a 0)), (1, .int (p_fl N (k + 1))), (2, .int (nI (k + 1)))] := hl
            exact ih (k + 1) (by omega) (by omega) ls hl
  have hl : lv_has ls 5 [(0, .ref (a 0)), (1, .int (-1)), (2, .int 0)] := lv_sub hl [2, 1, 0] rfl
  have w13 : (-1) = p_fl N 0 := by first | (simp [p_fl, p_dl, mn]; done) | (simp [p_fl, p_dl, mn]; rfl)
  have hl : lv_has ls 5 [(0, .ref (a 0)), (1, .int (p_fl N 0)), (2, .int 0)] := (congrArg (fun zz => lv_has ls 5 [(0, .ref (a 0)), (1, .int zz), (2, .int 0)]) w13).mp hl
  have hl : lv_has ls 5 [(0, .ref (a 0)), (1, .int (p_fl N 0)), (2, .int (nI 0))] := hl
  exact L1 (n - 0 + 1) 0 (by omega) (by omega) ls hl
end
